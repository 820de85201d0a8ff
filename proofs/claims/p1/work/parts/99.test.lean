def env6 : EV := [(iLo, iHi), (iLo, iHi), (iLo, iHi), (iLo, iHi), (iLo, iHi), (iLo, iHi)]
def lv6 : LW := [.inr (.inr (.retAddr 0)), .inr (.inr (.ref 0)), .inr (.inr (.ref 143)), .inr (.inr (.ref 173)), .inl (.ofNat 0), aU, aU]
def rt6 : RT := fun _ q _ _ => match q with
  | .inl (some (.inl 1)) => true
  | _ => false
noncomputable def cas (T : List (Nat × OPF)) (pc : Nat) : Bool := aB (6, M_368, []) T mtW (aM 6 100000 mtW 40) rt6 100000 env6 pc T lv6 [] n_at h_at 300 9000
set_option maxRecDepth 1000000 in
theorem t_3 : cas TL_3 516 = true := by decide +kernel
set_option maxRecDepth 1000000 in
theorem t_14 : cas TL_14 1185 = true := by decide +kernel

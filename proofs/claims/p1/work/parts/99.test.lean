def aNew (ci : Nat) : AE := .inr (ci, (dflt ci).map (fun v => match v with | .int x => aK x.toInt | v => .inl v))
noncomputable def hOf (o : Option (List AO)) : AH := match o with
  | some (x :: _) => x.2.2
  | _ => []
noncomputable def hp1 : AH := hOf (aEx false (fun _ => []) (fun _ _ _ => none) 6 3000 10 0 [.inl (.ref 0)] [aNew 9] [])
set_option maxRecDepth 1000000 in
theorem t_3 : (hp1.length == 143) = true := by decide +kernel

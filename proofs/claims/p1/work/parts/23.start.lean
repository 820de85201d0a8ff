/-! laid by wip/p1/gen8.py: ahead of the cases -/
noncomputable def TP0 : List (Nat × OPF) := [(0, o_new 9 12 dW_9 3), (3, o_dup 4), (4, o_call 0 true), (7, o_astore 1 8), (8, o_new 10 37 dW_10 11), (11, o_dup 12), (12, o_call 224 true), (15, o_astore 2 16), (16, o_push (.inl (.ofNat 1)) 17), (17, o_newl 19), (19, o_astore 3 20), (20, o_push (.inl (.ofNat 0)) 21), (21, o_istore 4 23), (23, o_iload 4 25), (25, o_aload 0 26), (26, o_alen 27), (27, o_push (.inl (.ofNat 6)) 29), (29, o_isub 30), (30, o_icmp .gt 3635 33), (33, o_aload 0 34), (34, o_iload 4 36), (36, o_iald 37), (37, o_push (.inl (.ofNat 63)) 39), (39, o_any (· &&& ·) 40), (40, o_sw 3629 (.ofNat 0) (.ofNat 48) [252, 356, 424, 516, 560, 628, 701, 769, 837, 850, 918, 998, 1066, 1122, 1185, 1229, 1297, 1377, 1445, 1501, 1545, 1613, 1693, 1761, 1853, 1933, 2025, 2105, 2185, 2284, 2368, 2464, 2520, 2600, 2704, 2776, 2820, 2876, 2920, 2976, 3032, 3100, 3196, 3276, 3344, 3436, 3492, 3548, 3604]), (3629, o_iinc 4 (.ofNat 6) 3632), (3632, o_goto 23), (3635, o_push (.inl (.ofNat 1)) 3636), (3636, o_iret)]
def vEq (x y : AV) : Bool := match x, y with
  | .inl x, .inl y => bEq x y
  | .inr (.inr (.ref a)), .inr (.inr (.ref b)) => Nat.beq a b
  | .inr (.inr .null), .inr (.inr .null) => true
  | .inr (.inr (.retAddr a)), .inr (.inr (.retAddr b)) => Nat.beq a b
  | .inr (.inr (.long x)), .inr (.inr (.long y)) => decide (x = y)
  | _, _ => false
theorem vEq_ok {x y : AV} (h : vEq x y = true) : x = y := by
  unfold vEq at h
  split at h
  · rw [bEq_iff.mp h]
  · rw [beq_iff.mp h]
  · rfl
  · rw [beq_iff.mp h]
  · rw [of_decide_eq_true h]
  · cases h
def lEqG {α : Type} (f : α → α → Bool) : List α → List α → Bool
  | [], [] => true
  | a :: l, b :: m => (match f a b with
    | true => lEqG f l m
    | false => false)
  | _, _ => false
theorem lEqG_ok {α : Type} {f : α → α → Bool} (hf : ∀ a b, f a b = true → a = b) : ∀ {l m : List α}, lEqG f l m = true → l = m
  | [], [], _ => rfl
  | [], _ :: _, h => by cases (show false = true from h)
  | _ :: _, [], h => by cases (show false = true from h)
  | a :: l, b :: m, h => by
    have h1 : (match f a b with | true => lEqG f l m | false => false) = true := by rw [lEqG] at h; exact h
    split at h1
    · rename_i q
      rw [hf a b q, lEqG_ok hf h1]
    · cases h1
def eEq (x y : AE) : Bool := match x, y with
  | .inl (t, l), .inl (u, m) => Nat.beq t u && lEqG vEq l m
  | .inr (t, l), .inr (u, m) => Nat.beq t u && lEqG vEq l m
  | _, _ => false
theorem eEq_ok {x y : AE} (h : eEq x y = true) : x = y := by
  unfold eEq at h
  split at h
  · rw [Bool.and_eq_true] at h
    rw [beq_iff.mp h.1, lEqG_ok (fun _ _ q => vEq_ok q) h.2]
  · rw [Bool.and_eq_true] at h
    rw [beq_iff.mp h.1, lEqG_ok (fun _ _ q => vEq_ok q) h.2]
  · cases h
def o_stop : OPF := fun _ _ lv st m h c s _ _ _ _ => match st with
  | [] => Nat.beq m n_at && (Nat.beq c c_at && (Nat.beq s s_at && (lEqG vEq lv lv6 && lEqG (lEqG eEq) h h_at)))
  | _ => false
theorem stop_ok {θ : Nat → Int32} {pc : Nat} (H : CASE pc) : SOK θ 6 (Ex (6, θ) (20 + 4)) M_368 [] Q1 pc o_stop := by
  intro env lv st m h c s go cut call ret lv' st' h' he hlv hst hh hgo hcall hret H2
  unfold o_stop at H2
  split at H2
  · rw [Bool.and_eq_true, Bool.and_eq_true, Bool.and_eq_true, Bool.and_eq_true, beq_iff, beq_iff, beq_iff] at H2
    obtain ⟨e1, e2, e3, e4, e5⟩ := H2
    have e4 := lEqG_ok (fun _ _ q => vEq_ok q) e4
    have e5 := lEqG_ok (fun _ _ q => lEqG_ok (fun _ _ q => eEq_ok q) q) e5
    subst e1
    subst e2
    subst e3
    subst e4
    subst e5
    cases (show st' = [] from hst)
    exact Or.inr (H θ lv' h' hlv hh)
  · cases H2
def h_0 : HT := List.replicate 11 (List.replicate 16 (.inl (99, [])))
def lv0 : LW := [.inr (.inr (.retAddr 0)), aU, aU, aU, aU, aU, aU]
noncomputable def TS : List (Nat × OPF) := [(252, o_stop), (356, o_stop), (424, o_stop), (516, o_stop), (560, o_stop), (628, o_stop), (701, o_stop), (769, o_stop), (837, o_stop), (850, o_stop), (918, o_stop), (998, o_stop), (1066, o_stop), (1122, o_stop), (1185, o_stop), (1229, o_stop), (1297, o_stop), (1377, o_stop), (1445, o_stop), (1501, o_stop), (1545, o_stop), (1613, o_stop), (1693, o_stop), (1761, o_stop), (1853, o_stop), (1933, o_stop), (2025, o_stop), (2105, o_stop), (2185, o_stop), (2284, o_stop), (2368, o_stop), (2464, o_stop), (2520, o_stop), (2600, o_stop), (2704, o_stop), (2776, o_stop), (2820, o_stop), (2876, o_stop), (2920, o_stop), (2976, o_stop), (3032, o_stop), (3100, o_stop), (3196, o_stop), (3276, o_stop), (3344, o_stop), (3436, o_stop), (3492, o_stop), (3548, o_stop), (3604, o_stop)]
noncomputable def pro (L : Nat) (T : List (Nat × OPF)) : Bool := aB (L, M_368, []) T mtW (aM L 100000 mtW 20) rt6 100000 env6 0 T lv0 [] 0 h_0 0 0

set_option maxRecDepth 1000000 in
theorem qp : TP0 = (((pT M_368).drop 0).take 25 ++ ((pT M_368).drop 2260).take 4).map (mkM []) := rfl
set_option maxRecDepth 1000000 in
theorem pr_0 : pro 0 TP0 = true := by decide +kernel
set_option maxRecDepth 1000000 in
theorem pr_1 : pro 1 TP0 = true := by decide +kernel
set_option maxRecDepth 1000000 in
theorem pr_2 : pro 2 TP0 = true := by decide +kernel
set_option maxRecDepth 1000000 in
theorem pr_3 : pro 3 TP0 = true := by decide +kernel
set_option maxRecDepth 1000000 in
theorem pr_4 : pro 4 TP0 = true := by decide +kernel
set_option maxRecDepth 1000000 in
theorem pr_5 : pro 5 TP0 = true := by decide +kernel
set_option maxRecDepth 1000000 in
theorem pr_6 : pro 6 (TP0 ++ TS) = true := by decide +kernel
theorem tp_sok {θ : Nat → Int32} {L n : Nat} {Q : Rs → PH → Prop} : ∀ e ∈ TP0, SOK θ L (Ex (L, θ) (n + 4)) M_368 [] Q e.1 e.2 := law_sok qp (fun te h => by
  rcases List.mem_append.mp h with h | h
  · exact dt h
  · exact dt h)
theorem ts_sok {θ : Nat → Int32} : ∀ e ∈ TP0 ++ TS, SOK θ 6 (Ex (6, θ) (20 + 4)) M_368 [] Q1 e.1 e.2 := by
  intro e he
  rcases List.mem_append.mp he with he | he
  · exact tp_sok e he
  · unfold TS at he
    simp only [List.mem_cons, List.not_mem_nil, or_false] at he
    rcases he with rfl | rfl | rfl | rfl | rfl | rfl | rfl | rfl | rfl | rfl | rfl | rfl | rfl | rfl | rfl | rfl | rfl | rfl | rfl | rfl | rfl | rfl | rfl | rfl | rfl | rfl | rfl | rfl | rfl | rfl | rfl | rfl | rfl | rfl | rfl | rfl | rfl | rfl | rfl | rfl | rfl | rfl | rfl | rfl | rfl | rfl | rfl | rfl | rfl
    · exact stop_ok ca_0
    · exact stop_ok ca_1
    · exact stop_ok ca_2
    · exact stop_ok ca_3
    · exact stop_ok ca_4
    · exact stop_ok ca_5
    · exact stop_ok ca_6
    · exact stop_ok ca_7
    · exact stop_ok ca_8
    · exact stop_ok ca_9
    · exact stop_ok ca_10
    · exact stop_ok ca_11
    · exact stop_ok ca_12
    · exact stop_ok ca_13
    · exact stop_ok ca_14
    · exact stop_ok ca_15
    · exact stop_ok ca_16
    · exact stop_ok ca_17
    · exact stop_ok ca_18
    · exact stop_ok ca_19
    · exact stop_ok ca_20
    · exact stop_ok ca_21
    · exact stop_ok ca_22
    · exact stop_ok ca_23
    · exact stop_ok ca_24
    · exact stop_ok ca_25
    · exact stop_ok ca_26
    · exact stop_ok ca_27
    · exact stop_ok ca_28
    · exact stop_ok ca_29
    · exact stop_ok ca_30
    · exact stop_ok ca_31
    · exact stop_ok ca_32
    · exact stop_ok ca_33
    · exact stop_ok ca_34
    · exact stop_ok ca_35
    · exact stop_ok ca_36
    · exact stop_ok ca_37
    · exact stop_ok ca_38
    · exact stop_ok ca_39
    · exact stop_ok ca_40
    · exact stop_ok ca_41
    · exact stop_ok ca_42
    · exact stop_ok ca_43
    · exact stop_ok ca_44
    · exact stop_ok ca_45
    · exact stop_ok ca_46
    · exact stop_ok ca_47
    · exact stop_ok ca_48
theorem lv0_ok {θ : Nat → Int32} : lR θ lv0 [(0, .retAddr 0)] := by
  intro i v hv
  rcases i with _ | _ | _ | _ | _ | _ | _ | i
  · cases hv; exact Or.inr ⟨_, rfl, rfl, rfl⟩
  all_goals first | (cases hv; exact Or.inl rfl) | (simp [lv0] at hv)
theorem h_0_ok {θ : Nat → Int32} : hR θ 0 h_0 [] := by
  refine ⟨rfl, fun a c hc => Or.inl ?_⟩
  unfold hget at hc
  rw [lget_eq] at hc
  split at hc
  · rename_i r hr
    rw [lget_eq] at hc
    have h1 := List.eq_of_mem_replicate (List.mem_of_getElem? hr)
    subst h1
    exact List.eq_of_mem_replicate (List.mem_of_getElem? hc)
  · cases hc
/-- law, for scripts of at most 6 numbers, in the pure machine -/
theorem law_pm {L : Nat} (hL : L ≤ 6) (θ : Nat → Int32) : Vx (Ex (L, θ) 24) (L, θ) M_368 [] Q1 0 [(0, .retAddr 0)] [] [] 0 0 := by
  have gen : ∀ L, pro L TP0 = true → Vx (Ex (L, θ) 24) (L, θ) M_368 [] Q1 0 [(0, .retAddr 0)] [] [] 0 0 := fun L H => aB_ok (C := Ex (L, θ) (20 + 4)) (Ex.mono _ _) tp_sok (aM_ok mtW_ok 20) rt6_ok _ _ _ _ _ _ _ _ _ _ H tp_sok (env6_ok θ) _ _ _ lv0_ok rfl h_0_ok
  rcases L with _ | _ | _ | _ | _ | _ | _ | L
  · exact gen 0 pr_0
  · exact gen 1 pr_1
  · exact gen 2 pr_2
  · exact gen 3 pr_3
  · exact gen 4 pr_4
  · exact gen 5 pr_5
  · exact aB_ok (C := Ex (6, θ) (20 + 4)) (Ex.mono _ _) ts_sok (aM_ok mtW_ok 20) rt6_ok _ _ _ _ _ _ _ _ _ _ pr_6 ts_sok (env6_ok θ) _ _ _ lv0_ok rfl h_0_ok
  · omega

/-! the law's loop -/
theorem add_I {i : Int32} {k : Int} (h : InI (i.toInt + k)) : (i + Int32.ofInt k).toInt = i.toInt + k := by
  rw [show i + Int32.ofInt k = Int32.ofInt (i.toInt + k) by rw [Int32.ofInt_add, Int32.ofInt_toInt]]
  exact wi h
theorem len_I {L : Nat} (h : L ≤ 3072) : (Int32.ofNat L - (Int8.ofInt 6).toInt32).toInt = (L : Int) - 6 := by
  rw [show Int32.ofNat L - (Int8.ofInt 6).toInt32 = Int32.ofInt ((L : Int) - 6) by rw [Int32.ofInt_sub]; rfl]
  exact wi (by unfold InI; omega)
theorem law_loop {S : Nat × (Nat → Int32)} (hS : S.1 ≤ 3072) : ∀ (N : Nat) (i : Int32) (lv : LV) (h : PH) (c s : Nat), LwS lv i → LR h → 0 ≤ i.toInt → i.toInt ≤ 3078 → ((S.1 : Int) + 6 - i.toInt).toNat < N → (c : Int) ≤ 1000 + 2 * i.toInt → (s : Int) ≤ 20000 + 8 * i.toInt → Vx (Ex S 24) S M_368 [] Q1 23 lv [] h c s := by
  intro N
  induction N with
  | zero => intros; omega
  | succ N ih =>
    intro i lv h c s hl hL h0 h1 hN hc hs
    have hC := Ex.mono S 24
    refine Vx.go hC te_368_23 ⟨_, hl.2.2.2.2, ?_⟩
    refine Vx.go hC te_368_25 ⟨_, hl.1, ⟨0, Or.inr rfl⟩, ?_⟩
    refine Vx.go hC te_368_26 ?_
    show Vx (Ex S 24) S M_368 [] Q1 27 lv [.int (Int32.ofNat S.1), .int i] h c s
    refine Vx.go hC te_368_27 (Vx.go hC te_368_29 (Vx.go hC te_368_30 ?_))
    refine ⟨by decide, fun q => ?_, fun q => ?_⟩
    · show Vx (Ex S 24) S M_368 [] Q1 2350 lv [] h c s
      exact Vx.go hC te_368_2350 (Vx.go hC te_368_2351 ⟨_, rfl, ⟨_, rfl, rfl⟩, rfl⟩)
    · have q : ¬ (Int32.ofNat S.1 - (Int8.ofInt 6).toInt32 < i) := q
      rw [Int32.lt_iff_toInt_lt, len_I hS] at q
      have hi : 0 ≤ i.toInt ∧ i.toInt + 5 < S.1 := by omega
      have Nx : ∀ lv' h' c' s', LwS lv' i → LR h' → c' ≤ c + 8 → s' ≤ s + 48 → Vx (Ex S 24) S M_368 [] Q1 2344 lv' [] h' c' s' := by
        intro lv' h' c' s' hl' hL' hc' hs'
        have e := add_I (i := i) (k := 6) (by unfold InI; omega)
        refine Vx.go hC te_368_2344 ⟨by decide, _, hl'.2.2.2.2, ?_⟩
        refine Vx.go hC te_368_2347 ⟨by decide, ?_⟩
        exact ih (i + Int32.ofInt 6) _ h' c' s' hl'.inc hL' (by rw [e]; omega) (by rw [e]; omega) (by rw [e]; omega) (by rw [e]; omega) (by rw [e]; omega)
      show Vx (Ex S 24) S M_368 [] Q1 33 lv [] h c s
      refine Vx.go hC te_368_33 ⟨_, hl.1, ⟨0, Or.inr rfl⟩, ?_⟩
      refine Vx.go hC te_368_34 ⟨_, hl.2.2.2.2, ?_⟩
      refine Vx.go hC te_368_36 ⟨vp_in_iff.mpr (by omega), ?_⟩
      show Vx (Ex S 24) S M_368 [] Q1 37 lv [.int (S.2 i.toNatClampNeg)] h c s
      refine Vx.go hC te_368_37 (Vx.go hC te_368_39 ?_)
      show Vx (Ex S 24) S M_368 [] Q1 40 lv [.int (S.2 i.toNatClampNeg &&& (Int8.ofInt 63).toInt32)] h c s
      generalize S.2 i.toNatClampNeg &&& (Int8.ofInt 63).toInt32 = x
      refine Vx.go hC te_368_40 ⟨fun _ => ⟨by decide, Nx _ _ _ _ hl hL (by omega) (by omega)⟩, fun q1 q2 => ?_⟩
      have hj : (x.toInt - 0).toNat < 49 := by omega
      generalize (x.toInt - 0).toNat = j at hj ⊢
      have a : j = 0 ∨ j = 1 ∨ j = 2 ∨ j = 3 ∨ j = 4 ∨ j = 5 ∨ j = 6 ∨ j = 7 ∨ j = 8 ∨ j = 9 ∨ j = 10 ∨ j = 11 ∨ j = 12 ∨ j = 13 ∨ j = 14 ∨ j = 15 ∨ j = 16 ∨ j = 17 ∨ j = 18 ∨ j = 19 ∨ j = 20 ∨ j = 21 ∨ j = 22 ∨ j = 23 ∨ j = 24 ∨ j = 25 ∨ j = 26 ∨ j = 27 ∨ j = 28 ∨ j = 29 ∨ j = 30 ∨ j = 31 ∨ j = 32 ∨ j = 33 ∨ j = 34 ∨ j = 35 ∨ j = 36 ∨ j = 37 ∨ j = 38 ∨ j = 39 ∨ j = 40 ∨ j = 41 ∨ j = 42 ∨ j = 43 ∨ j = 44 ∨ j = 45 ∨ j = 46 ∨ j = 47 ∨ j = 48 := by omega
      rcases a with rfl | rfl | rfl | rfl | rfl | rfl | rfl | rfl | rfl | rfl | rfl | rfl | rfl | rfl | rfl | rfl | rfl | rfl | rfl | rfl | rfl | rfl | rfl | rfl | rfl | rfl | rfl | rfl | rfl | rfl | rfl | rfl | rfl | rfl | rfl | rfl | rfl | rfl | rfl | rfl | rfl | rfl | rfl | rfl | rfl | rfl | rfl | rfl | rfl
      · exact ⟨_, rfl, by decide, lc_0 hS hl hi hL (by omega) (by omega) Nx⟩
      · exact ⟨_, rfl, by decide, lc_1 hS hl hi hL (by omega) (by omega) Nx⟩
      · exact ⟨_, rfl, by decide, lc_2 hS hl hi hL (by omega) (by omega) Nx⟩
      · exact ⟨_, rfl, by decide, lc_3 hS hl hi hL (by omega) (by omega) Nx⟩
      · exact ⟨_, rfl, by decide, lc_4 hS hl hi hL (by omega) (by omega) Nx⟩
      · exact ⟨_, rfl, by decide, lc_5 hS hl hi hL (by omega) (by omega) Nx⟩
      · exact ⟨_, rfl, by decide, lc_6 hS hl hi hL (by omega) (by omega) Nx⟩
      · exact ⟨_, rfl, by decide, lc_7 hS hl hi hL (by omega) (by omega) Nx⟩
      · exact ⟨_, rfl, by decide, lc_8 hS hl hi hL (by omega) (by omega) Nx⟩
      · exact ⟨_, rfl, by decide, lc_9 hS hl hi hL (by omega) (by omega) Nx⟩
      · exact ⟨_, rfl, by decide, lc_10 hS hl hi hL (by omega) (by omega) Nx⟩
      · exact ⟨_, rfl, by decide, lc_11 hS hl hi hL (by omega) (by omega) Nx⟩
      · exact ⟨_, rfl, by decide, lc_12 hS hl hi hL (by omega) (by omega) Nx⟩
      · exact ⟨_, rfl, by decide, lc_13 hS hl hi hL (by omega) (by omega) Nx⟩
      · exact ⟨_, rfl, by decide, lc_14 hS hl hi hL (by omega) (by omega) Nx⟩
      · exact ⟨_, rfl, by decide, lc_15 hS hl hi hL (by omega) (by omega) Nx⟩
      · exact ⟨_, rfl, by decide, lc_16 hS hl hi hL (by omega) (by omega) Nx⟩
      · exact ⟨_, rfl, by decide, lc_17 hS hl hi hL (by omega) (by omega) Nx⟩
      · exact ⟨_, rfl, by decide, lc_18 hS hl hi hL (by omega) (by omega) Nx⟩
      · exact ⟨_, rfl, by decide, lc_19 hS hl hi hL (by omega) (by omega) Nx⟩
      · exact ⟨_, rfl, by decide, lc_20 hS hl hi hL (by omega) (by omega) Nx⟩
      · exact ⟨_, rfl, by decide, lc_21 hS hl hi hL (by omega) (by omega) Nx⟩
      · exact ⟨_, rfl, by decide, lc_22 hS hl hi hL (by omega) (by omega) Nx⟩
      · exact ⟨_, rfl, by decide, lc_23 hS hl hi hL (by omega) (by omega) Nx⟩
      · exact ⟨_, rfl, by decide, lc_24 hS hl hi hL (by omega) (by omega) Nx⟩
      · exact ⟨_, rfl, by decide, lc_25 hS hl hi hL (by omega) (by omega) Nx⟩
      · exact ⟨_, rfl, by decide, lc_26 hS hl hi hL (by omega) (by omega) Nx⟩
      · exact ⟨_, rfl, by decide, lc_27 hS hl hi hL (by omega) (by omega) Nx⟩
      · exact ⟨_, rfl, by decide, lc_28 hS hl hi hL (by omega) (by omega) Nx⟩
      · exact ⟨_, rfl, by decide, lc_29 hS hl hi hL (by omega) (by omega) Nx⟩
      · exact ⟨_, rfl, by decide, lc_30 hS hl hi hL (by omega) (by omega) Nx⟩
      · exact ⟨_, rfl, by decide, lc_31 hS hl hi hL (by omega) (by omega) Nx⟩
      · exact ⟨_, rfl, by decide, lc_32 hS hl hi hL (by omega) (by omega) Nx⟩
      · exact ⟨_, rfl, by decide, lc_33 hS hl hi hL (by omega) (by omega) Nx⟩
      · exact ⟨_, rfl, by decide, lc_34 hS hl hi hL (by omega) (by omega) Nx⟩
      · exact ⟨_, rfl, by decide, lc_35 hS hl hi hL (by omega) (by omega) Nx⟩
      · exact ⟨_, rfl, by decide, lc_36 hS hl hi hL (by omega) (by omega) Nx⟩
      · exact ⟨_, rfl, by decide, lc_37 hS hl hi hL (by omega) (by omega) Nx⟩
      · exact ⟨_, rfl, by decide, lc_38 hS hl hi hL (by omega) (by omega) Nx⟩
      · exact ⟨_, rfl, by decide, lc_39 hS hl hi hL (by omega) (by omega) Nx⟩
      · exact ⟨_, rfl, by decide, lc_40 hS hl hi hL (by omega) (by omega) Nx⟩
      · exact ⟨_, rfl, by decide, lc_41 hS hl hi hL (by omega) (by omega) Nx⟩
      · exact ⟨_, rfl, by decide, lc_42 hS hl hi hL (by omega) (by omega) Nx⟩
      · exact ⟨_, rfl, by decide, lc_43 hS hl hi hL (by omega) (by omega) Nx⟩
      · exact ⟨_, rfl, by decide, lc_44 hS hl hi hL (by omega) (by omega) Nx⟩
      · exact ⟨_, rfl, by decide, lc_45 hS hl hi hL (by omega) (by omega) Nx⟩
      · exact ⟨_, rfl, by decide, lc_46 hS hl hi hL (by omega) (by omega) Nx⟩
      · exact ⟨_, rfl, by decide, lc_47 hS hl hi hL (by omega) (by omega) Nx⟩
      · exact ⟨_, rfl, by decide, lc_48 hS hl hi hL (by omega) (by omega) Nx⟩
/-! steps of the pure machine by hand, for loops that are known whole -/
def Keep (mods : List Nat) (lv lx : LV) : Prop := ∀ i, ¬ i ∈ mods → ∀ w : Value, px_g lv i = some w → w.category = 1 → px_g lx i = some w
theorem Keep.rfl' {mods : List Nat} {lv : LV} : Keep mods lv lv := fun _ _ _ h _ => h
theorem Keep.set {mods : List Nat} {lv lx : LV} (h : Keep mods lv lx) {i : Nat} (hi : i ∈ mods) (w : Value) : Keep mods lv (px_s1 lx i w) := fun j hj v hv hc => pg_ne (fun q => hj (q ▸ hi)) (h j hj v hv hc) hc
theorem lR.keep {θ : Nat → Int32} {mods : List Nat} {lv lv2 : LW} {lv' lx : LV} (hl : lR θ lv lv') (hk : Keep mods lv' lx) (h1 : ∀ i, ¬ i ∈ mods → lv2[i]? = lv[i]?) (h2 : ∀ i ∈ mods, ∀ v, lv2[i]? = some v → v = aU ∨ ∃ w, px_g lx i = some w ∧ vR θ v w ∧ w.category = 1) : lR θ lv2 lx := by
  intro i v hv
  by_cases hi : i ∈ mods
  · exact h2 i hi v hv
  · rw [h1 i hi] at hv
    rcases hl i v hv with q | ⟨w, g1, g2, g3⟩
    · exact Or.inl q
    · exact Or.inr ⟨w, hk i hi w g1 g3, g2, g3⟩
theorem lR.ref {θ : Nat → Int32} {lv : LW} {lv' : LV} (h : lR θ lv lv') {i a : Nat} (hi : lv[i]? = some (.inr (.inr (.ref a)))) : px_g lv' i = some (.ref a) := by
  rcases h i _ hi with q | ⟨w, g1, g2, -⟩
  · cases q
  · rw [g1, show w = .ref a from g2]
theorem lR.num {θ : Nat → Int32} {lv : LW} {lv' : LV} (h : lR θ lv lv') {i : Nat} {v : AV} (hi : lv[i]? = some v) (hn : isNum v = true) : ∃ y, px_g lv' i = some (.int y) ∧ vR θ v (.int y) := by
  rcases h i _ hi with rfl | ⟨w, g1, g2, -⟩
  · cases (show false = true from hn)
  · obtain ⟨y, rfl⟩ := isNum_ok hn g2
    exact ⟨y, g1, g2⟩
/-- a loop that is known whole, ahead of an instruction -/
abbrev MAF : Type := EV → LW → LW → HT → (List EV → Bool) → (Nat → LW → LW → HT → Bool) → Bool → Bool
def o_mac (f : MAF) (op : OPF) : OPF := fun X env lv st m h c s go cut call ret => match Nat.ble c (pC X.2.1) && Nat.ble s (pS X.2.1) with
  | true => f env lv st h cut (fun pc lv st h => go pc lv st m h c s) (op X env lv st m h c s go cut call ret)
  | false => op X env lv st m h c s go cut call ret
def MOK (θ : Nat → Int32) (L : Nat) (C : Nat → List Value → PH → (Rs → PH → Prop) → Prop) (M : PM) (hd : HD4) (Q : Rs → PH → Prop) (pc : Nat) (f : MAF) : Prop :=
  ∀ (env : EV) (lv st : LW) (m : Nat) (h : HT) (c s : Nat) (cut : List EV → Bool) (go : Nat → LW → LW → HT → Bool) (els : Bool) (lv' : LV) (st' : List Value) (h' : PH),
    eR θ env → lR θ lv lv' → A2 (vR θ) st st' → hR θ m h h' →
    (∀ pc2 lv2 st2 h2, go pc2 lv2 st2 h2 = true → ∀ lv2' st2' h2', lR θ lv2 lv2' → A2 (vR θ) st2 st2' → hR θ m h2 h2' → Vx C (L, θ) M hd Q pc2 lv2' st2' h2' c s) →
    c ≤ pC M ∧ s ≤ pS M → f env lv st h cut go els = true → els = true ∨ CUT θ cut ∨ Vx C (L, θ) M hd Q pc lv' st' h' c s
theorem SOK.mac {θ : Nat → Int32} {L : Nat} {C : Nat → List Value → PH → (Rs → PH → Prop) → Prop} {M : PM} {hd : HD4} {Q : Rs → PH → Prop} {pc : Nat} {f : MAF} {op : OPF} (hf : MOK θ L C M hd Q pc f) (hop : SOK θ L C M hd Q pc op) : SOK θ L C M hd Q pc (o_mac f op) := by
  intro env lv st m h c s go cut call ret lv' st' h' he hlv hst hh hgo hcall hret H
  unfold o_mac at H
  split at H
  · rename_i hb
    rw [Bool.and_eq_true, Nat.ble_eq, Nat.ble_eq] at hb
    rcases hf env lv st m h c s cut _ _ lv' st' h' he hlv hst hh (fun pc2 lv2 st2 h2 H2 => hgo pc2 lv2 st2 m h2 c s H2) hb H with q | q | q
    · exact hop env lv st m h c s go cut call ret lv' st' h' he hlv hst hh hgo hcall hret q
    · exact Or.inl q
    · exact Or.inr q
  · exact hop env lv st m h c s go cut call ret lv' st' h' he hlv hst hh hgo hcall hret H
section STP
variable {C : Nat → List Value → PH → (Rs → PH → Prop) → Prop} {S : Nat × (Nat → Int32)} {M : PM} {hd : HD4} {Q : Rs → PH → Prop} {pc ta tb : Nat} {lv : LV} {st : List Value} {h : PH} {c s : Nat}
theorem V_get (hC : Cmono C) {i a : Nat} {fs : List Value} {v : Value} (hf : (pT M).find? (fun e => e.1 == pc) = some (pc, .getfield i, ta, tb)) (h1 : h[a]? = some (.inr (ta, fs))) (hn : tb < fnum ta) (hv : fs[tb]? = some v) (k : Vx C S M hd Q (pc + 3) lv (v :: st) h c s) : Vx C S M hd Q pc lv (.ref a :: st) h c s := Vx.go hC hf (get_mk (k := fun st => Vx C S M hd Q (pc + 3) lv st h c s) h1 hn hv k)
theorem V_iast (hC : Cmono C) {x i : Int32} {a n : Nat} {g : Nat → Int32} (hf : (pT M).find? (fun e => e.1 == pc) = some (pc, .iastore, ta, tb)) (h1 : h[a]? = some (.inl (0, n, .inl g))) (h2 : vp_in i n) (k : Vx C S M hd Q (pc + 1) lv st (h.set a (.inl (0, n, .inl (upd g i.toNatClampNeg x)))) c s) : Vx C S M hd Q pc lv (.int x :: .int i :: .ref a :: st) h c s := Vx.go hC hf (iast_mk (k := fun st h => Vx C S M hd Q (pc + 1) lv st h c s) h1 h2 k)
theorem V_aald (hC : Cmono C) {i : Int32} {a n t q : Nat} {g : Nat → Option Nat} (hf : (pT M).find? (fun e => e.1 == pc) = some (pc, .aaload, ta, tb)) (h1 : h[a]? = some (.inl (t, n, .inr (.inr (.inr (.inr g)))))) (ht : t = 2 ∨ t = 3) (h2 : vp_in i n) (hq : g i.toNatClampNeg = some q) (k : Vx C S M hd Q (pc + 1) lv (.ref q :: st) h c s) : Vx C S M hd Q pc lv (.int i :: .ref a :: st) h c s := Vx.go hC hf (aald_mk (k := fun st => Vx C S M hd Q (pc + 1) lv st h c s) h1 ht h2 hq k)
theorem V_icmp (hC : Cmono C) {cc : ClassFile.Cond} {z : Int} {x y : Int32} (hf : (pT M).find? (fun e => e.1 == pc) = some (pc, .if_icmp cc z, ta, tb)) (h0 : 0 ≤ (pc : Int) + z) (k1 : ccI cc x y → Vx C S M hd Q ((pc : Int) + z).toNat lv st h c s) (k2 : ¬ ccI cc x y → Vx C S M hd Q (pc + 3) lv st h c s) : Vx C S M hd Q pc lv (.int y :: .int x :: st) h c s := Vx.go hC hf ⟨h0, k1, k2⟩
theorem V_call (hC : Cmono C) {i μ k : Nat} {N : PM} {args : List Value} (hf : (pT M).find? (fun e => e.1 == pc) = some (pc, .invokevirtual i, μ, tb)) (hN : MT[μ]? = some N) (hk : pN N = k) (ha : args.length = k) (hcat : (st.map Value.category).sum ≤ 8) (hz : pC N = 0 ∧ pS N = 0) (hc : c ≤ pC M ∧ s ≤ pS M) {a : Nat} {fs : List Value} (hr : args.getLast? = some (.ref a)) (ho : h[a]? = some (.inr (pO N, fs))) (hcall : C μ args.reverse h (fun r h2 => ∃ v : Option Value, r = .inl v ∧ Vx C S M hd Q (pc + 3) lv (v.toList ++ st) h2 c s)) : Vx C S M hd Q pc lv (args ++ st) h c s := by
  refine Vx.go hC hf ?_
  show p_call _ _ _ _ _ _ _ _ _ _ _ _ _
  unfold p_call
  rw [hN]
  subst hk
  have e1 : (args ++ st).take (pN N) = args := by rw [← ha]; simp
  have e2 : (args ++ st).drop (pN N) = st := by rw [← ha]; simp
  refine ⟨by rw [List.length_append]; omega, by rw [e2]; exact hcat, by rw [hz.1]; exact hc.1, by rw [hz.2]; exact hc.2, fun _ => ⟨a, fs, by rw [e1]; exact hr, ho⟩, ?_⟩
  rw [e1, e2, hz.1, hz.2]
  refine hC _ _ _ _ _ ?_ hcall
  intro r h2 ⟨v, e, k⟩
  subst e
  exact k
end STP
theorem upd_eq {g : Nat → Int32} {i : Nat} {x : Int32} (h : g i = x) : upd g i x = g := by
  funext j
  unfold upd
  split
  · rename_i e; rw [e, h]
  · rfl
theorem one_add {y : Int32} {i : Nat} (h : y.toInt = (i : Int)) (hi : i < 2147483647) : (y + Int32.ofInt 1).toInt = ((i + 1 : Nat) : Int) := by
  have h1 : (Int32.ofInt 1).toInt = 1 := by decide
  rw [Int32.toInt_add, h1, h, bm (by omega) (by omega)]
  omega
theorem ge_of {x y : Int32} {i n : Int} (hx : x.toInt = i) (hy : y.toInt = n) : ccI .ge x y ↔ n ≤ i := by rw [ccI_iff, hx, hy]; exact Iff.rfl
theorem set_self {h : PH} {a : Nat} {y : PE} (ha : h[a]? = some y) : h.set a y = h := by
  apply List.ext_getElem?
  intro j
  by_cases e : a = j
  · subst e
    rw [List.getElem?_set_self (List.getElem?_eq_some_iff.mp ha).1, ha]
  · rw [List.getElem?_set_ne e]
/-! a table of functions is that of a method -/
noncomputable def mkM (ml : List (Nat × MAF)) (te : TE) : Nat × OPF := (te.1, match ml.find? (fun q => q.1 == te.1) with
  | some q => o_mac q.2 (mkO te)
  | none => mkO te)
def EOK (θ : Nat → Int32) (L μ : Nat) (N : MEn) : Prop := MT[μ]? = some N.1 ∧ N.2.1 = (if pK N.1 = 3 then hdOf μ else []) ∧ (∀ v ∈ N.2.2.1, v = aU) ∧ pN N.1 ≤ pL N.1 ∧ ∀ (n : Nat) (Q : Rs → PH → Prop), ∀ e ∈ N.2.2.2, SOK θ L (Ex (L, θ) (n + 4)) N.1 N.2.1 Q e.1 e.2
theorem SOK.tab {θ : Nat → Int32} {L : Nat} {C : Nat → List Value → PH → (Rs → PH → Prop) → Prop} {M : PM} {hd : HD4} {Q : Rs → PH → Prop} {ml : List (Nat × MAF)} (hC : Cmono C) (ht : tInc (pT M) = true) (hml : ∀ q ∈ ml, MOK θ L C M hd Q q.1 q.2) {te : TE} (hte : te ∈ pT M) : SOK θ L C M hd Q (mkM ml te).1 (mkM ml te).2 := by
  have hf := tInc.find ht hte
  have h0 : SOK θ L C M hd Q te.1 (mkO te) := SOK.of hC hf
  unfold mkM
  dsimp only
  split
  · rename_i q hq
    have h1 := hml q (List.mem_of_find?_eq_some hq)
    have h2 : q.1 = te.1 := by have h3 := List.find?_some hq; simpa using h3
    rw [h2] at h1
    exact SOK.mac h1 h0
  · exact h0
theorem EOK.of {θ : Nat → Int32} {L μ : Nat} {M : PM} {hd : HD4} {pad : LW} {T : List (Nat × OPF)} {ml : List (Nat × MAF)} (h1 : MT[μ]? = some M) (h2 : hd = if pK M = 3 then hdOf μ else []) (h3 : pad.all isU = true) (h4 : Nat.ble (pN M) (pL M) = true) (hT : T = (pT M).map (mkM ml)) (ht : tInc (pT M) = true) (hml : ∀ (n : Nat) (Q : Rs → PH → Prop), ∀ q ∈ ml, MOK θ L (Ex (L, θ) (n + 4)) M hd Q q.1 q.2) : EOK θ L μ (M, hd, pad, T) := by
  refine ⟨h1, h2, fun v hv => isU_ok (List.all_eq_true.mp h3 v hv), Nat.le_of_ble_eq_true h4, fun n Q e he => ?_⟩
  have he : e ∈ T := he
  rw [hT] at he
  obtain ⟨te, h5, rfl⟩ := List.mem_map.mp he
  exact SOK.tab (Ex.mono _ _) ht (hml n Q) h5
def ROKa (θ : Nat → Int32) (L : Nat) : Nat → List MEn → Prop
  | _, [] => True
  | k, N :: l => (N.2.2.2 = [] ∨ EOK θ L k N) ∧ ROKa θ L (k + 1) l
theorem ROKa.get {θ : Nat → Int32} {L : Nat} : ∀ {l : List MEn} {k j : Nat} {N : MEn}, ROKa θ L k l → l[j]? = some N → N.2.2.2 = [] ∨ EOK θ L (k + j) N
  | [], k, j, N, _, h => by simp at h
  | M :: l, k, 0, N, h, hN => by simp at hN; subst hN; exact h.1
  | M :: l, k, j + 1, N, h, hN => by
    have := ROKa.get h.2 (show l[j]? = some N by simpa using hN)
    rwa [show k + 1 + j = k + (j + 1) by omega] at this
def RRa (θ : Nat → Int32) (L : Nat) : Nat → List (List MEn) → Prop
  | _, [] => True
  | r, l :: rs => ROKa θ L (20 * r) l ∧ RRa θ L (r + 1) rs
theorem RRa.get {θ : Nat → Int32} {L : Nat} : ∀ {rs : List (List MEn)} {r j : Nat} {l : List MEn}, RRa θ L r rs → rs[j]? = some l → ROKa θ L (20 * (r + j)) l
  | [], r, j, l, _, h => by simp at h
  | x :: rs, r, 0, l, h, hl => by simp at hl; subst hl; exact h.1
  | x :: rs, r, j + 1, l, h, hl => by
    have := RRa.get h.2 (show rs[j]? = some l by simpa using hl)
    rwa [show r + 1 + j = r + (j + 1) by omega] at this
theorem mtOK_of {θ : Nat → Int32} {L : Nat} {mt : List (List MEn)} (h : RRa θ L 0 mt) : mtOK θ L mt := by
  intro μ N hN
  unfold mget at hN
  rw [lget_eq] at hN
  split at hN
  · rename_i r hr
    rw [lget_eq] at hN
    have h1 := (RRa.get h hr).get hN
    have e : 20 * (0 + μ.div 20) + μ.mod 20 = μ := by
      have := Nat.div_add_mod μ 20
      show 20 * (0 + μ / 20) + μ % 20 = μ
      omega
    rw [e] at h1
    exact h1
  · cases hN
/-! laid by wip/hand/mk60.py: the constructors as functions -/
abbrev dW_0 : LW := [.inl (.ofNat 0), .inr (.inr .null), .inr (.inr .null), .inr (.inr .null), .inr (.inr .null), .inr (.inr .null), .inr (.inr .null), .inr (.inr .null)]
abbrev dW_1 : LW := [.inl (.ofNat 0), .inl (.ofNat 0), .inl (.ofNat 0), .inl (.ofNat 0), .inl (.ofNat 0), .inl (.ofNat 0), .inl (.ofNat 0), .inl (.ofNat 0), .inr (.inr .null), .inr (.inr .null), .inr (.inr .null), .inr (.inr .null), .inr (.inr .null), .inr (.inr .null)]
abbrev dW_2 : LW := [.inl (.ofNat 0), .inl (.ofNat 0), .inl (.ofNat 0), .inl (.ofNat 0), .inr (.inr .null), .inr (.inr .null), .inr (.inr .null), .inr (.inr .null)]
abbrev dW_3 : LW := [.inr (.inr .null), .inl (.ofNat 0), .inl (.ofNat 0)]
abbrev dW_4 : LW := [.inr (.inr .null), .inr (.inr .null)]
abbrev dW_5 : LW := [.inl (.ofNat 0), .inl (.ofNat 0), .inr (.inr .null)]
abbrev dW_6 : LW := [.inl (.ofNat 0), .inl (.ofNat 0), .inl (.ofNat 0), .inl (.ofNat 0), .inl (.ofNat 0), .inr (.inr .null), .inr (.inr .null), .inr (.inr .null), .inr (.inr .null), .inr (.inr .null), .inr (.inr .null), .inr (.inr .null), .inr (.inr .null), .inr (.inr .null), .inr (.inr .null), .inr (.inr .null), .inr (.inr .null), .inr (.inr .null), .inr (.inr .null), .inr (.inr .null)]
abbrev dW_7 : LW := [.inl (.ofNat 0), .inr (.inr .null), .inr (.inr .null), .inr (.inr .null), .inr (.inr .null), .inl (.ofNat 0), .inl (.ofNat 0), .inl (.ofNat 0)]
abbrev dW_8 : LW := [.inr (.inr .null)]
abbrev dW_9 : LW := [.inr (.inr .null), .inr (.inr .null), .inr (.inr .null), .inr (.inr .null), .inr (.inr .null), .inr (.inr .null), .inr (.inr .null), .inr (.inr .null), .inr (.inr .null), .inr (.inr .null), .inl (.ofNat 0), .inl (.ofNat 0)]
abbrev dW_10 : LW := [.inl (.ofNat 0), .inl (.ofNat 0), .inr (.inr .null), .inr (.inr .null), .inr (.inr .null), .inr (.inr .null), .inr (.inr .null), .inr (.inr .null), .inr (.inr .null), .inr (.inr .null), .inr (.inr .null), .inr (.inr .null), .inl (.ofNat 0), .inr (.inr .null), .inr (.inr .null), .inr (.inr .null), .inr (.inr .null), .inr (.inr .null), .inl (.ofNat 0), .inr (.inr .null), .inr (.inr .null), .inr (.inr .null), .inr (.inr .null), .inr (.inr .null), .inr (.inr .null), .inl (.ofNat 0), .inr (.inr .null), .inr (.inr .null), .inr (.inr .null), .inr (.inr .null), .inr (.inr .null), .inl (.ofNat 0), .inl (.ofNat 0), .inl (.ofNat 0), .inr (.inr .null), .inr (.inr .null), .inr (.inr .null)]
noncomputable def T_0_1 : List (Nat × OPF) := [(84, o_dup 85), (85, o_call 5 true), (88, o_aast 89), (89, o_iinc 1 (.ofNat 1) 92), (92, o_goto 70), (95, o_aload 0 96), (96, o_new 2 8 dW_2 99), (99, o_dup 100), (100, o_call 6 true), (103, o_put 9 6 2 106), (106, o_aload 0 107), (107, o_new 4 2 dW_4 110), (110, o_dup 111), (111, o_call 7 true), (114, o_put 9 7 2 117), (117, o_aload 0 118), (118, o_new 8 1 dW_8 121), (121, o_dup 122), (122, o_call 8 true), (125, o_put 9 8 2 128), (128, o_aload 0 129), (129, o_new 3 3 dW_3 132), (132, o_dup 133), (133, o_call 9 true), (136, o_put 9 9 2 139), (139, o_aload 0 140), (140, o_push (.inl (.ofNat 1)) 141), (141, o_put 9 11 1 144), (144, o_ret)]
noncomputable def T_0 : List (Nat × OPF) := (0, o_aload 0 1) :: (1, o_obj 4) :: (4, o_aload 0 5) :: (5, o_new 0 8 dW_0 8) :: (8, o_dup 9) :: (9, o_call 1 true) :: (12, o_put 9 0 2 15) :: (15, o_aload 0 16) :: (16, o_new 7 8 dW_7 19) :: (19, o_dup 20) :: (20, o_call 2 true) :: (23, o_put 9 1 2 26) :: (26, o_aload 0 27) :: (27, o_new 7 8 dW_7 30) :: (30, o_dup 31) :: (31, o_call 2 true) :: (34, o_put 9 2 2 37) :: (37, o_aload 0 38) :: (38, o_new 5 3 dW_5 41) :: (41, o_dup 42) :: (42, o_call 3 true) :: (45, o_put 9 3 2 48) :: (48, o_aload 0 49) :: (49, o_new 6 20 dW_6 52) :: (52, o_dup 53) :: (53, o_call 4 true) :: (56, o_put 9 4 2 59) :: (59, o_aload 0 60) :: (60, o_push (.inl (.ofNat 13)) 62) :: (62, o_newr 65) :: (65, o_put 9 5 2 68) :: (68, o_push (.inl (.ofNat 0)) 69) :: (69, o_istore 1 70) :: (70, o_iload 1 71) :: (71, o_push (.inl (.ofNat 12)) 73) :: (73, o_icmp .gt 95 76) :: (76, o_aload 0 77) :: (77, o_get 9 5 80) :: (80, o_iload 1 81) :: (81, o_new 1 14 dW_1 84) :: T_0_1
noncomputable def T_1_2 : List (Nat × OPF) := [(104, o_iast 105), (105, o_dup 106), (106, o_push (.inl (.ofNat 2)) 107), (107, o_push (.inl (.ofNat 3)) 108), (108, o_iast 109), (109, o_dup 110), (110, o_push (.inl (.ofNat 3)) 111), (111, o_push (.inl (.ofNat 1)) 112), (112, o_iast 113), (113, o_dup 114), (114, o_push (.inl (.ofNat 4)) 115), (115, o_push (.inl (.ofNat 1)) 116), (116, o_iast 117), (117, o_dup 118), (118, o_push (.inl (.ofNat 5)) 119), (119, o_push (.inl (.ofNat 1)) 120), (120, o_iast 121), (121, o_put 0 6 2 124), (124, o_aload 0 125), (125, o_push (.inl (.ofNat 3)) 126), (126, o_newi 128), (128, o_dup 129), (129, o_push (.inl (.ofNat 0)) 130), (130, o_push (.inl (.ofNat 1)) 131), (131, o_iast 132), (132, o_dup 133), (133, o_push (.inl (.ofNat 1)) 134), (134, o_push (.inl (.ofNat 1)) 135), (135, o_iast 136), (136, o_dup 137), (137, o_push (.inl (.ofNat 2)) 138), (138, o_push (.inl (.ofNat 1)) 139), (139, o_iast 140), (140, o_put 0 7 2 143), (143, o_ret)]
noncomputable def T_1_1 : List (Nat × OPF) := (56, o_iast 57) :: (57, o_put 0 4 2 60) :: (60, o_aload 0 61) :: (61, o_push (.inl (.ofNat 6)) 63) :: (63, o_newi 65) :: (65, o_dup 66) :: (66, o_push (.inl (.ofNat 0)) 67) :: (67, o_push (.inl (.ofNat 1)) 68) :: (68, o_iast 69) :: (69, o_dup 70) :: (70, o_push (.inl (.ofNat 1)) 71) :: (71, o_push (.inl (.ofNat 1)) 72) :: (72, o_iast 73) :: (73, o_dup 74) :: (74, o_push (.inl (.ofNat 2)) 75) :: (75, o_push (.inl (.ofNat 3)) 76) :: (76, o_iast 77) :: (77, o_dup 78) :: (78, o_push (.inl (.ofNat 3)) 79) :: (79, o_push (.inl (.ofNat 1)) 80) :: (80, o_iast 81) :: (81, o_dup 82) :: (82, o_push (.inl (.ofNat 4)) 83) :: (83, o_push (.inl (.ofNat 2)) 84) :: (84, o_iast 85) :: (85, o_dup 86) :: (86, o_push (.inl (.ofNat 5)) 87) :: (87, o_push (.inl (.ofNat 1)) 88) :: (88, o_iast 89) :: (89, o_put 0 5 2 92) :: (92, o_aload 0 93) :: (93, o_push (.inl (.ofNat 6)) 95) :: (95, o_newi 97) :: (97, o_dup 98) :: (98, o_push (.inl (.ofNat 0)) 99) :: (99, o_push (.inl (.ofNat 1)) 100) :: (100, o_iast 101) :: (101, o_dup 102) :: (102, o_push (.inl (.ofNat 1)) 103) :: (103, o_push (.inl (.ofNat 1)) 104) :: T_1_2
noncomputable def T_1 : List (Nat × OPF) := (0, o_aload 0 1) :: (1, o_obj 4) :: (4, o_aload 0 5) :: (5, o_push (.inl (.ofNat 8)) 7) :: (7, o_newi 9) :: (9, o_put 0 1 2 12) :: (12, o_aload 0 13) :: (13, o_push (.inl (.ofNat 32)) 15) :: (15, o_newi 17) :: (17, o_put 0 2 2 20) :: (20, o_aload 0 21) :: (21, o_push (.inl (.ofNat 8)) 23) :: (23, o_newi 25) :: (25, o_put 0 3 2 28) :: (28, o_aload 0 29) :: (29, o_push (.inl (.ofNat 6)) 31) :: (31, o_newi 33) :: (33, o_dup 34) :: (34, o_push (.inl (.ofNat 0)) 35) :: (35, o_push (.inl (.ofNat 0)) 36) :: (36, o_iast 37) :: (37, o_dup 38) :: (38, o_push (.inl (.ofNat 1)) 39) :: (39, o_push (.inl (.ofNat 0)) 40) :: (40, o_iast 41) :: (41, o_dup 42) :: (42, o_push (.inl (.ofNat 2)) 43) :: (43, o_push (.inl (.ofNat 1)) 44) :: (44, o_iast 45) :: (45, o_dup 46) :: (46, o_push (.inl (.ofNat 3)) 47) :: (47, o_push (.inl (.ofNat 0)) 48) :: (48, o_iast 49) :: (49, o_dup 50) :: (50, o_push (.inl (.ofNat 4)) 51) :: (51, o_push (.inl (.ofNat 2)) 52) :: (52, o_iast 53) :: (53, o_dup 54) :: (54, o_push (.inl (.ofNat 5)) 55) :: (55, o_push (.inl (.ofNat 2)) 56) :: T_1_1
noncomputable def T_2 : List (Nat × OPF) := [(0, o_aload 0 1), (1, o_obj 4), (4, o_aload 0 5), (5, o_push (.inl (.ofNat 64)) 7), (7, o_newi 9), (9, o_put 7 1 2 12), (12, o_aload 0 13), (13, o_push (.inl (.ofNat 64)) 15), (15, o_newi 17), (17, o_put 7 2 2 20), (20, o_aload 0 21), (21, o_push (.inl (.ofNat 64)) 23), (23, o_newi 25), (25, o_put 7 3 2 28), (28, o_aload 0 29), (29, o_push (.inl (.ofNat 64)) 31), (31, o_newi 33), (33, o_put 7 4 2 36), (36, o_aload 0 37), (37, o_push (.inl (.ofNat 1)) 38), (38, o_put 7 6 0 41), (41, o_ret)]
noncomputable def T_3 : List (Nat × OPF) := [(0, o_aload 0 1), (1, o_obj 4), (4, o_aload 0 5), (5, o_push (.inl (.ofNat 64)) 7), (7, o_newi 9), (9, o_put 5 2 2 12), (12, o_ret)]
noncomputable def T_4_1 : List (Nat × OPF) := [(78, o_newi 80), (80, o_put 6 14 2 83), (83, o_aload 0 84), (84, o_push (.inl (.ofNat 8)) 86), (86, o_newi 88), (88, o_put 6 15 2 91), (91, o_aload 0 92), (92, o_push (.inl (.ofNat 8)) 94), (94, o_newi 96), (96, o_put 6 16 2 99), (99, o_aload 0 100), (100, o_push (.inl (.ofNat 8)) 102), (102, o_newi 104), (104, o_put 6 17 2 107), (107, o_aload 0 108), (108, o_push (.inl (.ofNat 8)) 110), (110, o_newi 112), (112, o_put 6 18 2 115), (115, o_aload 0 116), (116, o_push (.inl (.ofNat 8)) 118), (118, o_newi 120), (120, o_put 6 19 2 123), (123, o_ret)]
noncomputable def T_4 : List (Nat × OPF) := (0, o_aload 0 1) :: (1, o_obj 4) :: (4, o_aload 0 5) :: (5, o_push (.inl (.ofNat 8)) 7) :: (7, o_newi 9) :: (9, o_put 6 5 2 12) :: (12, o_aload 0 13) :: (13, o_push (.inl (.ofNat 8)) 15) :: (15, o_newi 17) :: (17, o_put 6 6 2 20) :: (20, o_aload 0 21) :: (21, o_push (.inl (.ofNat 8)) 23) :: (23, o_newi 25) :: (25, o_put 6 7 2 28) :: (28, o_aload 0 29) :: (29, o_push (.inl (.ofNat 3)) 30) :: (30, o_newi 32) :: (32, o_put 6 8 2 35) :: (35, o_aload 0 36) :: (36, o_push (.inl (.ofNat 3)) 37) :: (37, o_newi 39) :: (39, o_put 6 9 2 42) :: (42, o_aload 0 43) :: (43, o_push (.inl (.ofNat 32)) 45) :: (45, o_newi 47) :: (47, o_put 6 10 2 50) :: (50, o_aload 0 51) :: (51, o_push (.inl (.ofNat 12)) 53) :: (53, o_newi 55) :: (55, o_put 6 11 2 58) :: (58, o_aload 0 59) :: (59, o_push (.inl (.ofNat 32)) 61) :: (61, o_newi 63) :: (63, o_put 6 12 2 66) :: (66, o_aload 0 67) :: (67, o_push (.inl (.ofNat 64)) 69) :: (69, o_newi 71) :: (71, o_put 6 13 2 74) :: (74, o_aload 0 75) :: (75, o_push (.inl (.ofNat 512)) 78) :: T_4_1
noncomputable def T_5 : List (Nat × OPF) := [(0, o_aload 0 1), (1, o_obj 4), (4, o_aload 0 5), (5, o_push (.inl (.ofNat 1)) 6), (6, o_put 1 3 0 9), (9, o_aload 0 10), (10, o_push (.inl (.ofNat 8)) 12), (12, o_newi 14), (14, o_put 1 8 2 17), (17, o_aload 0 18), (18, o_push (.inl (.ofNat 8)) 20), (20, o_newi 22), (22, o_put 1 9 2 25), (25, o_aload 0 26), (26, o_push (.inl (.ofNat 8)) 28), (28, o_newi 30), (30, o_put 1 10 2 33), (33, o_aload 0 34), (34, o_push (.inl (.ofNat 8)) 36), (36, o_newi 38), (38, o_put 1 11 2 41), (41, o_aload 0 42), (42, o_push (.inl (.ofNat 8)) 44), (44, o_newi 46), (46, o_put 1 12 2 49), (49, o_aload 0 50), (50, o_push (.inl (.ofNat 8)) 52), (52, o_newi 54), (54, o_put 1 13 2 57), (57, o_ret)]
noncomputable def T_6 : List (Nat × OPF) := [(0, o_aload 0 1), (1, o_obj 4), (4, o_aload 0 5), (5, o_push (.inl (.ofNat 8)) 7), (7, o_newi 9), (9, o_put 2 4 2 12), (12, o_aload 0 13), (13, o_push (.inl (.ofNat 8)) 15), (15, o_newi 17), (17, o_put 2 5 2 20), (20, o_aload 0 21), (21, o_push (.inl (.ofNat 12)) 23), (23, o_newi 25), (25, o_put 2 6 2 28), (28, o_aload 0 29), (29, o_push (.inl (.ofNat 8)) 31), (31, o_newi 33), (33, o_put 2 7 2 36), (36, o_ret)]
noncomputable def T_7 : List (Nat × OPF) := [(0, o_aload 0 1), (1, o_obj 4), (4, o_aload 0 5), (5, o_push (.inl (.ofNat 2)) 6), (6, o_push (.inl (.ofNat 64)) 8), (8, o_new2 12), (12, o_put 4 0 2 15), (15, o_aload 0 16), (16, o_push (.inl (.ofNat 320)) 19), (19, o_newi 21), (21, o_put 4 1 2 24), (24, o_ret)]
noncomputable def T_8 : List (Nat × OPF) := [(0, o_aload 0 1), (1, o_obj 4), (4, o_aload 0 5), (5, o_push (.inl (.ofNat 8)) 7), (7, o_newi 9), (9, o_put 8 0 2 12), (12, o_ret)]
noncomputable def T_9 : List (Nat × OPF) := [(0, o_aload 0 1), (1, o_obj 4), (4, o_aload 0 5), (5, o_push (.inl (.ofNat 1024)) 8), (8, o_newi 10), (10, o_put 3 0 2 13), (13, o_ret)]
noncomputable def T_224_4 : List (Nat × OPF) := [(307, o_push (.inl (.ofNat 2)) 308), (308, o_icmp .ne 315 311), (311, o_push (.inl (.ofNat 3)) 312), (312, o_goto 316), (315, o_push (.inl (.ofNat 1)) 316), (316, o_iast 317), (317, o_iinc 1 (.ofNat 1) 320), (320, o_goto 245), (323, o_push (.inl (.ofNat 0)) 324), (324, o_istore 1 325), (325, o_iload 1 326), (326, o_push (.inl (.ofNat 3)) 327), (327, o_icmp .ge 343 330), (330, o_aload 0 331), (331, o_get 10 11 334), (334, o_iload 1 335), (335, o_push (.inl (.ofNat 1)) 336), (336, o_iast 337), (337, o_iinc 1 (.ofNat 1) 340), (340, o_goto 325), (343, o_ret)]
noncomputable def T_224_3 : List (Nat × OPF) := (240, o_put 10 36 2 243) :: (243, o_push (.inl (.ofNat 0)) 244) :: (244, o_istore 1 245) :: (245, o_iload 1 246) :: (246, o_push (.inl (.ofNat 6)) 248) :: (248, o_icmp .ge 323 251) :: (251, o_aload 0 252) :: (252, o_get 10 8 255) :: (255, o_iload 1 256) :: (256, o_iload 1 257) :: (257, o_push (.inl (.ofNat 2)) 258) :: (258, o_icmp .ne 265 261) :: (261, o_push (.inl (.ofNat 1)) 262) :: (262, o_goto 275) :: (265, o_iload 1 266) :: (266, o_push (.inl (.ofNat 3)) 267) :: (267, o_icmp .le 274 270) :: (270, o_push (.inl (.ofNat 2)) 271) :: (271, o_goto 275) :: (274, o_push (.inl (.ofNat 0)) 275) :: (275, o_iast 276) :: (276, o_aload 0 277) :: (277, o_get 10 9 280) :: (280, o_iload 1 281) :: (281, o_iload 1 282) :: (282, o_push (.inl (.ofNat 2)) 283) :: (283, o_icmp .ne 290 286) :: (286, o_push (.inl (.ofNat 3)) 287) :: (287, o_goto 300) :: (290, o_iload 1 291) :: (291, o_push (.inl (.ofNat 4)) 292) :: (292, o_icmp .ne 299 295) :: (295, o_push (.inl (.ofNat 2)) 296) :: (296, o_goto 300) :: (299, o_push (.inl (.ofNat 1)) 300) :: (300, o_iast 301) :: (301, o_aload 0 302) :: (302, o_get 10 10 305) :: (305, o_iload 1 306) :: (306, o_iload 1 307) :: T_224_4
noncomputable def T_224_2 : List (Nat × OPF) := (157, o_put 10 22 2 160) :: (160, o_aload 0 161) :: (161, o_push (.inl (.ofNat 8)) 163) :: (163, o_newi 165) :: (165, o_put 10 23 2 168) :: (168, o_aload 0 169) :: (169, o_push (.inl (.ofNat 8)) 171) :: (171, o_newi 173) :: (173, o_put 10 24 2 176) :: (176, o_aload 0 177) :: (177, o_push (.inl (.ofNat 128)) 180) :: (180, o_newi 182) :: (182, o_put 10 26 2 185) :: (185, o_aload 0 186) :: (186, o_push (.inl (.ofNat 640)) 189) :: (189, o_newi 191) :: (191, o_put 10 27 2 194) :: (194, o_aload 0 195) :: (195, o_push (.inl (.ofNat 328)) 198) :: (198, o_newi 200) :: (200, o_put 10 28 2 203) :: (203, o_aload 0 204) :: (204, o_push (.inl (.ofNat 8)) 206) :: (206, o_newi 208) :: (208, o_put 10 29 2 211) :: (211, o_aload 0 212) :: (212, o_push (.inl (.ofNat 8)) 214) :: (214, o_newi 216) :: (216, o_put 10 30 2 219) :: (219, o_aload 0 220) :: (220, o_push (.inl (.ofNat 9)) 222) :: (222, o_newi 224) :: (224, o_put 10 34 2 227) :: (227, o_aload 0 228) :: (228, o_push (.inl (.ofNat 8)) 230) :: (230, o_newi 232) :: (232, o_put 10 35 2 235) :: (235, o_aload 0 236) :: (236, o_push (.inl (.ofNat 8)) 238) :: (238, o_newi 240) :: T_224_3
noncomputable def T_224_1 : List (Nat × OPF) := (78, o_newi 80) :: (80, o_put 10 11 2 83) :: (83, o_aload 0 84) :: (84, o_push (.inl (.ofNat 48)) 86) :: (86, o_newi 88) :: (88, o_put 10 13 2 91) :: (91, o_aload 0 92) :: (92, o_push (.inl (.ofNat 48)) 94) :: (94, o_newi 96) :: (96, o_put 10 14 2 99) :: (99, o_aload 0 100) :: (100, o_push (.inl (.ofNat 48)) 102) :: (102, o_newi 104) :: (104, o_put 10 15 2 107) :: (107, o_aload 0 108) :: (108, o_push (.inl (.ofNat 48)) 110) :: (110, o_newi 112) :: (112, o_put 10 16 2 115) :: (115, o_aload 0 116) :: (116, o_push (.inl (.ofNat 64)) 118) :: (118, o_newi 120) :: (120, o_put 10 17 2 123) :: (123, o_aload 0 124) :: (124, o_push (.inl (.negSucc 0)) 125) :: (125, o_put 10 18 0 128) :: (128, o_aload 0 129) :: (129, o_push (.inl (.ofNat 36)) 131) :: (131, o_newi 133) :: (133, o_put 10 19 2 136) :: (136, o_aload 0 137) :: (137, o_push (.inl (.ofNat 8)) 139) :: (139, o_newi 141) :: (141, o_put 10 20 2 144) :: (144, o_aload 0 145) :: (145, o_push (.inl (.ofNat 8)) 147) :: (147, o_newi 149) :: (149, o_put 10 21 2 152) :: (152, o_aload 0 153) :: (153, o_push (.inl (.ofNat 64)) 155) :: (155, o_newi 157) :: T_224_2
noncomputable def T_224 : List (Nat × OPF) := (0, o_aload 0 1) :: (1, o_obj 4) :: (4, o_aload 0 5) :: (5, o_push (.inl (.ofNat 8)) 7) :: (7, o_newi 9) :: (9, o_put 10 2 2 12) :: (12, o_aload 0 13) :: (13, o_push (.inl (.ofNat 8)) 15) :: (15, o_newi 17) :: (17, o_put 10 3 2 20) :: (20, o_aload 0 21) :: (21, o_push (.inl (.ofNat 8)) 23) :: (23, o_newi 25) :: (25, o_put 10 4 2 28) :: (28, o_aload 0 29) :: (29, o_push (.inl (.ofNat 8)) 31) :: (31, o_newi 33) :: (33, o_put 10 5 2 36) :: (36, o_aload 0 37) :: (37, o_push (.inl (.ofNat 8)) 39) :: (39, o_newi 41) :: (41, o_put 10 6 2 44) :: (44, o_aload 0 45) :: (45, o_push (.inl (.ofNat 8)) 47) :: (47, o_newi 49) :: (49, o_put 10 7 2 52) :: (52, o_aload 0 53) :: (53, o_push (.inl (.ofNat 6)) 55) :: (55, o_newi 57) :: (57, o_put 10 8 2 60) :: (60, o_aload 0 61) :: (61, o_push (.inl (.ofNat 6)) 63) :: (63, o_newi 65) :: (65, o_put 10 9 2 68) :: (68, o_aload 0 69) :: (69, o_push (.inl (.ofNat 6)) 71) :: (71, o_newi 73) :: (73, o_put 10 10 2 76) :: (76, o_aload 0 77) :: (77, o_push (.inl (.ofNat 3)) 78) :: T_224_1
noncomputable def E_0 : MEn := (M_0, [], [aU], T_0)
noncomputable def E_1 : MEn := (M_1, [], [], T_1)
noncomputable def E_2 : MEn := (M_2, [], [], T_2)
noncomputable def E_3 : MEn := (M_3, [], [], T_3)
noncomputable def E_4 : MEn := (M_4, [], [], T_4)
noncomputable def E_5 : MEn := (M_5, [], [], T_5)
noncomputable def E_6 : MEn := (M_6, [], [], T_6)
noncomputable def E_7 : MEn := (M_7, [], [], T_7)
noncomputable def E_8 : MEn := (M_8, [], [], T_8)
noncomputable def E_9 : MEn := (M_9, [], [], T_9)
noncomputable def E_224 : MEn := (M_224, [], [aU], T_224)
noncomputable def E_no : MEn := (M_0, [], [], [])
noncomputable def ER_0 : List MEn := [E_0, E_1, E_2, E_3, E_4, E_5, E_6, E_7, E_8, E_9, E_no, E_no, E_no, E_no, E_no, E_no, E_no, E_no, E_no, E_no]
noncomputable def ER_1 : List MEn := []
noncomputable def ER_2 : List MEn := []
noncomputable def ER_3 : List MEn := []
noncomputable def ER_4 : List MEn := []
noncomputable def ER_5 : List MEn := []
noncomputable def ER_6 : List MEn := []
noncomputable def ER_7 : List MEn := []
noncomputable def ER_8 : List MEn := []
noncomputable def ER_9 : List MEn := []
noncomputable def ER_10 : List MEn := []
noncomputable def ER_11 : List MEn := [E_no, E_no, E_no, E_no, E_224, E_no, E_no, E_no, E_no, E_no, E_no, E_no, E_no, E_no, E_no, E_no, E_no, E_no, E_no, E_no]
noncomputable def mtW : List (List MEn) := [ER_0, ER_1, ER_2, ER_3, ER_4, ER_5, ER_6, ER_7, ER_8, ER_9, ER_10, ER_11]
set_option maxRecDepth 1000000 in
theorem q_0 : T_0 = (pT M_0).map (mkM []) := rfl
theorem o_0 {θ : Nat → Int32} {L : Nat} : EOK θ L 0 E_0 := EOK.of (ml := []) rfl rfl rfl rfl q_0 (by decide +kernel) (fun n Q q hq => by cases hq)
set_option maxRecDepth 1000000 in
theorem q_1 : T_1 = (pT M_1).map (mkM []) := rfl
theorem o_1 {θ : Nat → Int32} {L : Nat} : EOK θ L 1 E_1 := EOK.of (ml := []) rfl rfl rfl rfl q_1 (by decide +kernel) (fun n Q q hq => by cases hq)
set_option maxRecDepth 1000000 in
theorem q_2 : T_2 = (pT M_2).map (mkM []) := rfl
theorem o_2 {θ : Nat → Int32} {L : Nat} : EOK θ L 2 E_2 := EOK.of (ml := []) rfl rfl rfl rfl q_2 (by decide +kernel) (fun n Q q hq => by cases hq)
set_option maxRecDepth 1000000 in
theorem q_3 : T_3 = (pT M_3).map (mkM []) := rfl
theorem o_3 {θ : Nat → Int32} {L : Nat} : EOK θ L 3 E_3 := EOK.of (ml := []) rfl rfl rfl rfl q_3 (by decide +kernel) (fun n Q q hq => by cases hq)
set_option maxRecDepth 1000000 in
theorem q_4 : T_4 = (pT M_4).map (mkM []) := rfl
theorem o_4 {θ : Nat → Int32} {L : Nat} : EOK θ L 4 E_4 := EOK.of (ml := []) rfl rfl rfl rfl q_4 (by decide +kernel) (fun n Q q hq => by cases hq)
set_option maxRecDepth 1000000 in
theorem q_5 : T_5 = (pT M_5).map (mkM []) := rfl
theorem o_5 {θ : Nat → Int32} {L : Nat} : EOK θ L 5 E_5 := EOK.of (ml := []) rfl rfl rfl rfl q_5 (by decide +kernel) (fun n Q q hq => by cases hq)
set_option maxRecDepth 1000000 in
theorem q_6 : T_6 = (pT M_6).map (mkM []) := rfl
theorem o_6 {θ : Nat → Int32} {L : Nat} : EOK θ L 6 E_6 := EOK.of (ml := []) rfl rfl rfl rfl q_6 (by decide +kernel) (fun n Q q hq => by cases hq)
set_option maxRecDepth 1000000 in
theorem q_7 : T_7 = (pT M_7).map (mkM []) := rfl
theorem o_7 {θ : Nat → Int32} {L : Nat} : EOK θ L 7 E_7 := EOK.of (ml := []) rfl rfl rfl rfl q_7 (by decide +kernel) (fun n Q q hq => by cases hq)
set_option maxRecDepth 1000000 in
theorem q_8 : T_8 = (pT M_8).map (mkM []) := rfl
theorem o_8 {θ : Nat → Int32} {L : Nat} : EOK θ L 8 E_8 := EOK.of (ml := []) rfl rfl rfl rfl q_8 (by decide +kernel) (fun n Q q hq => by cases hq)
set_option maxRecDepth 1000000 in
theorem q_9 : T_9 = (pT M_9).map (mkM []) := rfl
theorem o_9 {θ : Nat → Int32} {L : Nat} : EOK θ L 9 E_9 := EOK.of (ml := []) rfl rfl rfl rfl q_9 (by decide +kernel) (fun n Q q hq => by cases hq)
set_option maxRecDepth 1000000 in
theorem q_224 : T_224 = (pT M_224).map (mkM []) := rfl
theorem o_224 {θ : Nat → Int32} {L : Nat} : EOK θ L 224 E_224 := EOK.of (ml := []) rfl rfl rfl rfl q_224 (by decide +kernel) (fun n Q q hq => by cases hq)
theorem rr_0 {θ : Nat → Int32} {L : Nat} : ROKa θ L 0 ER_0 := ⟨Or.inr o_0, Or.inr o_1, Or.inr o_2, Or.inr o_3, Or.inr o_4, Or.inr o_5, Or.inr o_6, Or.inr o_7, Or.inr o_8, Or.inr o_9, Or.inl rfl, Or.inl rfl, Or.inl rfl, Or.inl rfl, Or.inl rfl, Or.inl rfl, Or.inl rfl, Or.inl rfl, Or.inl rfl, Or.inl rfl, trivial⟩
theorem rr_1 {θ : Nat → Int32} {L : Nat} : ROKa θ L 20 ER_1 := trivial
theorem rr_2 {θ : Nat → Int32} {L : Nat} : ROKa θ L 40 ER_2 := trivial
theorem rr_3 {θ : Nat → Int32} {L : Nat} : ROKa θ L 60 ER_3 := trivial
theorem rr_4 {θ : Nat → Int32} {L : Nat} : ROKa θ L 80 ER_4 := trivial
theorem rr_5 {θ : Nat → Int32} {L : Nat} : ROKa θ L 100 ER_5 := trivial
theorem rr_6 {θ : Nat → Int32} {L : Nat} : ROKa θ L 120 ER_6 := trivial
theorem rr_7 {θ : Nat → Int32} {L : Nat} : ROKa θ L 140 ER_7 := trivial
theorem rr_8 {θ : Nat → Int32} {L : Nat} : ROKa θ L 160 ER_8 := trivial
theorem rr_9 {θ : Nat → Int32} {L : Nat} : ROKa θ L 180 ER_9 := trivial
theorem rr_10 {θ : Nat → Int32} {L : Nat} : ROKa θ L 200 ER_10 := trivial
theorem rr_11 {θ : Nat → Int32} {L : Nat} : ROKa θ L 220 ER_11 := ⟨Or.inl rfl, Or.inl rfl, Or.inl rfl, Or.inl rfl, Or.inr o_224, Or.inl rfl, Or.inl rfl, Or.inl rfl, Or.inl rfl, Or.inl rfl, Or.inl rfl, Or.inl rfl, Or.inl rfl, Or.inl rfl, Or.inl rfl, Or.inl rfl, Or.inl rfl, Or.inl rfl, Or.inl rfl, Or.inl rfl, trivial⟩
theorem mtW_ok {θ : Nat → Int32} {L : Nat} : mtOK θ L mtW := mtOK_of ⟨rr_0, rr_1, rr_2, rr_3, rr_4, rr_5, rr_6, rr_7, rr_8, rr_9, rr_10, rr_11, trivial⟩
/-! laid by wip/hand/mk60.py: the heap when the class, and both, are made -/
def hc_0 : AE := .inr (9, [.inr (.inr (.ref 1)), .inr (.inr (.ref 9)), .inr (.inr (.ref 14)), .inr (.inr (.ref 19)), .inr (.inr (.ref 21)), .inr (.inr (.ref 37)), .inr (.inr (.ref 129)), .inr (.inr (.ref 134)), .inr (.inr (.ref 139)), .inr (.inr (.ref 141)), .inl (.ofNat 0), .inl (.ofNat 1)])
def hc_1 : AE := .inr (0, [.inl (.ofNat 0), .inr (.inr (.ref 2)), .inr (.inr (.ref 3)), .inr (.inr (.ref 4)), .inr (.inr (.ref 5)), .inr (.inr (.ref 6)), .inr (.inr (.ref 7)), .inr (.inr (.ref 8))])
def hc_2 : AE := .inl (0, [.inl (.ofNat 0), .inl (.ofNat 0), .inl (.ofNat 0), .inl (.ofNat 0), .inl (.ofNat 0), .inl (.ofNat 0), .inl (.ofNat 0), .inl (.ofNat 0)])
def hc_3 : AE := .inl (0, [.inl (.ofNat 0), .inl (.ofNat 0), .inl (.ofNat 0), .inl (.ofNat 0), .inl (.ofNat 0), .inl (.ofNat 0), .inl (.ofNat 0), .inl (.ofNat 0), .inl (.ofNat 0), .inl (.ofNat 0), .inl (.ofNat 0), .inl (.ofNat 0), .inl (.ofNat 0), .inl (.ofNat 0), .inl (.ofNat 0), .inl (.ofNat 0), .inl (.ofNat 0), .inl (.ofNat 0), .inl (.ofNat 0), .inl (.ofNat 0), .inl (.ofNat 0), .inl (.ofNat 0), .inl (.ofNat 0), .inl (.ofNat 0), .inl (.ofNat 0), .inl (.ofNat 0), .inl (.ofNat 0), .inl (.ofNat 0), .inl (.ofNat 0), .inl (.ofNat 0), .inl (.ofNat 0), .inl (.ofNat 0)])
def hc_4 : AE := .inl (0, [.inl (.ofNat 0), .inl (.ofNat 0), .inl (.ofNat 0), .inl (.ofNat 0), .inl (.ofNat 0), .inl (.ofNat 0), .inl (.ofNat 0), .inl (.ofNat 0)])
def hc_5 : AE := .inl (0, [.inl (.ofNat 0), .inl (.ofNat 0), .inl (.ofNat 1), .inl (.ofNat 0), .inl (.ofNat 2), .inl (.ofNat 2)])
def hc_6 : AE := .inl (0, [.inl (.ofNat 1), .inl (.ofNat 1), .inl (.ofNat 3), .inl (.ofNat 1), .inl (.ofNat 2), .inl (.ofNat 1)])
def hc_7 : AE := .inl (0, [.inl (.ofNat 1), .inl (.ofNat 1), .inl (.ofNat 3), .inl (.ofNat 1), .inl (.ofNat 1), .inl (.ofNat 1)])
def hc_8 : AE := .inl (0, [.inl (.ofNat 1), .inl (.ofNat 1), .inl (.ofNat 1)])
def hc_9 : AE := .inr (7, [.inl (.ofNat 0), .inr (.inr (.ref 10)), .inr (.inr (.ref 11)), .inr (.inr (.ref 12)), .inr (.inr (.ref 13)), .inl (.ofNat 0), .inl (.ofNat 1), .inl (.ofNat 0)])
def hc_10 : AE := .inl (0, [.inl (.ofNat 0), .inl (.ofNat 0), .inl (.ofNat 0), .inl (.ofNat 0), .inl (.ofNat 0), .inl (.ofNat 0), .inl (.ofNat 0), .inl (.ofNat 0), .inl (.ofNat 0), .inl (.ofNat 0), .inl (.ofNat 0), .inl (.ofNat 0), .inl (.ofNat 0), .inl (.ofNat 0), .inl (.ofNat 0), .inl (.ofNat 0), .inl (.ofNat 0), .inl (.ofNat 0), .inl (.ofNat 0), .inl (.ofNat 0), .inl (.ofNat 0), .inl (.ofNat 0), .inl (.ofNat 0), .inl (.ofNat 0), .inl (.ofNat 0), .inl (.ofNat 0), .inl (.ofNat 0), .inl (.ofNat 0), .inl (.ofNat 0), .inl (.ofNat 0), .inl (.ofNat 0), .inl (.ofNat 0), .inl (.ofNat 0), .inl (.ofNat 0), .inl (.ofNat 0), .inl (.ofNat 0), .inl (.ofNat 0), .inl (.ofNat 0), .inl (.ofNat 0), .inl (.ofNat 0), .inl (.ofNat 0), .inl (.ofNat 0), .inl (.ofNat 0), .inl (.ofNat 0), .inl (.ofNat 0), .inl (.ofNat 0), .inl (.ofNat 0), .inl (.ofNat 0), .inl (.ofNat 0), .inl (.ofNat 0), .inl (.ofNat 0), .inl (.ofNat 0), .inl (.ofNat 0), .inl (.ofNat 0), .inl (.ofNat 0), .inl (.ofNat 0), .inl (.ofNat 0), .inl (.ofNat 0), .inl (.ofNat 0), .inl (.ofNat 0), .inl (.ofNat 0), .inl (.ofNat 0), .inl (.ofNat 0), .inl (.ofNat 0)])
def hc_11 : AE := .inl (0, [.inl (.ofNat 0), .inl (.ofNat 0), .inl (.ofNat 0), .inl (.ofNat 0), .inl (.ofNat 0), .inl (.ofNat 0), .inl (.ofNat 0), .inl (.ofNat 0), .inl (.ofNat 0), .inl (.ofNat 0), .inl (.ofNat 0), .inl (.ofNat 0), .inl (.ofNat 0), .inl (.ofNat 0), .inl (.ofNat 0), .inl (.ofNat 0), .inl (.ofNat 0), .inl (.ofNat 0), .inl (.ofNat 0), .inl (.ofNat 0), .inl (.ofNat 0), .inl (.ofNat 0), .inl (.ofNat 0), .inl (.ofNat 0), .inl (.ofNat 0), .inl (.ofNat 0), .inl (.ofNat 0), .inl (.ofNat 0), .inl (.ofNat 0), .inl (.ofNat 0), .inl (.ofNat 0), .inl (.ofNat 0), .inl (.ofNat 0), .inl (.ofNat 0), .inl (.ofNat 0), .inl (.ofNat 0), .inl (.ofNat 0), .inl (.ofNat 0), .inl (.ofNat 0), .inl (.ofNat 0), .inl (.ofNat 0), .inl (.ofNat 0), .inl (.ofNat 0), .inl (.ofNat 0), .inl (.ofNat 0), .inl (.ofNat 0), .inl (.ofNat 0), .inl (.ofNat 0), .inl (.ofNat 0), .inl (.ofNat 0), .inl (.ofNat 0), .inl (.ofNat 0), .inl (.ofNat 0), .inl (.ofNat 0), .inl (.ofNat 0), .inl (.ofNat 0), .inl (.ofNat 0), .inl (.ofNat 0), .inl (.ofNat 0), .inl (.ofNat 0), .inl (.ofNat 0), .inl (.ofNat 0), .inl (.ofNat 0), .inl (.ofNat 0)])
def hc_12 : AE := .inl (0, [.inl (.ofNat 0), .inl (.ofNat 0), .inl (.ofNat 0), .inl (.ofNat 0), .inl (.ofNat 0), .inl (.ofNat 0), .inl (.ofNat 0), .inl (.ofNat 0), .inl (.ofNat 0), .inl (.ofNat 0), .inl (.ofNat 0), .inl (.ofNat 0), .inl (.ofNat 0), .inl (.ofNat 0), .inl (.ofNat 0), .inl (.ofNat 0), .inl (.ofNat 0), .inl (.ofNat 0), .inl (.ofNat 0), .inl (.ofNat 0), .inl (.ofNat 0), .inl (.ofNat 0), .inl (.ofNat 0), .inl (.ofNat 0), .inl (.ofNat 0), .inl (.ofNat 0), .inl (.ofNat 0), .inl (.ofNat 0), .inl (.ofNat 0), .inl (.ofNat 0), .inl (.ofNat 0), .inl (.ofNat 0), .inl (.ofNat 0), .inl (.ofNat 0), .inl (.ofNat 0), .inl (.ofNat 0), .inl (.ofNat 0), .inl (.ofNat 0), .inl (.ofNat 0), .inl (.ofNat 0), .inl (.ofNat 0), .inl (.ofNat 0), .inl (.ofNat 0), .inl (.ofNat 0), .inl (.ofNat 0), .inl (.ofNat 0), .inl (.ofNat 0), .inl (.ofNat 0), .inl (.ofNat 0), .inl (.ofNat 0), .inl (.ofNat 0), .inl (.ofNat 0), .inl (.ofNat 0), .inl (.ofNat 0), .inl (.ofNat 0), .inl (.ofNat 0), .inl (.ofNat 0), .inl (.ofNat 0), .inl (.ofNat 0), .inl (.ofNat 0), .inl (.ofNat 0), .inl (.ofNat 0), .inl (.ofNat 0), .inl (.ofNat 0)])
def hc_13 : AE := .inl (0, [.inl (.ofNat 0), .inl (.ofNat 0), .inl (.ofNat 0), .inl (.ofNat 0), .inl (.ofNat 0), .inl (.ofNat 0), .inl (.ofNat 0), .inl (.ofNat 0), .inl (.ofNat 0), .inl (.ofNat 0), .inl (.ofNat 0), .inl (.ofNat 0), .inl (.ofNat 0), .inl (.ofNat 0), .inl (.ofNat 0), .inl (.ofNat 0), .inl (.ofNat 0), .inl (.ofNat 0), .inl (.ofNat 0), .inl (.ofNat 0), .inl (.ofNat 0), .inl (.ofNat 0), .inl (.ofNat 0), .inl (.ofNat 0), .inl (.ofNat 0), .inl (.ofNat 0), .inl (.ofNat 0), .inl (.ofNat 0), .inl (.ofNat 0), .inl (.ofNat 0), .inl (.ofNat 0), .inl (.ofNat 0), .inl (.ofNat 0), .inl (.ofNat 0), .inl (.ofNat 0), .inl (.ofNat 0), .inl (.ofNat 0), .inl (.ofNat 0), .inl (.ofNat 0), .inl (.ofNat 0), .inl (.ofNat 0), .inl (.ofNat 0), .inl (.ofNat 0), .inl (.ofNat 0), .inl (.ofNat 0), .inl (.ofNat 0), .inl (.ofNat 0), .inl (.ofNat 0), .inl (.ofNat 0), .inl (.ofNat 0), .inl (.ofNat 0), .inl (.ofNat 0), .inl (.ofNat 0), .inl (.ofNat 0), .inl (.ofNat 0), .inl (.ofNat 0), .inl (.ofNat 0), .inl (.ofNat 0), .inl (.ofNat 0), .inl (.ofNat 0), .inl (.ofNat 0), .inl (.ofNat 0), .inl (.ofNat 0), .inl (.ofNat 0)])
def hc_14 : AE := .inr (7, [.inl (.ofNat 0), .inr (.inr (.ref 15)), .inr (.inr (.ref 16)), .inr (.inr (.ref 17)), .inr (.inr (.ref 18)), .inl (.ofNat 0), .inl (.ofNat 1), .inl (.ofNat 0)])
def hc_15 : AE := .inl (0, [.inl (.ofNat 0), .inl (.ofNat 0), .inl (.ofNat 0), .inl (.ofNat 0), .inl (.ofNat 0), .inl (.ofNat 0), .inl (.ofNat 0), .inl (.ofNat 0), .inl (.ofNat 0), .inl (.ofNat 0), .inl (.ofNat 0), .inl (.ofNat 0), .inl (.ofNat 0), .inl (.ofNat 0), .inl (.ofNat 0), .inl (.ofNat 0), .inl (.ofNat 0), .inl (.ofNat 0), .inl (.ofNat 0), .inl (.ofNat 0), .inl (.ofNat 0), .inl (.ofNat 0), .inl (.ofNat 0), .inl (.ofNat 0), .inl (.ofNat 0), .inl (.ofNat 0), .inl (.ofNat 0), .inl (.ofNat 0), .inl (.ofNat 0), .inl (.ofNat 0), .inl (.ofNat 0), .inl (.ofNat 0), .inl (.ofNat 0), .inl (.ofNat 0), .inl (.ofNat 0), .inl (.ofNat 0), .inl (.ofNat 0), .inl (.ofNat 0), .inl (.ofNat 0), .inl (.ofNat 0), .inl (.ofNat 0), .inl (.ofNat 0), .inl (.ofNat 0), .inl (.ofNat 0), .inl (.ofNat 0), .inl (.ofNat 0), .inl (.ofNat 0), .inl (.ofNat 0), .inl (.ofNat 0), .inl (.ofNat 0), .inl (.ofNat 0), .inl (.ofNat 0), .inl (.ofNat 0), .inl (.ofNat 0), .inl (.ofNat 0), .inl (.ofNat 0), .inl (.ofNat 0), .inl (.ofNat 0), .inl (.ofNat 0), .inl (.ofNat 0), .inl (.ofNat 0), .inl (.ofNat 0), .inl (.ofNat 0), .inl (.ofNat 0)])
def hc_16 : AE := .inl (0, [.inl (.ofNat 0), .inl (.ofNat 0), .inl (.ofNat 0), .inl (.ofNat 0), .inl (.ofNat 0), .inl (.ofNat 0), .inl (.ofNat 0), .inl (.ofNat 0), .inl (.ofNat 0), .inl (.ofNat 0), .inl (.ofNat 0), .inl (.ofNat 0), .inl (.ofNat 0), .inl (.ofNat 0), .inl (.ofNat 0), .inl (.ofNat 0), .inl (.ofNat 0), .inl (.ofNat 0), .inl (.ofNat 0), .inl (.ofNat 0), .inl (.ofNat 0), .inl (.ofNat 0), .inl (.ofNat 0), .inl (.ofNat 0), .inl (.ofNat 0), .inl (.ofNat 0), .inl (.ofNat 0), .inl (.ofNat 0), .inl (.ofNat 0), .inl (.ofNat 0), .inl (.ofNat 0), .inl (.ofNat 0), .inl (.ofNat 0), .inl (.ofNat 0), .inl (.ofNat 0), .inl (.ofNat 0), .inl (.ofNat 0), .inl (.ofNat 0), .inl (.ofNat 0), .inl (.ofNat 0), .inl (.ofNat 0), .inl (.ofNat 0), .inl (.ofNat 0), .inl (.ofNat 0), .inl (.ofNat 0), .inl (.ofNat 0), .inl (.ofNat 0), .inl (.ofNat 0), .inl (.ofNat 0), .inl (.ofNat 0), .inl (.ofNat 0), .inl (.ofNat 0), .inl (.ofNat 0), .inl (.ofNat 0), .inl (.ofNat 0), .inl (.ofNat 0), .inl (.ofNat 0), .inl (.ofNat 0), .inl (.ofNat 0), .inl (.ofNat 0), .inl (.ofNat 0), .inl (.ofNat 0), .inl (.ofNat 0), .inl (.ofNat 0)])
def hc_17 : AE := .inl (0, [.inl (.ofNat 0), .inl (.ofNat 0), .inl (.ofNat 0), .inl (.ofNat 0), .inl (.ofNat 0), .inl (.ofNat 0), .inl (.ofNat 0), .inl (.ofNat 0), .inl (.ofNat 0), .inl (.ofNat 0), .inl (.ofNat 0), .inl (.ofNat 0), .inl (.ofNat 0), .inl (.ofNat 0), .inl (.ofNat 0), .inl (.ofNat 0), .inl (.ofNat 0), .inl (.ofNat 0), .inl (.ofNat 0), .inl (.ofNat 0), .inl (.ofNat 0), .inl (.ofNat 0), .inl (.ofNat 0), .inl (.ofNat 0), .inl (.ofNat 0), .inl (.ofNat 0), .inl (.ofNat 0), .inl (.ofNat 0), .inl (.ofNat 0), .inl (.ofNat 0), .inl (.ofNat 0), .inl (.ofNat 0), .inl (.ofNat 0), .inl (.ofNat 0), .inl (.ofNat 0), .inl (.ofNat 0), .inl (.ofNat 0), .inl (.ofNat 0), .inl (.ofNat 0), .inl (.ofNat 0), .inl (.ofNat 0), .inl (.ofNat 0), .inl (.ofNat 0), .inl (.ofNat 0), .inl (.ofNat 0), .inl (.ofNat 0), .inl (.ofNat 0), .inl (.ofNat 0), .inl (.ofNat 0), .inl (.ofNat 0), .inl (.ofNat 0), .inl (.ofNat 0), .inl (.ofNat 0), .inl (.ofNat 0), .inl (.ofNat 0), .inl (.ofNat 0), .inl (.ofNat 0), .inl (.ofNat 0), .inl (.ofNat 0), .inl (.ofNat 0), .inl (.ofNat 0), .inl (.ofNat 0), .inl (.ofNat 0), .inl (.ofNat 0)])
def hc_18 : AE := .inl (0, [.inl (.ofNat 0), .inl (.ofNat 0), .inl (.ofNat 0), .inl (.ofNat 0), .inl (.ofNat 0), .inl (.ofNat 0), .inl (.ofNat 0), .inl (.ofNat 0), .inl (.ofNat 0), .inl (.ofNat 0), .inl (.ofNat 0), .inl (.ofNat 0), .inl (.ofNat 0), .inl (.ofNat 0), .inl (.ofNat 0), .inl (.ofNat 0), .inl (.ofNat 0), .inl (.ofNat 0), .inl (.ofNat 0), .inl (.ofNat 0), .inl (.ofNat 0), .inl (.ofNat 0), .inl (.ofNat 0), .inl (.ofNat 0), .inl (.ofNat 0), .inl (.ofNat 0), .inl (.ofNat 0), .inl (.ofNat 0), .inl (.ofNat 0), .inl (.ofNat 0), .inl (.ofNat 0), .inl (.ofNat 0), .inl (.ofNat 0), .inl (.ofNat 0), .inl (.ofNat 0), .inl (.ofNat 0), .inl (.ofNat 0), .inl (.ofNat 0), .inl (.ofNat 0), .inl (.ofNat 0), .inl (.ofNat 0), .inl (.ofNat 0), .inl (.ofNat 0), .inl (.ofNat 0), .inl (.ofNat 0), .inl (.ofNat 0), .inl (.ofNat 0), .inl (.ofNat 0), .inl (.ofNat 0), .inl (.ofNat 0), .inl (.ofNat 0), .inl (.ofNat 0), .inl (.ofNat 0), .inl (.ofNat 0), .inl (.ofNat 0), .inl (.ofNat 0), .inl (.ofNat 0), .inl (.ofNat 0), .inl (.ofNat 0), .inl (.ofNat 0), .inl (.ofNat 0), .inl (.ofNat 0), .inl (.ofNat 0), .inl (.ofNat 0)])
def hc_19 : AE := .inr (5, [.inl (.ofNat 0), .inl (.ofNat 0), .inr (.inr (.ref 20))])
def hc_20 : AE := .inl (0, [.inl (.ofNat 0), .inl (.ofNat 0), .inl (.ofNat 0), .inl (.ofNat 0), .inl (.ofNat 0), .inl (.ofNat 0), .inl (.ofNat 0), .inl (.ofNat 0), .inl (.ofNat 0), .inl (.ofNat 0), .inl (.ofNat 0), .inl (.ofNat 0), .inl (.ofNat 0), .inl (.ofNat 0), .inl (.ofNat 0), .inl (.ofNat 0), .inl (.ofNat 0), .inl (.ofNat 0), .inl (.ofNat 0), .inl (.ofNat 0), .inl (.ofNat 0), .inl (.ofNat 0), .inl (.ofNat 0), .inl (.ofNat 0), .inl (.ofNat 0), .inl (.ofNat 0), .inl (.ofNat 0), .inl (.ofNat 0), .inl (.ofNat 0), .inl (.ofNat 0), .inl (.ofNat 0), .inl (.ofNat 0), .inl (.ofNat 0), .inl (.ofNat 0), .inl (.ofNat 0), .inl (.ofNat 0), .inl (.ofNat 0), .inl (.ofNat 0), .inl (.ofNat 0), .inl (.ofNat 0), .inl (.ofNat 0), .inl (.ofNat 0), .inl (.ofNat 0), .inl (.ofNat 0), .inl (.ofNat 0), .inl (.ofNat 0), .inl (.ofNat 0), .inl (.ofNat 0), .inl (.ofNat 0), .inl (.ofNat 0), .inl (.ofNat 0), .inl (.ofNat 0), .inl (.ofNat 0), .inl (.ofNat 0), .inl (.ofNat 0), .inl (.ofNat 0), .inl (.ofNat 0), .inl (.ofNat 0), .inl (.ofNat 0), .inl (.ofNat 0), .inl (.ofNat 0), .inl (.ofNat 0), .inl (.ofNat 0), .inl (.ofNat 0)])
def hc_21 : AE := .inr (6, [.inl (.ofNat 0), .inl (.ofNat 0), .inl (.ofNat 0), .inl (.ofNat 0), .inl (.ofNat 0), .inr (.inr (.ref 22)), .inr (.inr (.ref 23)), .inr (.inr (.ref 24)), .inr (.inr (.ref 25)), .inr (.inr (.ref 26)), .inr (.inr (.ref 27)), .inr (.inr (.ref 28)), .inr (.inr (.ref 29)), .inr (.inr (.ref 30)), .inr (.inr (.ref 31)), .inr (.inr (.ref 32)), .inr (.inr (.ref 33)), .inr (.inr (.ref 34)), .inr (.inr (.ref 35)), .inr (.inr (.ref 36))])
def hc_22 : AE := .inl (0, [.inl (.ofNat 0), .inl (.ofNat 0), .inl (.ofNat 0), .inl (.ofNat 0), .inl (.ofNat 0), .inl (.ofNat 0), .inl (.ofNat 0), .inl (.ofNat 0)])
def hc_23 : AE := .inl (0, [.inl (.ofNat 0), .inl (.ofNat 0), .inl (.ofNat 0), .inl (.ofNat 0), .inl (.ofNat 0), .inl (.ofNat 0), .inl (.ofNat 0), .inl (.ofNat 0)])
def hc_24 : AE := .inl (0, [.inl (.ofNat 0), .inl (.ofNat 0), .inl (.ofNat 0), .inl (.ofNat 0), .inl (.ofNat 0), .inl (.ofNat 0), .inl (.ofNat 0), .inl (.ofNat 0)])
def hc_25 : AE := .inl (0, [.inl (.ofNat 0), .inl (.ofNat 0), .inl (.ofNat 0)])
def hc_26 : AE := .inl (0, [.inl (.ofNat 0), .inl (.ofNat 0), .inl (.ofNat 0)])
def hc_27 : AE := .inl (0, [.inl (.ofNat 0), .inl (.ofNat 0), .inl (.ofNat 0), .inl (.ofNat 0), .inl (.ofNat 0), .inl (.ofNat 0), .inl (.ofNat 0), .inl (.ofNat 0), .inl (.ofNat 0), .inl (.ofNat 0), .inl (.ofNat 0), .inl (.ofNat 0), .inl (.ofNat 0), .inl (.ofNat 0), .inl (.ofNat 0), .inl (.ofNat 0), .inl (.ofNat 0), .inl (.ofNat 0), .inl (.ofNat 0), .inl (.ofNat 0), .inl (.ofNat 0), .inl (.ofNat 0), .inl (.ofNat 0), .inl (.ofNat 0), .inl (.ofNat 0), .inl (.ofNat 0), .inl (.ofNat 0), .inl (.ofNat 0), .inl (.ofNat 0), .inl (.ofNat 0), .inl (.ofNat 0), .inl (.ofNat 0)])
def hc_28 : AE := .inl (0, [.inl (.ofNat 0), .inl (.ofNat 0), .inl (.ofNat 0), .inl (.ofNat 0), .inl (.ofNat 0), .inl (.ofNat 0), .inl (.ofNat 0), .inl (.ofNat 0), .inl (.ofNat 0), .inl (.ofNat 0), .inl (.ofNat 0), .inl (.ofNat 0)])
def hc_29 : AE := .inl (0, [.inl (.ofNat 0), .inl (.ofNat 0), .inl (.ofNat 0), .inl (.ofNat 0), .inl (.ofNat 0), .inl (.ofNat 0), .inl (.ofNat 0), .inl (.ofNat 0), .inl (.ofNat 0), .inl (.ofNat 0), .inl (.ofNat 0), .inl (.ofNat 0), .inl (.ofNat 0), .inl (.ofNat 0), .inl (.ofNat 0), .inl (.ofNat 0), .inl (.ofNat 0), .inl (.ofNat 0), .inl (.ofNat 0), .inl (.ofNat 0), .inl (.ofNat 0), .inl (.ofNat 0), .inl (.ofNat 0), .inl (.ofNat 0), .inl (.ofNat 0), .inl (.ofNat 0), .inl (.ofNat 0), .inl (.ofNat 0), .inl (.ofNat 0), .inl (.ofNat 0), .inl (.ofNat 0), .inl (.ofNat 0)])
def hc_30 : AE := .inl (0, [.inl (.ofNat 0), .inl (.ofNat 0), .inl (.ofNat 0), .inl (.ofNat 0), .inl (.ofNat 0), .inl (.ofNat 0), .inl (.ofNat 0), .inl (.ofNat 0), .inl (.ofNat 0), .inl (.ofNat 0), .inl (.ofNat 0), .inl (.ofNat 0), .inl (.ofNat 0), .inl (.ofNat 0), .inl (.ofNat 0), .inl (.ofNat 0), .inl (.ofNat 0), .inl (.ofNat 0), .inl (.ofNat 0), .inl (.ofNat 0), .inl (.ofNat 0), .inl (.ofNat 0), .inl (.ofNat 0), .inl (.ofNat 0), .inl (.ofNat 0), .inl (.ofNat 0), .inl (.ofNat 0), .inl (.ofNat 0), .inl (.ofNat 0), .inl (.ofNat 0), .inl (.ofNat 0), .inl (.ofNat 0), .inl (.ofNat 0), .inl (.ofNat 0), .inl (.ofNat 0), .inl (.ofNat 0), .inl (.ofNat 0), .inl (.ofNat 0), .inl (.ofNat 0), .inl (.ofNat 0), .inl (.ofNat 0), .inl (.ofNat 0), .inl (.ofNat 0), .inl (.ofNat 0), .inl (.ofNat 0), .inl (.ofNat 0), .inl (.ofNat 0), .inl (.ofNat 0), .inl (.ofNat 0), .inl (.ofNat 0), .inl (.ofNat 0), .inl (.ofNat 0), .inl (.ofNat 0), .inl (.ofNat 0), .inl (.ofNat 0), .inl (.ofNat 0), .inl (.ofNat 0), .inl (.ofNat 0), .inl (.ofNat 0), .inl (.ofNat 0), .inl (.ofNat 0), .inl (.ofNat 0), .inl (.ofNat 0), .inl (.ofNat 0)])
def hc_31 : AE := .inl (0, [.inl (.ofNat 0), .inl (.ofNat 0), .inl (.ofNat 0), .inl (.ofNat 0), .inl (.ofNat 0), .inl (.ofNat 0), .inl (.ofNat 0), .inl (.ofNat 0), .inl (.ofNat 0), .inl (.ofNat 0), .inl (.ofNat 0), .inl (.ofNat 0), .inl (.ofNat 0), .inl (.ofNat 0), .inl (.ofNat 0), .inl (.ofNat 0), .inl (.ofNat 0), .inl (.ofNat 0), .inl (.ofNat 0), .inl (.ofNat 0), .inl (.ofNat 0), .inl (.ofNat 0), .inl (.ofNat 0), .inl (.ofNat 0), .inl (.ofNat 0), .inl (.ofNat 0), .inl (.ofNat 0), .inl (.ofNat 0), .inl (.ofNat 0), .inl (.ofNat 0), .inl (.ofNat 0), .inl (.ofNat 0), .inl (.ofNat 0), .inl (.ofNat 0), .inl (.ofNat 0), .inl (.ofNat 0), .inl (.ofNat 0), .inl (.ofNat 0), .inl (.ofNat 0), .inl (.ofNat 0), .inl (.ofNat 0), .inl (.ofNat 0), .inl (.ofNat 0), .inl (.ofNat 0), .inl (.ofNat 0), .inl (.ofNat 0), .inl (.ofNat 0), .inl (.ofNat 0), .inl (.ofNat 0), .inl (.ofNat 0), .inl (.ofNat 0), .inl (.ofNat 0), .inl (.ofNat 0), .inl (.ofNat 0), .inl (.ofNat 0), .inl (.ofNat 0), .inl (.ofNat 0), .inl (.ofNat 0), .inl (.ofNat 0), .inl (.ofNat 0), .inl (.ofNat 0), .inl (.ofNat 0), .inl (.ofNat 0), .inl (.ofNat 0), .inl (.ofNat 0), .inl (.ofNat 0), .inl (.ofNat 0), .inl (.ofNat 0), .inl (.ofNat 0), .inl (.ofNat 0), .inl (.ofNat 0), .inl (.ofNat 0), .inl (.ofNat 0), .inl (.ofNat 0), .inl (.ofNat 0), .inl (.ofNat 0), .inl (.ofNat 0), .inl (.ofNat 0), .inl (.ofNat 0), .inl (.ofNat 0), .inl (.ofNat 0), .inl (.ofNat 0), .inl (.ofNat 0), .inl (.ofNat 0), .inl (.ofNat 0), .inl (.ofNat 0), .inl (.ofNat 0), .inl (.ofNat 0), .inl (.ofNat 0), .inl (.ofNat 0), .inl (.ofNat 0), .inl (.ofNat 0), .inl (.ofNat 0), .inl (.ofNat 0), .inl (.ofNat 0), .inl (.ofNat 0), .inl (.ofNat 0), .inl (.ofNat 0), .inl (.ofNat 0), .inl (.ofNat 0), .inl (.ofNat 0), .inl (.ofNat 0), .inl (.ofNat 0), .inl (.ofNat 0), .inl (.ofNat 0), .inl (.ofNat 0), .inl (.ofNat 0), .inl (.ofNat 0), .inl (.ofNat 0), .inl (.ofNat 0), .inl (.ofNat 0), .inl (.ofNat 0), .inl (.ofNat 0), .inl (.ofNat 0), .inl (.ofNat 0), .inl (.ofNat 0), .inl (.ofNat 0), .inl (.ofNat 0), .inl (.ofNat 0), .inl (.ofNat 0), .inl (.ofNat 0), .inl (.ofNat 0), .inl (.ofNat 0), .inl (.ofNat 0), .inl (.ofNat 0), .inl (.ofNat 0), .inl (.ofNat 0), .inl (.ofNat 0), .inl (.ofNat 0), .inl (.ofNat 0), .inl (.ofNat 0), .inl (.ofNat 0), .inl (.ofNat 0), .inl (.ofNat 0), .inl (.ofNat 0), .inl (.ofNat 0), .inl (.ofNat 0), .inl (.ofNat 0), .inl (.ofNat 0), .inl (.ofNat 0), .inl (.ofNat 0), .inl (.ofNat 0), .inl (.ofNat 0), .inl (.ofNat 0), .inl (.ofNat 0), .inl (.ofNat 0), .inl (.ofNat 0), .inl (.ofNat 0), .inl (.ofNat 0), .inl (.ofNat 0), .inl (.ofNat 0), .inl (.ofNat 0), .inl (.ofNat 0), .inl (.ofNat 0), .inl (.ofNat 0), .inl (.ofNat 0), .inl (.ofNat 0), .inl (.ofNat 0), .inl (.ofNat 0), .inl (.ofNat 0), .inl (.ofNat 0), .inl (.ofNat 0), .inl (.ofNat 0), .inl (.ofNat 0), .inl (.ofNat 0), .inl (.ofNat 0), .inl (.ofNat 0), .inl (.ofNat 0), .inl (.ofNat 0), .inl (.ofNat 0), .inl (.ofNat 0), .inl (.ofNat 0), .inl (.ofNat 0), .inl (.ofNat 0), .inl (.ofNat 0), .inl (.ofNat 0), .inl (.ofNat 0), .inl (.ofNat 0), .inl (.ofNat 0), .inl (.ofNat 0), .inl (.ofNat 0), .inl (.ofNat 0), .inl (.ofNat 0), .inl (.ofNat 0), .inl (.ofNat 0), .inl (.ofNat 0), .inl (.ofNat 0), .inl (.ofNat 0), .inl (.ofNat 0), .inl (.ofNat 0), .inl (.ofNat 0), .inl (.ofNat 0), .inl (.ofNat 0), .inl (.ofNat 0), .inl (.ofNat 0), .inl (.ofNat 0), .inl (.ofNat 0), .inl (.ofNat 0), .inl (.ofNat 0), .inl (.ofNat 0), .inl (.ofNat 0), .inl (.ofNat 0), .inl (.ofNat 0), .inl (.ofNat 0), .inl (.ofNat 0), .inl (.ofNat 0), .inl (.ofNat 0), .inl (.ofNat 0), .inl (.ofNat 0), .inl (.ofNat 0), .inl (.ofNat 0), .inl (.ofNat 0), .inl (.ofNat 0), .inl (.ofNat 0), .inl (.ofNat 0), .inl (.ofNat 0), .inl (.ofNat 0), .inl (.ofNat 0), .inl (.ofNat 0), .inl (.ofNat 0), .inl (.ofNat 0), .inl (.ofNat 0), .inl (.ofNat 0), .inl (.ofNat 0), .inl (.ofNat 0), .inl (.ofNat 0), .inl (.ofNat 0), .inl (.ofNat 0), .inl (.ofNat 0), .inl (.ofNat 0), .inl (.ofNat 0), .inl (.ofNat 0), .inl (.ofNat 0), .inl (.ofNat 0), .inl (.ofNat 0), .inl (.ofNat 0), .inl (.ofNat 0), .inl (.ofNat 0), .inl (.ofNat 0), .inl (.ofNat 0), .inl (.ofNat 0), .inl (.ofNat 0), .inl (.ofNat 0), .inl (.ofNat 0), .inl (.ofNat 0), .inl (.ofNat 0), .inl (.ofNat 0), .inl (.ofNat 0), .inl (.ofNat 0), .inl (.ofNat 0), .inl (.ofNat 0), .inl (.ofNat 0), .inl (.ofNat 0), .inl (.ofNat 0), .inl (.ofNat 0), .inl (.ofNat 0), .inl (.ofNat 0), .inl (.ofNat 0), .inl (.ofNat 0), .inl (.ofNat 0), .inl (.ofNat 0), .inl (.ofNat 0), .inl (.ofNat 0), .inl (.ofNat 0), .inl (.ofNat 0), .inl (.ofNat 0), .inl (.ofNat 0), .inl (.ofNat 0), .inl (.ofNat 0), .inl (.ofNat 0), .inl (.ofNat 0), .inl (.ofNat 0), .inl (.ofNat 0), .inl (.ofNat 0), .inl (.ofNat 0), .inl (.ofNat 0), .inl (.ofNat 0), .inl (.ofNat 0), .inl (.ofNat 0), .inl (.ofNat 0), .inl (.ofNat 0), .inl (.ofNat 0), .inl (.ofNat 0), .inl (.ofNat 0), .inl (.ofNat 0), .inl (.ofNat 0), .inl (.ofNat 0), .inl (.ofNat 0), .inl (.ofNat 0), .inl (.ofNat 0), .inl (.ofNat 0), .inl (.ofNat 0), .inl (.ofNat 0), .inl (.ofNat 0), .inl (.ofNat 0), .inl (.ofNat 0), .inl (.ofNat 0), .inl (.ofNat 0), .inl (.ofNat 0), .inl (.ofNat 0), .inl (.ofNat 0), .inl (.ofNat 0), .inl (.ofNat 0), .inl (.ofNat 0), .inl (.ofNat 0), .inl (.ofNat 0), .inl (.ofNat 0), .inl (.ofNat 0), .inl (.ofNat 0), .inl (.ofNat 0), .inl (.ofNat 0), .inl (.ofNat 0), .inl (.ofNat 0), .inl (.ofNat 0), .inl (.ofNat 0), .inl (.ofNat 0), .inl (.ofNat 0), .inl (.ofNat 0), .inl (.ofNat 0), .inl (.ofNat 0), .inl (.ofNat 0), .inl (.ofNat 0), .inl (.ofNat 0), .inl (.ofNat 0), .inl (.ofNat 0), .inl (.ofNat 0), .inl (.ofNat 0), .inl (.ofNat 0), .inl (.ofNat 0), .inl (.ofNat 0), .inl (.ofNat 0), .inl (.ofNat 0), .inl (.ofNat 0), .inl (.ofNat 0), .inl (.ofNat 0), .inl (.ofNat 0), .inl (.ofNat 0), .inl (.ofNat 0), .inl (.ofNat 0), .inl (.ofNat 0), .inl (.ofNat 0), .inl (.ofNat 0), .inl (.ofNat 0), .inl (.ofNat 0), .inl (.ofNat 0), .inl (.ofNat 0), .inl (.ofNat 0), .inl (.ofNat 0), .inl (.ofNat 0), .inl (.ofNat 0), .inl (.ofNat 0), .inl (.ofNat 0), .inl (.ofNat 0), .inl (.ofNat 0), .inl (.ofNat 0), .inl (.ofNat 0), .inl (.ofNat 0), .inl (.ofNat 0), .inl (.ofNat 0), .inl (.ofNat 0), .inl (.ofNat 0), .inl (.ofNat 0), .inl (.ofNat 0), .inl (.ofNat 0), .inl (.ofNat 0), .inl (.ofNat 0), .inl (.ofNat 0), .inl (.ofNat 0), .inl (.ofNat 0), .inl (.ofNat 0), .inl (.ofNat 0), .inl (.ofNat 0), .inl (.ofNat 0), .inl (.ofNat 0), .inl (.ofNat 0), .inl (.ofNat 0), .inl (.ofNat 0), .inl (.ofNat 0), .inl (.ofNat 0), .inl (.ofNat 0), .inl (.ofNat 0), .inl (.ofNat 0), .inl (.ofNat 0), .inl (.ofNat 0), .inl (.ofNat 0), .inl (.ofNat 0), .inl (.ofNat 0), .inl (.ofNat 0), .inl (.ofNat 0), .inl (.ofNat 0), .inl (.ofNat 0), .inl (.ofNat 0), .inl (.ofNat 0), .inl (.ofNat 0), .inl (.ofNat 0), .inl (.ofNat 0), .inl (.ofNat 0), .inl (.ofNat 0), .inl (.ofNat 0), .inl (.ofNat 0), .inl (.ofNat 0), .inl (.ofNat 0), .inl (.ofNat 0), .inl (.ofNat 0), .inl (.ofNat 0), .inl (.ofNat 0), .inl (.ofNat 0), .inl (.ofNat 0), .inl (.ofNat 0), .inl (.ofNat 0), .inl (.ofNat 0), .inl (.ofNat 0), .inl (.ofNat 0), .inl (.ofNat 0), .inl (.ofNat 0), .inl (.ofNat 0), .inl (.ofNat 0), .inl (.ofNat 0), .inl (.ofNat 0), .inl (.ofNat 0), .inl (.ofNat 0), .inl (.ofNat 0), .inl (.ofNat 0), .inl (.ofNat 0), .inl (.ofNat 0), .inl (.ofNat 0), .inl (.ofNat 0), .inl (.ofNat 0), .inl (.ofNat 0), .inl (.ofNat 0), .inl (.ofNat 0), .inl (.ofNat 0), .inl (.ofNat 0), .inl (.ofNat 0), .inl (.ofNat 0), .inl (.ofNat 0), .inl (.ofNat 0), .inl (.ofNat 0), .inl (.ofNat 0), .inl (.ofNat 0), .inl (.ofNat 0), .inl (.ofNat 0), .inl (.ofNat 0), .inl (.ofNat 0), .inl (.ofNat 0), .inl (.ofNat 0), .inl (.ofNat 0), .inl (.ofNat 0), .inl (.ofNat 0), .inl (.ofNat 0), .inl (.ofNat 0), .inl (.ofNat 0), .inl (.ofNat 0), .inl (.ofNat 0), .inl (.ofNat 0), .inl (.ofNat 0), .inl (.ofNat 0), .inl (.ofNat 0), .inl (.ofNat 0), .inl (.ofNat 0), .inl (.ofNat 0), .inl (.ofNat 0), .inl (.ofNat 0), .inl (.ofNat 0), .inl (.ofNat 0), .inl (.ofNat 0), .inl (.ofNat 0), .inl (.ofNat 0), .inl (.ofNat 0), .inl (.ofNat 0), .inl (.ofNat 0), .inl (.ofNat 0), .inl (.ofNat 0), .inl (.ofNat 0), .inl (.ofNat 0), .inl (.ofNat 0), .inl (.ofNat 0), .inl (.ofNat 0), .inl (.ofNat 0), .inl (.ofNat 0), .inl (.ofNat 0), .inl (.ofNat 0), .inl (.ofNat 0), .inl (.ofNat 0), .inl (.ofNat 0), .inl (.ofNat 0), .inl (.ofNat 0), .inl (.ofNat 0), .inl (.ofNat 0), .inl (.ofNat 0), .inl (.ofNat 0), .inl (.ofNat 0), .inl (.ofNat 0), .inl (.ofNat 0), .inl (.ofNat 0), .inl (.ofNat 0), .inl (.ofNat 0), .inl (.ofNat 0), .inl (.ofNat 0), .inl (.ofNat 0), .inl (.ofNat 0), .inl (.ofNat 0), .inl (.ofNat 0), .inl (.ofNat 0), .inl (.ofNat 0), .inl (.ofNat 0), .inl (.ofNat 0), .inl (.ofNat 0), .inl (.ofNat 0), .inl (.ofNat 0), .inl (.ofNat 0), .inl (.ofNat 0)])
def hc_32 : AE := .inl (0, [.inl (.ofNat 0), .inl (.ofNat 0), .inl (.ofNat 0), .inl (.ofNat 0), .inl (.ofNat 0), .inl (.ofNat 0), .inl (.ofNat 0), .inl (.ofNat 0)])
def hc_33 : AE := .inl (0, [.inl (.ofNat 0), .inl (.ofNat 0), .inl (.ofNat 0), .inl (.ofNat 0), .inl (.ofNat 0), .inl (.ofNat 0), .inl (.ofNat 0), .inl (.ofNat 0)])
def hc_34 : AE := .inl (0, [.inl (.ofNat 0), .inl (.ofNat 0), .inl (.ofNat 0), .inl (.ofNat 0), .inl (.ofNat 0), .inl (.ofNat 0), .inl (.ofNat 0), .inl (.ofNat 0)])
def hc_35 : AE := .inl (0, [.inl (.ofNat 0), .inl (.ofNat 0), .inl (.ofNat 0), .inl (.ofNat 0), .inl (.ofNat 0), .inl (.ofNat 0), .inl (.ofNat 0), .inl (.ofNat 0)])
def hc_36 : AE := .inl (0, [.inl (.ofNat 0), .inl (.ofNat 0), .inl (.ofNat 0), .inl (.ofNat 0), .inl (.ofNat 0), .inl (.ofNat 0), .inl (.ofNat 0), .inl (.ofNat 0)])
def hc_37 : AE := .inl (2, [.inr (.inr (.ref 38)), .inr (.inr (.ref 45)), .inr (.inr (.ref 52)), .inr (.inr (.ref 59)), .inr (.inr (.ref 66)), .inr (.inr (.ref 73)), .inr (.inr (.ref 80)), .inr (.inr (.ref 87)), .inr (.inr (.ref 94)), .inr (.inr (.ref 101)), .inr (.inr (.ref 108)), .inr (.inr (.ref 115)), .inr (.inr (.ref 122))])
def hc_38 : AE := .inr (1, [.inl (.ofNat 0), .inl (.ofNat 0), .inl (.ofNat 0), .inl (.ofNat 1), .inl (.ofNat 0), .inl (.ofNat 0), .inl (.ofNat 0), .inl (.ofNat 0), .inr (.inr (.ref 39)), .inr (.inr (.ref 40)), .inr (.inr (.ref 41)), .inr (.inr (.ref 42)), .inr (.inr (.ref 43)), .inr (.inr (.ref 44))])
def hc_39 : AE := .inl (0, [.inl (.ofNat 0), .inl (.ofNat 0), .inl (.ofNat 0), .inl (.ofNat 0), .inl (.ofNat 0), .inl (.ofNat 0), .inl (.ofNat 0), .inl (.ofNat 0)])
def hc_40 : AE := .inl (0, [.inl (.ofNat 0), .inl (.ofNat 0), .inl (.ofNat 0), .inl (.ofNat 0), .inl (.ofNat 0), .inl (.ofNat 0), .inl (.ofNat 0), .inl (.ofNat 0)])
def hc_41 : AE := .inl (0, [.inl (.ofNat 0), .inl (.ofNat 0), .inl (.ofNat 0), .inl (.ofNat 0), .inl (.ofNat 0), .inl (.ofNat 0), .inl (.ofNat 0), .inl (.ofNat 0)])
def hc_42 : AE := .inl (0, [.inl (.ofNat 0), .inl (.ofNat 0), .inl (.ofNat 0), .inl (.ofNat 0), .inl (.ofNat 0), .inl (.ofNat 0), .inl (.ofNat 0), .inl (.ofNat 0)])
def hc_43 : AE := .inl (0, [.inl (.ofNat 0), .inl (.ofNat 0), .inl (.ofNat 0), .inl (.ofNat 0), .inl (.ofNat 0), .inl (.ofNat 0), .inl (.ofNat 0), .inl (.ofNat 0)])
def hc_44 : AE := .inl (0, [.inl (.ofNat 0), .inl (.ofNat 0), .inl (.ofNat 0), .inl (.ofNat 0), .inl (.ofNat 0), .inl (.ofNat 0), .inl (.ofNat 0), .inl (.ofNat 0)])
def hc_45 : AE := .inr (1, [.inl (.ofNat 0), .inl (.ofNat 0), .inl (.ofNat 0), .inl (.ofNat 1), .inl (.ofNat 0), .inl (.ofNat 0), .inl (.ofNat 0), .inl (.ofNat 0), .inr (.inr (.ref 46)), .inr (.inr (.ref 47)), .inr (.inr (.ref 48)), .inr (.inr (.ref 49)), .inr (.inr (.ref 50)), .inr (.inr (.ref 51))])
def hc_46 : AE := .inl (0, [.inl (.ofNat 0), .inl (.ofNat 0), .inl (.ofNat 0), .inl (.ofNat 0), .inl (.ofNat 0), .inl (.ofNat 0), .inl (.ofNat 0), .inl (.ofNat 0)])
def hc_47 : AE := .inl (0, [.inl (.ofNat 0), .inl (.ofNat 0), .inl (.ofNat 0), .inl (.ofNat 0), .inl (.ofNat 0), .inl (.ofNat 0), .inl (.ofNat 0), .inl (.ofNat 0)])
def hc_48 : AE := .inl (0, [.inl (.ofNat 0), .inl (.ofNat 0), .inl (.ofNat 0), .inl (.ofNat 0), .inl (.ofNat 0), .inl (.ofNat 0), .inl (.ofNat 0), .inl (.ofNat 0)])
def hc_49 : AE := .inl (0, [.inl (.ofNat 0), .inl (.ofNat 0), .inl (.ofNat 0), .inl (.ofNat 0), .inl (.ofNat 0), .inl (.ofNat 0), .inl (.ofNat 0), .inl (.ofNat 0)])
def hc_50 : AE := .inl (0, [.inl (.ofNat 0), .inl (.ofNat 0), .inl (.ofNat 0), .inl (.ofNat 0), .inl (.ofNat 0), .inl (.ofNat 0), .inl (.ofNat 0), .inl (.ofNat 0)])
def hc_51 : AE := .inl (0, [.inl (.ofNat 0), .inl (.ofNat 0), .inl (.ofNat 0), .inl (.ofNat 0), .inl (.ofNat 0), .inl (.ofNat 0), .inl (.ofNat 0), .inl (.ofNat 0)])
def hc_52 : AE := .inr (1, [.inl (.ofNat 0), .inl (.ofNat 0), .inl (.ofNat 0), .inl (.ofNat 1), .inl (.ofNat 0), .inl (.ofNat 0), .inl (.ofNat 0), .inl (.ofNat 0), .inr (.inr (.ref 53)), .inr (.inr (.ref 54)), .inr (.inr (.ref 55)), .inr (.inr (.ref 56)), .inr (.inr (.ref 57)), .inr (.inr (.ref 58))])
def hc_53 : AE := .inl (0, [.inl (.ofNat 0), .inl (.ofNat 0), .inl (.ofNat 0), .inl (.ofNat 0), .inl (.ofNat 0), .inl (.ofNat 0), .inl (.ofNat 0), .inl (.ofNat 0)])
def hc_54 : AE := .inl (0, [.inl (.ofNat 0), .inl (.ofNat 0), .inl (.ofNat 0), .inl (.ofNat 0), .inl (.ofNat 0), .inl (.ofNat 0), .inl (.ofNat 0), .inl (.ofNat 0)])
def hc_55 : AE := .inl (0, [.inl (.ofNat 0), .inl (.ofNat 0), .inl (.ofNat 0), .inl (.ofNat 0), .inl (.ofNat 0), .inl (.ofNat 0), .inl (.ofNat 0), .inl (.ofNat 0)])
def hc_56 : AE := .inl (0, [.inl (.ofNat 0), .inl (.ofNat 0), .inl (.ofNat 0), .inl (.ofNat 0), .inl (.ofNat 0), .inl (.ofNat 0), .inl (.ofNat 0), .inl (.ofNat 0)])
def hc_57 : AE := .inl (0, [.inl (.ofNat 0), .inl (.ofNat 0), .inl (.ofNat 0), .inl (.ofNat 0), .inl (.ofNat 0), .inl (.ofNat 0), .inl (.ofNat 0), .inl (.ofNat 0)])
def hc_58 : AE := .inl (0, [.inl (.ofNat 0), .inl (.ofNat 0), .inl (.ofNat 0), .inl (.ofNat 0), .inl (.ofNat 0), .inl (.ofNat 0), .inl (.ofNat 0), .inl (.ofNat 0)])
def hc_59 : AE := .inr (1, [.inl (.ofNat 0), .inl (.ofNat 0), .inl (.ofNat 0), .inl (.ofNat 1), .inl (.ofNat 0), .inl (.ofNat 0), .inl (.ofNat 0), .inl (.ofNat 0), .inr (.inr (.ref 60)), .inr (.inr (.ref 61)), .inr (.inr (.ref 62)), .inr (.inr (.ref 63)), .inr (.inr (.ref 64)), .inr (.inr (.ref 65))])
def hc_60 : AE := .inl (0, [.inl (.ofNat 0), .inl (.ofNat 0), .inl (.ofNat 0), .inl (.ofNat 0), .inl (.ofNat 0), .inl (.ofNat 0), .inl (.ofNat 0), .inl (.ofNat 0)])
def hc_61 : AE := .inl (0, [.inl (.ofNat 0), .inl (.ofNat 0), .inl (.ofNat 0), .inl (.ofNat 0), .inl (.ofNat 0), .inl (.ofNat 0), .inl (.ofNat 0), .inl (.ofNat 0)])
def hc_62 : AE := .inl (0, [.inl (.ofNat 0), .inl (.ofNat 0), .inl (.ofNat 0), .inl (.ofNat 0), .inl (.ofNat 0), .inl (.ofNat 0), .inl (.ofNat 0), .inl (.ofNat 0)])
def hc_63 : AE := .inl (0, [.inl (.ofNat 0), .inl (.ofNat 0), .inl (.ofNat 0), .inl (.ofNat 0), .inl (.ofNat 0), .inl (.ofNat 0), .inl (.ofNat 0), .inl (.ofNat 0)])
def hc_64 : AE := .inl (0, [.inl (.ofNat 0), .inl (.ofNat 0), .inl (.ofNat 0), .inl (.ofNat 0), .inl (.ofNat 0), .inl (.ofNat 0), .inl (.ofNat 0), .inl (.ofNat 0)])
def hc_65 : AE := .inl (0, [.inl (.ofNat 0), .inl (.ofNat 0), .inl (.ofNat 0), .inl (.ofNat 0), .inl (.ofNat 0), .inl (.ofNat 0), .inl (.ofNat 0), .inl (.ofNat 0)])
def hc_66 : AE := .inr (1, [.inl (.ofNat 0), .inl (.ofNat 0), .inl (.ofNat 0), .inl (.ofNat 1), .inl (.ofNat 0), .inl (.ofNat 0), .inl (.ofNat 0), .inl (.ofNat 0), .inr (.inr (.ref 67)), .inr (.inr (.ref 68)), .inr (.inr (.ref 69)), .inr (.inr (.ref 70)), .inr (.inr (.ref 71)), .inr (.inr (.ref 72))])
def hc_67 : AE := .inl (0, [.inl (.ofNat 0), .inl (.ofNat 0), .inl (.ofNat 0), .inl (.ofNat 0), .inl (.ofNat 0), .inl (.ofNat 0), .inl (.ofNat 0), .inl (.ofNat 0)])
def hc_68 : AE := .inl (0, [.inl (.ofNat 0), .inl (.ofNat 0), .inl (.ofNat 0), .inl (.ofNat 0), .inl (.ofNat 0), .inl (.ofNat 0), .inl (.ofNat 0), .inl (.ofNat 0)])
def hc_69 : AE := .inl (0, [.inl (.ofNat 0), .inl (.ofNat 0), .inl (.ofNat 0), .inl (.ofNat 0), .inl (.ofNat 0), .inl (.ofNat 0), .inl (.ofNat 0), .inl (.ofNat 0)])
def hc_70 : AE := .inl (0, [.inl (.ofNat 0), .inl (.ofNat 0), .inl (.ofNat 0), .inl (.ofNat 0), .inl (.ofNat 0), .inl (.ofNat 0), .inl (.ofNat 0), .inl (.ofNat 0)])
def hc_71 : AE := .inl (0, [.inl (.ofNat 0), .inl (.ofNat 0), .inl (.ofNat 0), .inl (.ofNat 0), .inl (.ofNat 0), .inl (.ofNat 0), .inl (.ofNat 0), .inl (.ofNat 0)])
def hc_72 : AE := .inl (0, [.inl (.ofNat 0), .inl (.ofNat 0), .inl (.ofNat 0), .inl (.ofNat 0), .inl (.ofNat 0), .inl (.ofNat 0), .inl (.ofNat 0), .inl (.ofNat 0)])
def hc_73 : AE := .inr (1, [.inl (.ofNat 0), .inl (.ofNat 0), .inl (.ofNat 0), .inl (.ofNat 1), .inl (.ofNat 0), .inl (.ofNat 0), .inl (.ofNat 0), .inl (.ofNat 0), .inr (.inr (.ref 74)), .inr (.inr (.ref 75)), .inr (.inr (.ref 76)), .inr (.inr (.ref 77)), .inr (.inr (.ref 78)), .inr (.inr (.ref 79))])
def hc_74 : AE := .inl (0, [.inl (.ofNat 0), .inl (.ofNat 0), .inl (.ofNat 0), .inl (.ofNat 0), .inl (.ofNat 0), .inl (.ofNat 0), .inl (.ofNat 0), .inl (.ofNat 0)])
def hc_75 : AE := .inl (0, [.inl (.ofNat 0), .inl (.ofNat 0), .inl (.ofNat 0), .inl (.ofNat 0), .inl (.ofNat 0), .inl (.ofNat 0), .inl (.ofNat 0), .inl (.ofNat 0)])
def hc_76 : AE := .inl (0, [.inl (.ofNat 0), .inl (.ofNat 0), .inl (.ofNat 0), .inl (.ofNat 0), .inl (.ofNat 0), .inl (.ofNat 0), .inl (.ofNat 0), .inl (.ofNat 0)])
def hc_77 : AE := .inl (0, [.inl (.ofNat 0), .inl (.ofNat 0), .inl (.ofNat 0), .inl (.ofNat 0), .inl (.ofNat 0), .inl (.ofNat 0), .inl (.ofNat 0), .inl (.ofNat 0)])
def hc_78 : AE := .inl (0, [.inl (.ofNat 0), .inl (.ofNat 0), .inl (.ofNat 0), .inl (.ofNat 0), .inl (.ofNat 0), .inl (.ofNat 0), .inl (.ofNat 0), .inl (.ofNat 0)])
def hc_79 : AE := .inl (0, [.inl (.ofNat 0), .inl (.ofNat 0), .inl (.ofNat 0), .inl (.ofNat 0), .inl (.ofNat 0), .inl (.ofNat 0), .inl (.ofNat 0), .inl (.ofNat 0)])
def hc_80 : AE := .inr (1, [.inl (.ofNat 0), .inl (.ofNat 0), .inl (.ofNat 0), .inl (.ofNat 1), .inl (.ofNat 0), .inl (.ofNat 0), .inl (.ofNat 0), .inl (.ofNat 0), .inr (.inr (.ref 81)), .inr (.inr (.ref 82)), .inr (.inr (.ref 83)), .inr (.inr (.ref 84)), .inr (.inr (.ref 85)), .inr (.inr (.ref 86))])
def hc_81 : AE := .inl (0, [.inl (.ofNat 0), .inl (.ofNat 0), .inl (.ofNat 0), .inl (.ofNat 0), .inl (.ofNat 0), .inl (.ofNat 0), .inl (.ofNat 0), .inl (.ofNat 0)])
def hc_82 : AE := .inl (0, [.inl (.ofNat 0), .inl (.ofNat 0), .inl (.ofNat 0), .inl (.ofNat 0), .inl (.ofNat 0), .inl (.ofNat 0), .inl (.ofNat 0), .inl (.ofNat 0)])
def hc_83 : AE := .inl (0, [.inl (.ofNat 0), .inl (.ofNat 0), .inl (.ofNat 0), .inl (.ofNat 0), .inl (.ofNat 0), .inl (.ofNat 0), .inl (.ofNat 0), .inl (.ofNat 0)])
def hc_84 : AE := .inl (0, [.inl (.ofNat 0), .inl (.ofNat 0), .inl (.ofNat 0), .inl (.ofNat 0), .inl (.ofNat 0), .inl (.ofNat 0), .inl (.ofNat 0), .inl (.ofNat 0)])
def hc_85 : AE := .inl (0, [.inl (.ofNat 0), .inl (.ofNat 0), .inl (.ofNat 0), .inl (.ofNat 0), .inl (.ofNat 0), .inl (.ofNat 0), .inl (.ofNat 0), .inl (.ofNat 0)])
def hc_86 : AE := .inl (0, [.inl (.ofNat 0), .inl (.ofNat 0), .inl (.ofNat 0), .inl (.ofNat 0), .inl (.ofNat 0), .inl (.ofNat 0), .inl (.ofNat 0), .inl (.ofNat 0)])
def hc_87 : AE := .inr (1, [.inl (.ofNat 0), .inl (.ofNat 0), .inl (.ofNat 0), .inl (.ofNat 1), .inl (.ofNat 0), .inl (.ofNat 0), .inl (.ofNat 0), .inl (.ofNat 0), .inr (.inr (.ref 88)), .inr (.inr (.ref 89)), .inr (.inr (.ref 90)), .inr (.inr (.ref 91)), .inr (.inr (.ref 92)), .inr (.inr (.ref 93))])
def hc_88 : AE := .inl (0, [.inl (.ofNat 0), .inl (.ofNat 0), .inl (.ofNat 0), .inl (.ofNat 0), .inl (.ofNat 0), .inl (.ofNat 0), .inl (.ofNat 0), .inl (.ofNat 0)])
def hc_89 : AE := .inl (0, [.inl (.ofNat 0), .inl (.ofNat 0), .inl (.ofNat 0), .inl (.ofNat 0), .inl (.ofNat 0), .inl (.ofNat 0), .inl (.ofNat 0), .inl (.ofNat 0)])
def hc_90 : AE := .inl (0, [.inl (.ofNat 0), .inl (.ofNat 0), .inl (.ofNat 0), .inl (.ofNat 0), .inl (.ofNat 0), .inl (.ofNat 0), .inl (.ofNat 0), .inl (.ofNat 0)])
def hc_91 : AE := .inl (0, [.inl (.ofNat 0), .inl (.ofNat 0), .inl (.ofNat 0), .inl (.ofNat 0), .inl (.ofNat 0), .inl (.ofNat 0), .inl (.ofNat 0), .inl (.ofNat 0)])
def hc_92 : AE := .inl (0, [.inl (.ofNat 0), .inl (.ofNat 0), .inl (.ofNat 0), .inl (.ofNat 0), .inl (.ofNat 0), .inl (.ofNat 0), .inl (.ofNat 0), .inl (.ofNat 0)])
def hc_93 : AE := .inl (0, [.inl (.ofNat 0), .inl (.ofNat 0), .inl (.ofNat 0), .inl (.ofNat 0), .inl (.ofNat 0), .inl (.ofNat 0), .inl (.ofNat 0), .inl (.ofNat 0)])
def hc_94 : AE := .inr (1, [.inl (.ofNat 0), .inl (.ofNat 0), .inl (.ofNat 0), .inl (.ofNat 1), .inl (.ofNat 0), .inl (.ofNat 0), .inl (.ofNat 0), .inl (.ofNat 0), .inr (.inr (.ref 95)), .inr (.inr (.ref 96)), .inr (.inr (.ref 97)), .inr (.inr (.ref 98)), .inr (.inr (.ref 99)), .inr (.inr (.ref 100))])
def hc_95 : AE := .inl (0, [.inl (.ofNat 0), .inl (.ofNat 0), .inl (.ofNat 0), .inl (.ofNat 0), .inl (.ofNat 0), .inl (.ofNat 0), .inl (.ofNat 0), .inl (.ofNat 0)])
def hc_96 : AE := .inl (0, [.inl (.ofNat 0), .inl (.ofNat 0), .inl (.ofNat 0), .inl (.ofNat 0), .inl (.ofNat 0), .inl (.ofNat 0), .inl (.ofNat 0), .inl (.ofNat 0)])
def hc_97 : AE := .inl (0, [.inl (.ofNat 0), .inl (.ofNat 0), .inl (.ofNat 0), .inl (.ofNat 0), .inl (.ofNat 0), .inl (.ofNat 0), .inl (.ofNat 0), .inl (.ofNat 0)])
def hc_98 : AE := .inl (0, [.inl (.ofNat 0), .inl (.ofNat 0), .inl (.ofNat 0), .inl (.ofNat 0), .inl (.ofNat 0), .inl (.ofNat 0), .inl (.ofNat 0), .inl (.ofNat 0)])
def hc_99 : AE := .inl (0, [.inl (.ofNat 0), .inl (.ofNat 0), .inl (.ofNat 0), .inl (.ofNat 0), .inl (.ofNat 0), .inl (.ofNat 0), .inl (.ofNat 0), .inl (.ofNat 0)])
def hc_100 : AE := .inl (0, [.inl (.ofNat 0), .inl (.ofNat 0), .inl (.ofNat 0), .inl (.ofNat 0), .inl (.ofNat 0), .inl (.ofNat 0), .inl (.ofNat 0), .inl (.ofNat 0)])
def hc_101 : AE := .inr (1, [.inl (.ofNat 0), .inl (.ofNat 0), .inl (.ofNat 0), .inl (.ofNat 1), .inl (.ofNat 0), .inl (.ofNat 0), .inl (.ofNat 0), .inl (.ofNat 0), .inr (.inr (.ref 102)), .inr (.inr (.ref 103)), .inr (.inr (.ref 104)), .inr (.inr (.ref 105)), .inr (.inr (.ref 106)), .inr (.inr (.ref 107))])
def hc_102 : AE := .inl (0, [.inl (.ofNat 0), .inl (.ofNat 0), .inl (.ofNat 0), .inl (.ofNat 0), .inl (.ofNat 0), .inl (.ofNat 0), .inl (.ofNat 0), .inl (.ofNat 0)])
def hc_103 : AE := .inl (0, [.inl (.ofNat 0), .inl (.ofNat 0), .inl (.ofNat 0), .inl (.ofNat 0), .inl (.ofNat 0), .inl (.ofNat 0), .inl (.ofNat 0), .inl (.ofNat 0)])
def hc_104 : AE := .inl (0, [.inl (.ofNat 0), .inl (.ofNat 0), .inl (.ofNat 0), .inl (.ofNat 0), .inl (.ofNat 0), .inl (.ofNat 0), .inl (.ofNat 0), .inl (.ofNat 0)])
def hc_105 : AE := .inl (0, [.inl (.ofNat 0), .inl (.ofNat 0), .inl (.ofNat 0), .inl (.ofNat 0), .inl (.ofNat 0), .inl (.ofNat 0), .inl (.ofNat 0), .inl (.ofNat 0)])
def hc_106 : AE := .inl (0, [.inl (.ofNat 0), .inl (.ofNat 0), .inl (.ofNat 0), .inl (.ofNat 0), .inl (.ofNat 0), .inl (.ofNat 0), .inl (.ofNat 0), .inl (.ofNat 0)])
def hc_107 : AE := .inl (0, [.inl (.ofNat 0), .inl (.ofNat 0), .inl (.ofNat 0), .inl (.ofNat 0), .inl (.ofNat 0), .inl (.ofNat 0), .inl (.ofNat 0), .inl (.ofNat 0)])
def hc_108 : AE := .inr (1, [.inl (.ofNat 0), .inl (.ofNat 0), .inl (.ofNat 0), .inl (.ofNat 1), .inl (.ofNat 0), .inl (.ofNat 0), .inl (.ofNat 0), .inl (.ofNat 0), .inr (.inr (.ref 109)), .inr (.inr (.ref 110)), .inr (.inr (.ref 111)), .inr (.inr (.ref 112)), .inr (.inr (.ref 113)), .inr (.inr (.ref 114))])
def hc_109 : AE := .inl (0, [.inl (.ofNat 0), .inl (.ofNat 0), .inl (.ofNat 0), .inl (.ofNat 0), .inl (.ofNat 0), .inl (.ofNat 0), .inl (.ofNat 0), .inl (.ofNat 0)])
def hc_110 : AE := .inl (0, [.inl (.ofNat 0), .inl (.ofNat 0), .inl (.ofNat 0), .inl (.ofNat 0), .inl (.ofNat 0), .inl (.ofNat 0), .inl (.ofNat 0), .inl (.ofNat 0)])
def hc_111 : AE := .inl (0, [.inl (.ofNat 0), .inl (.ofNat 0), .inl (.ofNat 0), .inl (.ofNat 0), .inl (.ofNat 0), .inl (.ofNat 0), .inl (.ofNat 0), .inl (.ofNat 0)])
def hc_112 : AE := .inl (0, [.inl (.ofNat 0), .inl (.ofNat 0), .inl (.ofNat 0), .inl (.ofNat 0), .inl (.ofNat 0), .inl (.ofNat 0), .inl (.ofNat 0), .inl (.ofNat 0)])
def hc_113 : AE := .inl (0, [.inl (.ofNat 0), .inl (.ofNat 0), .inl (.ofNat 0), .inl (.ofNat 0), .inl (.ofNat 0), .inl (.ofNat 0), .inl (.ofNat 0), .inl (.ofNat 0)])
def hc_114 : AE := .inl (0, [.inl (.ofNat 0), .inl (.ofNat 0), .inl (.ofNat 0), .inl (.ofNat 0), .inl (.ofNat 0), .inl (.ofNat 0), .inl (.ofNat 0), .inl (.ofNat 0)])
def hc_115 : AE := .inr (1, [.inl (.ofNat 0), .inl (.ofNat 0), .inl (.ofNat 0), .inl (.ofNat 1), .inl (.ofNat 0), .inl (.ofNat 0), .inl (.ofNat 0), .inl (.ofNat 0), .inr (.inr (.ref 116)), .inr (.inr (.ref 117)), .inr (.inr (.ref 118)), .inr (.inr (.ref 119)), .inr (.inr (.ref 120)), .inr (.inr (.ref 121))])
def hc_116 : AE := .inl (0, [.inl (.ofNat 0), .inl (.ofNat 0), .inl (.ofNat 0), .inl (.ofNat 0), .inl (.ofNat 0), .inl (.ofNat 0), .inl (.ofNat 0), .inl (.ofNat 0)])
def hc_117 : AE := .inl (0, [.inl (.ofNat 0), .inl (.ofNat 0), .inl (.ofNat 0), .inl (.ofNat 0), .inl (.ofNat 0), .inl (.ofNat 0), .inl (.ofNat 0), .inl (.ofNat 0)])
def hc_118 : AE := .inl (0, [.inl (.ofNat 0), .inl (.ofNat 0), .inl (.ofNat 0), .inl (.ofNat 0), .inl (.ofNat 0), .inl (.ofNat 0), .inl (.ofNat 0), .inl (.ofNat 0)])
def hc_119 : AE := .inl (0, [.inl (.ofNat 0), .inl (.ofNat 0), .inl (.ofNat 0), .inl (.ofNat 0), .inl (.ofNat 0), .inl (.ofNat 0), .inl (.ofNat 0), .inl (.ofNat 0)])
def hc_120 : AE := .inl (0, [.inl (.ofNat 0), .inl (.ofNat 0), .inl (.ofNat 0), .inl (.ofNat 0), .inl (.ofNat 0), .inl (.ofNat 0), .inl (.ofNat 0), .inl (.ofNat 0)])
def hc_121 : AE := .inl (0, [.inl (.ofNat 0), .inl (.ofNat 0), .inl (.ofNat 0), .inl (.ofNat 0), .inl (.ofNat 0), .inl (.ofNat 0), .inl (.ofNat 0), .inl (.ofNat 0)])
def hc_122 : AE := .inr (1, [.inl (.ofNat 0), .inl (.ofNat 0), .inl (.ofNat 0), .inl (.ofNat 1), .inl (.ofNat 0), .inl (.ofNat 0), .inl (.ofNat 0), .inl (.ofNat 0), .inr (.inr (.ref 123)), .inr (.inr (.ref 124)), .inr (.inr (.ref 125)), .inr (.inr (.ref 126)), .inr (.inr (.ref 127)), .inr (.inr (.ref 128))])
def hc_123 : AE := .inl (0, [.inl (.ofNat 0), .inl (.ofNat 0), .inl (.ofNat 0), .inl (.ofNat 0), .inl (.ofNat 0), .inl (.ofNat 0), .inl (.ofNat 0), .inl (.ofNat 0)])
def hc_124 : AE := .inl (0, [.inl (.ofNat 0), .inl (.ofNat 0), .inl (.ofNat 0), .inl (.ofNat 0), .inl (.ofNat 0), .inl (.ofNat 0), .inl (.ofNat 0), .inl (.ofNat 0)])
def hc_125 : AE := .inl (0, [.inl (.ofNat 0), .inl (.ofNat 0), .inl (.ofNat 0), .inl (.ofNat 0), .inl (.ofNat 0), .inl (.ofNat 0), .inl (.ofNat 0), .inl (.ofNat 0)])
def hc_126 : AE := .inl (0, [.inl (.ofNat 0), .inl (.ofNat 0), .inl (.ofNat 0), .inl (.ofNat 0), .inl (.ofNat 0), .inl (.ofNat 0), .inl (.ofNat 0), .inl (.ofNat 0)])
def hc_127 : AE := .inl (0, [.inl (.ofNat 0), .inl (.ofNat 0), .inl (.ofNat 0), .inl (.ofNat 0), .inl (.ofNat 0), .inl (.ofNat 0), .inl (.ofNat 0), .inl (.ofNat 0)])
def hc_128 : AE := .inl (0, [.inl (.ofNat 0), .inl (.ofNat 0), .inl (.ofNat 0), .inl (.ofNat 0), .inl (.ofNat 0), .inl (.ofNat 0), .inl (.ofNat 0), .inl (.ofNat 0)])
def hc_129 : AE := .inr (2, [.inl (.ofNat 0), .inl (.ofNat 0), .inl (.ofNat 0), .inl (.ofNat 0), .inr (.inr (.ref 130)), .inr (.inr (.ref 131)), .inr (.inr (.ref 132)), .inr (.inr (.ref 133))])
def hc_130 : AE := .inl (0, [.inl (.ofNat 0), .inl (.ofNat 0), .inl (.ofNat 0), .inl (.ofNat 0), .inl (.ofNat 0), .inl (.ofNat 0), .inl (.ofNat 0), .inl (.ofNat 0)])
def hc_131 : AE := .inl (0, [.inl (.ofNat 0), .inl (.ofNat 0), .inl (.ofNat 0), .inl (.ofNat 0), .inl (.ofNat 0), .inl (.ofNat 0), .inl (.ofNat 0), .inl (.ofNat 0)])
def hc_132 : AE := .inl (0, [.inl (.ofNat 0), .inl (.ofNat 0), .inl (.ofNat 0), .inl (.ofNat 0), .inl (.ofNat 0), .inl (.ofNat 0), .inl (.ofNat 0), .inl (.ofNat 0), .inl (.ofNat 0), .inl (.ofNat 0), .inl (.ofNat 0), .inl (.ofNat 0)])
def hc_133 : AE := .inl (0, [.inl (.ofNat 0), .inl (.ofNat 0), .inl (.ofNat 0), .inl (.ofNat 0), .inl (.ofNat 0), .inl (.ofNat 0), .inl (.ofNat 0), .inl (.ofNat 0)])
def hc_134 : AE := .inr (4, [.inr (.inr (.ref 135)), .inr (.inr (.ref 138))])
def hc_135 : AE := .inl (3, [.inr (.inr (.ref 136)), .inr (.inr (.ref 137))])
def hc_136 : AE := .inl (0, [.inl (.ofNat 0), .inl (.ofNat 0), .inl (.ofNat 0), .inl (.ofNat 0), .inl (.ofNat 0), .inl (.ofNat 0), .inl (.ofNat 0), .inl (.ofNat 0), .inl (.ofNat 0), .inl (.ofNat 0), .inl (.ofNat 0), .inl (.ofNat 0), .inl (.ofNat 0), .inl (.ofNat 0), .inl (.ofNat 0), .inl (.ofNat 0), .inl (.ofNat 0), .inl (.ofNat 0), .inl (.ofNat 0), .inl (.ofNat 0), .inl (.ofNat 0), .inl (.ofNat 0), .inl (.ofNat 0), .inl (.ofNat 0), .inl (.ofNat 0), .inl (.ofNat 0), .inl (.ofNat 0), .inl (.ofNat 0), .inl (.ofNat 0), .inl (.ofNat 0), .inl (.ofNat 0), .inl (.ofNat 0), .inl (.ofNat 0), .inl (.ofNat 0), .inl (.ofNat 0), .inl (.ofNat 0), .inl (.ofNat 0), .inl (.ofNat 0), .inl (.ofNat 0), .inl (.ofNat 0), .inl (.ofNat 0), .inl (.ofNat 0), .inl (.ofNat 0), .inl (.ofNat 0), .inl (.ofNat 0), .inl (.ofNat 0), .inl (.ofNat 0), .inl (.ofNat 0), .inl (.ofNat 0), .inl (.ofNat 0), .inl (.ofNat 0), .inl (.ofNat 0), .inl (.ofNat 0), .inl (.ofNat 0), .inl (.ofNat 0), .inl (.ofNat 0), .inl (.ofNat 0), .inl (.ofNat 0), .inl (.ofNat 0), .inl (.ofNat 0), .inl (.ofNat 0), .inl (.ofNat 0), .inl (.ofNat 0), .inl (.ofNat 0)])
def hc_137 : AE := .inl (0, [.inl (.ofNat 0), .inl (.ofNat 0), .inl (.ofNat 0), .inl (.ofNat 0), .inl (.ofNat 0), .inl (.ofNat 0), .inl (.ofNat 0), .inl (.ofNat 0), .inl (.ofNat 0), .inl (.ofNat 0), .inl (.ofNat 0), .inl (.ofNat 0), .inl (.ofNat 0), .inl (.ofNat 0), .inl (.ofNat 0), .inl (.ofNat 0), .inl (.ofNat 0), .inl (.ofNat 0), .inl (.ofNat 0), .inl (.ofNat 0), .inl (.ofNat 0), .inl (.ofNat 0), .inl (.ofNat 0), .inl (.ofNat 0), .inl (.ofNat 0), .inl (.ofNat 0), .inl (.ofNat 0), .inl (.ofNat 0), .inl (.ofNat 0), .inl (.ofNat 0), .inl (.ofNat 0), .inl (.ofNat 0), .inl (.ofNat 0), .inl (.ofNat 0), .inl (.ofNat 0), .inl (.ofNat 0), .inl (.ofNat 0), .inl (.ofNat 0), .inl (.ofNat 0), .inl (.ofNat 0), .inl (.ofNat 0), .inl (.ofNat 0), .inl (.ofNat 0), .inl (.ofNat 0), .inl (.ofNat 0), .inl (.ofNat 0), .inl (.ofNat 0), .inl (.ofNat 0), .inl (.ofNat 0), .inl (.ofNat 0), .inl (.ofNat 0), .inl (.ofNat 0), .inl (.ofNat 0), .inl (.ofNat 0), .inl (.ofNat 0), .inl (.ofNat 0), .inl (.ofNat 0), .inl (.ofNat 0), .inl (.ofNat 0), .inl (.ofNat 0), .inl (.ofNat 0), .inl (.ofNat 0), .inl (.ofNat 0), .inl (.ofNat 0)])
def hc_138 : AE := .inl (0, [.inl (.ofNat 0), .inl (.ofNat 0), .inl (.ofNat 0), .inl (.ofNat 0), .inl (.ofNat 0), .inl (.ofNat 0), .inl (.ofNat 0), .inl (.ofNat 0), .inl (.ofNat 0), .inl (.ofNat 0), .inl (.ofNat 0), .inl (.ofNat 0), .inl (.ofNat 0), .inl (.ofNat 0), .inl (.ofNat 0), .inl (.ofNat 0), .inl (.ofNat 0), .inl (.ofNat 0), .inl (.ofNat 0), .inl (.ofNat 0), .inl (.ofNat 0), .inl (.ofNat 0), .inl (.ofNat 0), .inl (.ofNat 0), .inl (.ofNat 0), .inl (.ofNat 0), .inl (.ofNat 0), .inl (.ofNat 0), .inl (.ofNat 0), .inl (.ofNat 0), .inl (.ofNat 0), .inl (.ofNat 0), .inl (.ofNat 0), .inl (.ofNat 0), .inl (.ofNat 0), .inl (.ofNat 0), .inl (.ofNat 0), .inl (.ofNat 0), .inl (.ofNat 0), .inl (.ofNat 0), .inl (.ofNat 0), .inl (.ofNat 0), .inl (.ofNat 0), .inl (.ofNat 0), .inl (.ofNat 0), .inl (.ofNat 0), .inl (.ofNat 0), .inl (.ofNat 0), .inl (.ofNat 0), .inl (.ofNat 0), .inl (.ofNat 0), .inl (.ofNat 0), .inl (.ofNat 0), .inl (.ofNat 0), .inl (.ofNat 0), .inl (.ofNat 0), .inl (.ofNat 0), .inl (.ofNat 0), .inl (.ofNat 0), .inl (.ofNat 0), .inl (.ofNat 0), .inl (.ofNat 0), .inl (.ofNat 0), .inl (.ofNat 0), .inl (.ofNat 0), .inl (.ofNat 0), .inl (.ofNat 0), .inl (.ofNat 0), .inl (.ofNat 0), .inl (.ofNat 0), .inl (.ofNat 0), .inl (.ofNat 0), .inl (.ofNat 0), .inl (.ofNat 0), .inl (.ofNat 0), .inl (.ofNat 0), .inl (.ofNat 0), .inl (.ofNat 0), .inl (.ofNat 0), .inl (.ofNat 0), .inl (.ofNat 0), .inl (.ofNat 0), .inl (.ofNat 0), .inl (.ofNat 0), .inl (.ofNat 0), .inl (.ofNat 0), .inl (.ofNat 0), .inl (.ofNat 0), .inl (.ofNat 0), .inl (.ofNat 0), .inl (.ofNat 0), .inl (.ofNat 0), .inl (.ofNat 0), .inl (.ofNat 0), .inl (.ofNat 0), .inl (.ofNat 0), .inl (.ofNat 0), .inl (.ofNat 0), .inl (.ofNat 0), .inl (.ofNat 0), .inl (.ofNat 0), .inl (.ofNat 0), .inl (.ofNat 0), .inl (.ofNat 0), .inl (.ofNat 0), .inl (.ofNat 0), .inl (.ofNat 0), .inl (.ofNat 0), .inl (.ofNat 0), .inl (.ofNat 0), .inl (.ofNat 0), .inl (.ofNat 0), .inl (.ofNat 0), .inl (.ofNat 0), .inl (.ofNat 0), .inl (.ofNat 0), .inl (.ofNat 0), .inl (.ofNat 0), .inl (.ofNat 0), .inl (.ofNat 0), .inl (.ofNat 0), .inl (.ofNat 0), .inl (.ofNat 0), .inl (.ofNat 0), .inl (.ofNat 0), .inl (.ofNat 0), .inl (.ofNat 0), .inl (.ofNat 0), .inl (.ofNat 0), .inl (.ofNat 0), .inl (.ofNat 0), .inl (.ofNat 0), .inl (.ofNat 0), .inl (.ofNat 0), .inl (.ofNat 0), .inl (.ofNat 0), .inl (.ofNat 0), .inl (.ofNat 0), .inl (.ofNat 0), .inl (.ofNat 0), .inl (.ofNat 0), .inl (.ofNat 0), .inl (.ofNat 0), .inl (.ofNat 0), .inl (.ofNat 0), .inl (.ofNat 0), .inl (.ofNat 0), .inl (.ofNat 0), .inl (.ofNat 0), .inl (.ofNat 0), .inl (.ofNat 0), .inl (.ofNat 0), .inl (.ofNat 0), .inl (.ofNat 0), .inl (.ofNat 0), .inl (.ofNat 0), .inl (.ofNat 0), .inl (.ofNat 0), .inl (.ofNat 0), .inl (.ofNat 0), .inl (.ofNat 0), .inl (.ofNat 0), .inl (.ofNat 0), .inl (.ofNat 0), .inl (.ofNat 0), .inl (.ofNat 0), .inl (.ofNat 0), .inl (.ofNat 0), .inl (.ofNat 0), .inl (.ofNat 0), .inl (.ofNat 0), .inl (.ofNat 0), .inl (.ofNat 0), .inl (.ofNat 0), .inl (.ofNat 0), .inl (.ofNat 0), .inl (.ofNat 0), .inl (.ofNat 0), .inl (.ofNat 0), .inl (.ofNat 0), .inl (.ofNat 0), .inl (.ofNat 0), .inl (.ofNat 0), .inl (.ofNat 0), .inl (.ofNat 0), .inl (.ofNat 0), .inl (.ofNat 0), .inl (.ofNat 0), .inl (.ofNat 0), .inl (.ofNat 0), .inl (.ofNat 0), .inl (.ofNat 0), .inl (.ofNat 0), .inl (.ofNat 0), .inl (.ofNat 0), .inl (.ofNat 0), .inl (.ofNat 0), .inl (.ofNat 0), .inl (.ofNat 0), .inl (.ofNat 0), .inl (.ofNat 0), .inl (.ofNat 0), .inl (.ofNat 0), .inl (.ofNat 0), .inl (.ofNat 0), .inl (.ofNat 0), .inl (.ofNat 0), .inl (.ofNat 0), .inl (.ofNat 0), .inl (.ofNat 0), .inl (.ofNat 0), .inl (.ofNat 0), .inl (.ofNat 0), .inl (.ofNat 0), .inl (.ofNat 0), .inl (.ofNat 0), .inl (.ofNat 0), .inl (.ofNat 0), .inl (.ofNat 0), .inl (.ofNat 0), .inl (.ofNat 0), .inl (.ofNat 0), .inl (.ofNat 0), .inl (.ofNat 0), .inl (.ofNat 0), .inl (.ofNat 0), .inl (.ofNat 0), .inl (.ofNat 0), .inl (.ofNat 0), .inl (.ofNat 0), .inl (.ofNat 0), .inl (.ofNat 0), .inl (.ofNat 0), .inl (.ofNat 0), .inl (.ofNat 0), .inl (.ofNat 0), .inl (.ofNat 0), .inl (.ofNat 0), .inl (.ofNat 0), .inl (.ofNat 0), .inl (.ofNat 0), .inl (.ofNat 0), .inl (.ofNat 0), .inl (.ofNat 0), .inl (.ofNat 0), .inl (.ofNat 0), .inl (.ofNat 0), .inl (.ofNat 0), .inl (.ofNat 0), .inl (.ofNat 0), .inl (.ofNat 0), .inl (.ofNat 0), .inl (.ofNat 0), .inl (.ofNat 0), .inl (.ofNat 0), .inl (.ofNat 0), .inl (.ofNat 0), .inl (.ofNat 0), .inl (.ofNat 0), .inl (.ofNat 0), .inl (.ofNat 0), .inl (.ofNat 0), .inl (.ofNat 0), .inl (.ofNat 0), .inl (.ofNat 0), .inl (.ofNat 0), .inl (.ofNat 0), .inl (.ofNat 0), .inl (.ofNat 0), .inl (.ofNat 0), .inl (.ofNat 0), .inl (.ofNat 0), .inl (.ofNat 0), .inl (.ofNat 0), .inl (.ofNat 0), .inl (.ofNat 0), .inl (.ofNat 0), .inl (.ofNat 0), .inl (.ofNat 0), .inl (.ofNat 0), .inl (.ofNat 0), .inl (.ofNat 0), .inl (.ofNat 0), .inl (.ofNat 0), .inl (.ofNat 0), .inl (.ofNat 0), .inl (.ofNat 0), .inl (.ofNat 0), .inl (.ofNat 0), .inl (.ofNat 0), .inl (.ofNat 0), .inl (.ofNat 0), .inl (.ofNat 0), .inl (.ofNat 0), .inl (.ofNat 0), .inl (.ofNat 0), .inl (.ofNat 0), .inl (.ofNat 0), .inl (.ofNat 0), .inl (.ofNat 0), .inl (.ofNat 0), .inl (.ofNat 0), .inl (.ofNat 0), .inl (.ofNat 0), .inl (.ofNat 0), .inl (.ofNat 0), .inl (.ofNat 0), .inl (.ofNat 0), .inl (.ofNat 0), .inl (.ofNat 0), .inl (.ofNat 0), .inl (.ofNat 0), .inl (.ofNat 0), .inl (.ofNat 0), .inl (.ofNat 0), .inl (.ofNat 0), .inl (.ofNat 0), .inl (.ofNat 0), .inl (.ofNat 0), .inl (.ofNat 0)])
def hc_139 : AE := .inr (8, [.inr (.inr (.ref 140))])
def hc_140 : AE := .inl (0, [.inl (.ofNat 0), .inl (.ofNat 0), .inl (.ofNat 0), .inl (.ofNat 0), .inl (.ofNat 0), .inl (.ofNat 0), .inl (.ofNat 0), .inl (.ofNat 0)])
def hc_141 : AE := .inr (3, [.inr (.inr (.ref 142)), .inl (.ofNat 0), .inl (.ofNat 0)])
def hc_142 : AE := .inl (0, [.inl (.ofNat 0), .inl (.ofNat 0), .inl (.ofNat 0), .inl (.ofNat 0), .inl (.ofNat 0), .inl (.ofNat 0), .inl (.ofNat 0), .inl (.ofNat 0), .inl (.ofNat 0), .inl (.ofNat 0), .inl (.ofNat 0), .inl (.ofNat 0), .inl (.ofNat 0), .inl (.ofNat 0), .inl (.ofNat 0), .inl (.ofNat 0), .inl (.ofNat 0), .inl (.ofNat 0), .inl (.ofNat 0), .inl (.ofNat 0), .inl (.ofNat 0), .inl (.ofNat 0), .inl (.ofNat 0), .inl (.ofNat 0), .inl (.ofNat 0), .inl (.ofNat 0), .inl (.ofNat 0), .inl (.ofNat 0), .inl (.ofNat 0), .inl (.ofNat 0), .inl (.ofNat 0), .inl (.ofNat 0), .inl (.ofNat 0), .inl (.ofNat 0), .inl (.ofNat 0), .inl (.ofNat 0), .inl (.ofNat 0), .inl (.ofNat 0), .inl (.ofNat 0), .inl (.ofNat 0), .inl (.ofNat 0), .inl (.ofNat 0), .inl (.ofNat 0), .inl (.ofNat 0), .inl (.ofNat 0), .inl (.ofNat 0), .inl (.ofNat 0), .inl (.ofNat 0), .inl (.ofNat 0), .inl (.ofNat 0), .inl (.ofNat 0), .inl (.ofNat 0), .inl (.ofNat 0), .inl (.ofNat 0), .inl (.ofNat 0), .inl (.ofNat 0), .inl (.ofNat 0), .inl (.ofNat 0), .inl (.ofNat 0), .inl (.ofNat 0), .inl (.ofNat 0), .inl (.ofNat 0), .inl (.ofNat 0), .inl (.ofNat 0), .inl (.ofNat 0), .inl (.ofNat 0), .inl (.ofNat 0), .inl (.ofNat 0), .inl (.ofNat 0), .inl (.ofNat 0), .inl (.ofNat 0), .inl (.ofNat 0), .inl (.ofNat 0), .inl (.ofNat 0), .inl (.ofNat 0), .inl (.ofNat 0), .inl (.ofNat 0), .inl (.ofNat 0), .inl (.ofNat 0), .inl (.ofNat 0), .inl (.ofNat 0), .inl (.ofNat 0), .inl (.ofNat 0), .inl (.ofNat 0), .inl (.ofNat 0), .inl (.ofNat 0), .inl (.ofNat 0), .inl (.ofNat 0), .inl (.ofNat 0), .inl (.ofNat 0), .inl (.ofNat 0), .inl (.ofNat 0), .inl (.ofNat 0), .inl (.ofNat 0), .inl (.ofNat 0), .inl (.ofNat 0), .inl (.ofNat 0), .inl (.ofNat 0), .inl (.ofNat 0), .inl (.ofNat 0), .inl (.ofNat 0), .inl (.ofNat 0), .inl (.ofNat 0), .inl (.ofNat 0), .inl (.ofNat 0), .inl (.ofNat 0), .inl (.ofNat 0), .inl (.ofNat 0), .inl (.ofNat 0), .inl (.ofNat 0), .inl (.ofNat 0), .inl (.ofNat 0), .inl (.ofNat 0), .inl (.ofNat 0), .inl (.ofNat 0), .inl (.ofNat 0), .inl (.ofNat 0), .inl (.ofNat 0), .inl (.ofNat 0), .inl (.ofNat 0), .inl (.ofNat 0), .inl (.ofNat 0), .inl (.ofNat 0), .inl (.ofNat 0), .inl (.ofNat 0), .inl (.ofNat 0), .inl (.ofNat 0), .inl (.ofNat 0), .inl (.ofNat 0), .inl (.ofNat 0), .inl (.ofNat 0), .inl (.ofNat 0), .inl (.ofNat 0), .inl (.ofNat 0), .inl (.ofNat 0), .inl (.ofNat 0), .inl (.ofNat 0), .inl (.ofNat 0), .inl (.ofNat 0), .inl (.ofNat 0), .inl (.ofNat 0), .inl (.ofNat 0), .inl (.ofNat 0), .inl (.ofNat 0), .inl (.ofNat 0), .inl (.ofNat 0), .inl (.ofNat 0), .inl (.ofNat 0), .inl (.ofNat 0), .inl (.ofNat 0), .inl (.ofNat 0), .inl (.ofNat 0), .inl (.ofNat 0), .inl (.ofNat 0), .inl (.ofNat 0), .inl (.ofNat 0), .inl (.ofNat 0), .inl (.ofNat 0), .inl (.ofNat 0), .inl (.ofNat 0), .inl (.ofNat 0), .inl (.ofNat 0), .inl (.ofNat 0), .inl (.ofNat 0), .inl (.ofNat 0), .inl (.ofNat 0), .inl (.ofNat 0), .inl (.ofNat 0), .inl (.ofNat 0), .inl (.ofNat 0), .inl (.ofNat 0), .inl (.ofNat 0), .inl (.ofNat 0), .inl (.ofNat 0), .inl (.ofNat 0), .inl (.ofNat 0), .inl (.ofNat 0), .inl (.ofNat 0), .inl (.ofNat 0), .inl (.ofNat 0), .inl (.ofNat 0), .inl (.ofNat 0), .inl (.ofNat 0), .inl (.ofNat 0), .inl (.ofNat 0), .inl (.ofNat 0), .inl (.ofNat 0), .inl (.ofNat 0), .inl (.ofNat 0), .inl (.ofNat 0), .inl (.ofNat 0), .inl (.ofNat 0), .inl (.ofNat 0), .inl (.ofNat 0), .inl (.ofNat 0), .inl (.ofNat 0), .inl (.ofNat 0), .inl (.ofNat 0), .inl (.ofNat 0), .inl (.ofNat 0), .inl (.ofNat 0), .inl (.ofNat 0), .inl (.ofNat 0), .inl (.ofNat 0), .inl (.ofNat 0), .inl (.ofNat 0), .inl (.ofNat 0), .inl (.ofNat 0), .inl (.ofNat 0), .inl (.ofNat 0), .inl (.ofNat 0), .inl (.ofNat 0), .inl (.ofNat 0), .inl (.ofNat 0), .inl (.ofNat 0), .inl (.ofNat 0), .inl (.ofNat 0), .inl (.ofNat 0), .inl (.ofNat 0), .inl (.ofNat 0), .inl (.ofNat 0), .inl (.ofNat 0), .inl (.ofNat 0), .inl (.ofNat 0), .inl (.ofNat 0), .inl (.ofNat 0), .inl (.ofNat 0), .inl (.ofNat 0), .inl (.ofNat 0), .inl (.ofNat 0), .inl (.ofNat 0), .inl (.ofNat 0), .inl (.ofNat 0), .inl (.ofNat 0), .inl (.ofNat 0), .inl (.ofNat 0), .inl (.ofNat 0), .inl (.ofNat 0), .inl (.ofNat 0), .inl (.ofNat 0), .inl (.ofNat 0), .inl (.ofNat 0), .inl (.ofNat 0), .inl (.ofNat 0), .inl (.ofNat 0), .inl (.ofNat 0), .inl (.ofNat 0), .inl (.ofNat 0), .inl (.ofNat 0), .inl (.ofNat 0), .inl (.ofNat 0), .inl (.ofNat 0), .inl (.ofNat 0), .inl (.ofNat 0), .inl (.ofNat 0), .inl (.ofNat 0), .inl (.ofNat 0), .inl (.ofNat 0), .inl (.ofNat 0), .inl (.ofNat 0), .inl (.ofNat 0), .inl (.ofNat 0), .inl (.ofNat 0), .inl (.ofNat 0), .inl (.ofNat 0), .inl (.ofNat 0), .inl (.ofNat 0), .inl (.ofNat 0), .inl (.ofNat 0), .inl (.ofNat 0), .inl (.ofNat 0), .inl (.ofNat 0), .inl (.ofNat 0), .inl (.ofNat 0), .inl (.ofNat 0), .inl (.ofNat 0), .inl (.ofNat 0), .inl (.ofNat 0), .inl (.ofNat 0), .inl (.ofNat 0), .inl (.ofNat 0), .inl (.ofNat 0), .inl (.ofNat 0), .inl (.ofNat 0), .inl (.ofNat 0), .inl (.ofNat 0), .inl (.ofNat 0), .inl (.ofNat 0), .inl (.ofNat 0), .inl (.ofNat 0), .inl (.ofNat 0), .inl (.ofNat 0), .inl (.ofNat 0), .inl (.ofNat 0), .inl (.ofNat 0), .inl (.ofNat 0), .inl (.ofNat 0), .inl (.ofNat 0), .inl (.ofNat 0), .inl (.ofNat 0), .inl (.ofNat 0), .inl (.ofNat 0), .inl (.ofNat 0), .inl (.ofNat 0), .inl (.ofNat 0), .inl (.ofNat 0), .inl (.ofNat 0), .inl (.ofNat 0), .inl (.ofNat 0), .inl (.ofNat 0), .inl (.ofNat 0), .inl (.ofNat 0), .inl (.ofNat 0), .inl (.ofNat 0), .inl (.ofNat 0), .inl (.ofNat 0), .inl (.ofNat 0), .inl (.ofNat 0), .inl (.ofNat 0), .inl (.ofNat 0), .inl (.ofNat 0), .inl (.ofNat 0), .inl (.ofNat 0), .inl (.ofNat 0), .inl (.ofNat 0), .inl (.ofNat 0), .inl (.ofNat 0), .inl (.ofNat 0), .inl (.ofNat 0), .inl (.ofNat 0), .inl (.ofNat 0), .inl (.ofNat 0), .inl (.ofNat 0), .inl (.ofNat 0), .inl (.ofNat 0), .inl (.ofNat 0), .inl (.ofNat 0), .inl (.ofNat 0), .inl (.ofNat 0), .inl (.ofNat 0), .inl (.ofNat 0), .inl (.ofNat 0), .inl (.ofNat 0), .inl (.ofNat 0), .inl (.ofNat 0), .inl (.ofNat 0), .inl (.ofNat 0), .inl (.ofNat 0), .inl (.ofNat 0), .inl (.ofNat 0), .inl (.ofNat 0), .inl (.ofNat 0), .inl (.ofNat 0), .inl (.ofNat 0), .inl (.ofNat 0), .inl (.ofNat 0), .inl (.ofNat 0), .inl (.ofNat 0), .inl (.ofNat 0), .inl (.ofNat 0), .inl (.ofNat 0), .inl (.ofNat 0), .inl (.ofNat 0), .inl (.ofNat 0), .inl (.ofNat 0), .inl (.ofNat 0), .inl (.ofNat 0), .inl (.ofNat 0), .inl (.ofNat 0), .inl (.ofNat 0), .inl (.ofNat 0), .inl (.ofNat 0), .inl (.ofNat 0), .inl (.ofNat 0), .inl (.ofNat 0), .inl (.ofNat 0), .inl (.ofNat 0), .inl (.ofNat 0), .inl (.ofNat 0), .inl (.ofNat 0), .inl (.ofNat 0), .inl (.ofNat 0), .inl (.ofNat 0), .inl (.ofNat 0), .inl (.ofNat 0), .inl (.ofNat 0), .inl (.ofNat 0), .inl (.ofNat 0), .inl (.ofNat 0), .inl (.ofNat 0), .inl (.ofNat 0), .inl (.ofNat 0), .inl (.ofNat 0), .inl (.ofNat 0), .inl (.ofNat 0), .inl (.ofNat 0), .inl (.ofNat 0), .inl (.ofNat 0), .inl (.ofNat 0), .inl (.ofNat 0), .inl (.ofNat 0), .inl (.ofNat 0), .inl (.ofNat 0), .inl (.ofNat 0), .inl (.ofNat 0), .inl (.ofNat 0), .inl (.ofNat 0), .inl (.ofNat 0), .inl (.ofNat 0), .inl (.ofNat 0), .inl (.ofNat 0), .inl (.ofNat 0), .inl (.ofNat 0), .inl (.ofNat 0), .inl (.ofNat 0), .inl (.ofNat 0), .inl (.ofNat 0), .inl (.ofNat 0), .inl (.ofNat 0), .inl (.ofNat 0), .inl (.ofNat 0), .inl (.ofNat 0), .inl (.ofNat 0), .inl (.ofNat 0), .inl (.ofNat 0), .inl (.ofNat 0), .inl (.ofNat 0), .inl (.ofNat 0), .inl (.ofNat 0), .inl (.ofNat 0), .inl (.ofNat 0), .inl (.ofNat 0), .inl (.ofNat 0), .inl (.ofNat 0), .inl (.ofNat 0), .inl (.ofNat 0), .inl (.ofNat 0), .inl (.ofNat 0), .inl (.ofNat 0), .inl (.ofNat 0), .inl (.ofNat 0), .inl (.ofNat 0), .inl (.ofNat 0), .inl (.ofNat 0), .inl (.ofNat 0), .inl (.ofNat 0), .inl (.ofNat 0), .inl (.ofNat 0), .inl (.ofNat 0), .inl (.ofNat 0), .inl (.ofNat 0), .inl (.ofNat 0), .inl (.ofNat 0), .inl (.ofNat 0), .inl (.ofNat 0), .inl (.ofNat 0), .inl (.ofNat 0), .inl (.ofNat 0), .inl (.ofNat 0), .inl (.ofNat 0), .inl (.ofNat 0), .inl (.ofNat 0), .inl (.ofNat 0), .inl (.ofNat 0), .inl (.ofNat 0), .inl (.ofNat 0), .inl (.ofNat 0), .inl (.ofNat 0), .inl (.ofNat 0), .inl (.ofNat 0), .inl (.ofNat 0), .inl (.ofNat 0), .inl (.ofNat 0), .inl (.ofNat 0), .inl (.ofNat 0), .inl (.ofNat 0), .inl (.ofNat 0), .inl (.ofNat 0), .inl (.ofNat 0), .inl (.ofNat 0), .inl (.ofNat 0), .inl (.ofNat 0), .inl (.ofNat 0), .inl (.ofNat 0), .inl (.ofNat 0), .inl (.ofNat 0), .inl (.ofNat 0), .inl (.ofNat 0), .inl (.ofNat 0), .inl (.ofNat 0), .inl (.ofNat 0), .inl (.ofNat 0), .inl (.ofNat 0), .inl (.ofNat 0), .inl (.ofNat 0), .inl (.ofNat 0), .inl (.ofNat 0), .inl (.ofNat 0), .inl (.ofNat 0), .inl (.ofNat 0), .inl (.ofNat 0), .inl (.ofNat 0), .inl (.ofNat 0), .inl (.ofNat 0), .inl (.ofNat 0), .inl (.ofNat 0), .inl (.ofNat 0), .inl (.ofNat 0), .inl (.ofNat 0), .inl (.ofNat 0), .inl (.ofNat 0), .inl (.ofNat 0), .inl (.ofNat 0), .inl (.ofNat 0), .inl (.ofNat 0), .inl (.ofNat 0), .inl (.ofNat 0), .inl (.ofNat 0), .inl (.ofNat 0), .inl (.ofNat 0), .inl (.ofNat 0), .inl (.ofNat 0), .inl (.ofNat 0), .inl (.ofNat 0), .inl (.ofNat 0), .inl (.ofNat 0), .inl (.ofNat 0), .inl (.ofNat 0), .inl (.ofNat 0), .inl (.ofNat 0), .inl (.ofNat 0), .inl (.ofNat 0), .inl (.ofNat 0), .inl (.ofNat 0), .inl (.ofNat 0), .inl (.ofNat 0), .inl (.ofNat 0), .inl (.ofNat 0), .inl (.ofNat 0), .inl (.ofNat 0), .inl (.ofNat 0), .inl (.ofNat 0), .inl (.ofNat 0), .inl (.ofNat 0), .inl (.ofNat 0), .inl (.ofNat 0), .inl (.ofNat 0), .inl (.ofNat 0), .inl (.ofNat 0), .inl (.ofNat 0), .inl (.ofNat 0), .inl (.ofNat 0), .inl (.ofNat 0), .inl (.ofNat 0), .inl (.ofNat 0), .inl (.ofNat 0), .inl (.ofNat 0), .inl (.ofNat 0), .inl (.ofNat 0), .inl (.ofNat 0), .inl (.ofNat 0), .inl (.ofNat 0), .inl (.ofNat 0), .inl (.ofNat 0), .inl (.ofNat 0), .inl (.ofNat 0), .inl (.ofNat 0), .inl (.ofNat 0), .inl (.ofNat 0), .inl (.ofNat 0), .inl (.ofNat 0), .inl (.ofNat 0), .inl (.ofNat 0), .inl (.ofNat 0), .inl (.ofNat 0), .inl (.ofNat 0), .inl (.ofNat 0), .inl (.ofNat 0), .inl (.ofNat 0), .inl (.ofNat 0), .inl (.ofNat 0), .inl (.ofNat 0), .inl (.ofNat 0), .inl (.ofNat 0), .inl (.ofNat 0), .inl (.ofNat 0), .inl (.ofNat 0), .inl (.ofNat 0), .inl (.ofNat 0), .inl (.ofNat 0), .inl (.ofNat 0), .inl (.ofNat 0), .inl (.ofNat 0), .inl (.ofNat 0), .inl (.ofNat 0), .inl (.ofNat 0), .inl (.ofNat 0), .inl (.ofNat 0), .inl (.ofNat 0), .inl (.ofNat 0), .inl (.ofNat 0), .inl (.ofNat 0), .inl (.ofNat 0), .inl (.ofNat 0), .inl (.ofNat 0), .inl (.ofNat 0), .inl (.ofNat 0), .inl (.ofNat 0), .inl (.ofNat 0), .inl (.ofNat 0), .inl (.ofNat 0), .inl (.ofNat 0), .inl (.ofNat 0), .inl (.ofNat 0), .inl (.ofNat 0), .inl (.ofNat 0), .inl (.ofNat 0), .inl (.ofNat 0), .inl (.ofNat 0), .inl (.ofNat 0), .inl (.ofNat 0), .inl (.ofNat 0), .inl (.ofNat 0), .inl (.ofNat 0), .inl (.ofNat 0), .inl (.ofNat 0), .inl (.ofNat 0), .inl (.ofNat 0), .inl (.ofNat 0), .inl (.ofNat 0), .inl (.ofNat 0), .inl (.ofNat 0), .inl (.ofNat 0), .inl (.ofNat 0), .inl (.ofNat 0), .inl (.ofNat 0), .inl (.ofNat 0), .inl (.ofNat 0), .inl (.ofNat 0), .inl (.ofNat 0), .inl (.ofNat 0), .inl (.ofNat 0), .inl (.ofNat 0), .inl (.ofNat 0), .inl (.ofNat 0), .inl (.ofNat 0), .inl (.ofNat 0), .inl (.ofNat 0), .inl (.ofNat 0), .inl (.ofNat 0), .inl (.ofNat 0), .inl (.ofNat 0), .inl (.ofNat 0), .inl (.ofNat 0), .inl (.ofNat 0), .inl (.ofNat 0), .inl (.ofNat 0), .inl (.ofNat 0), .inl (.ofNat 0), .inl (.ofNat 0), .inl (.ofNat 0), .inl (.ofNat 0), .inl (.ofNat 0), .inl (.ofNat 0), .inl (.ofNat 0), .inl (.ofNat 0), .inl (.ofNat 0), .inl (.ofNat 0), .inl (.ofNat 0), .inl (.ofNat 0), .inl (.ofNat 0), .inl (.ofNat 0), .inl (.ofNat 0), .inl (.ofNat 0), .inl (.ofNat 0), .inl (.ofNat 0), .inl (.ofNat 0), .inl (.ofNat 0), .inl (.ofNat 0), .inl (.ofNat 0), .inl (.ofNat 0), .inl (.ofNat 0), .inl (.ofNat 0), .inl (.ofNat 0), .inl (.ofNat 0), .inl (.ofNat 0), .inl (.ofNat 0), .inl (.ofNat 0), .inl (.ofNat 0), .inl (.ofNat 0), .inl (.ofNat 0), .inl (.ofNat 0), .inl (.ofNat 0), .inl (.ofNat 0), .inl (.ofNat 0), .inl (.ofNat 0), .inl (.ofNat 0), .inl (.ofNat 0), .inl (.ofNat 0), .inl (.ofNat 0), .inl (.ofNat 0), .inl (.ofNat 0), .inl (.ofNat 0), .inl (.ofNat 0), .inl (.ofNat 0), .inl (.ofNat 0), .inl (.ofNat 0), .inl (.ofNat 0), .inl (.ofNat 0), .inl (.ofNat 0), .inl (.ofNat 0), .inl (.ofNat 0), .inl (.ofNat 0), .inl (.ofNat 0), .inl (.ofNat 0), .inl (.ofNat 0), .inl (.ofNat 0), .inl (.ofNat 0), .inl (.ofNat 0), .inl (.ofNat 0), .inl (.ofNat 0), .inl (.ofNat 0), .inl (.ofNat 0), .inl (.ofNat 0), .inl (.ofNat 0), .inl (.ofNat 0), .inl (.ofNat 0), .inl (.ofNat 0), .inl (.ofNat 0), .inl (.ofNat 0), .inl (.ofNat 0), .inl (.ofNat 0), .inl (.ofNat 0), .inl (.ofNat 0), .inl (.ofNat 0), .inl (.ofNat 0), .inl (.ofNat 0), .inl (.ofNat 0), .inl (.ofNat 0), .inl (.ofNat 0), .inl (.ofNat 0), .inl (.ofNat 0), .inl (.ofNat 0), .inl (.ofNat 0), .inl (.ofNat 0), .inl (.ofNat 0), .inl (.ofNat 0), .inl (.ofNat 0), .inl (.ofNat 0), .inl (.ofNat 0), .inl (.ofNat 0), .inl (.ofNat 0), .inl (.ofNat 0), .inl (.ofNat 0), .inl (.ofNat 0), .inl (.ofNat 0), .inl (.ofNat 0), .inl (.ofNat 0), .inl (.ofNat 0), .inl (.ofNat 0), .inl (.ofNat 0), .inl (.ofNat 0), .inl (.ofNat 0), .inl (.ofNat 0), .inl (.ofNat 0), .inl (.ofNat 0), .inl (.ofNat 0), .inl (.ofNat 0), .inl (.ofNat 0), .inl (.ofNat 0), .inl (.ofNat 0), .inl (.ofNat 0), .inl (.ofNat 0), .inl (.ofNat 0), .inl (.ofNat 0), .inl (.ofNat 0), .inl (.ofNat 0), .inl (.ofNat 0), .inl (.ofNat 0), .inl (.ofNat 0), .inl (.ofNat 0), .inl (.ofNat 0), .inl (.ofNat 0), .inl (.ofNat 0), .inl (.ofNat 0), .inl (.ofNat 0), .inl (.ofNat 0), .inl (.ofNat 0), .inl (.ofNat 0), .inl (.ofNat 0), .inl (.ofNat 0), .inl (.ofNat 0), .inl (.ofNat 0), .inl (.ofNat 0), .inl (.ofNat 0), .inl (.ofNat 0), .inl (.ofNat 0), .inl (.ofNat 0), .inl (.ofNat 0), .inl (.ofNat 0), .inl (.ofNat 0), .inl (.ofNat 0), .inl (.ofNat 0), .inl (.ofNat 0), .inl (.ofNat 0), .inl (.ofNat 0), .inl (.ofNat 0), .inl (.ofNat 0), .inl (.ofNat 0), .inl (.ofNat 0), .inl (.ofNat 0), .inl (.ofNat 0), .inl (.ofNat 0), .inl (.ofNat 0), .inl (.ofNat 0), .inl (.ofNat 0), .inl (.ofNat 0), .inl (.ofNat 0), .inl (.ofNat 0), .inl (.ofNat 0), .inl (.ofNat 0), .inl (.ofNat 0), .inl (.ofNat 0), .inl (.ofNat 0), .inl (.ofNat 0), .inl (.ofNat 0), .inl (.ofNat 0), .inl (.ofNat 0), .inl (.ofNat 0), .inl (.ofNat 0), .inl (.ofNat 0), .inl (.ofNat 0), .inl (.ofNat 0), .inl (.ofNat 0), .inl (.ofNat 0), .inl (.ofNat 0), .inl (.ofNat 0), .inl (.ofNat 0), .inl (.ofNat 0), .inl (.ofNat 0), .inl (.ofNat 0), .inl (.ofNat 0), .inl (.ofNat 0), .inl (.ofNat 0), .inl (.ofNat 0), .inl (.ofNat 0), .inl (.ofNat 0), .inl (.ofNat 0), .inl (.ofNat 0), .inl (.ofNat 0), .inl (.ofNat 0), .inl (.ofNat 0), .inl (.ofNat 0), .inl (.ofNat 0), .inl (.ofNat 0), .inl (.ofNat 0), .inl (.ofNat 0), .inl (.ofNat 0), .inl (.ofNat 0), .inl (.ofNat 0), .inl (.ofNat 0), .inl (.ofNat 0), .inl (.ofNat 0), .inl (.ofNat 0), .inl (.ofNat 0), .inl (.ofNat 0), .inl (.ofNat 0), .inl (.ofNat 0), .inl (.ofNat 0), .inl (.ofNat 0), .inl (.ofNat 0), .inl (.ofNat 0), .inl (.ofNat 0), .inl (.ofNat 0), .inl (.ofNat 0), .inl (.ofNat 0), .inl (.ofNat 0), .inl (.ofNat 0), .inl (.ofNat 0), .inl (.ofNat 0), .inl (.ofNat 0), .inl (.ofNat 0), .inl (.ofNat 0), .inl (.ofNat 0), .inl (.ofNat 0), .inl (.ofNat 0), .inl (.ofNat 0), .inl (.ofNat 0), .inl (.ofNat 0), .inl (.ofNat 0), .inl (.ofNat 0), .inl (.ofNat 0), .inl (.ofNat 0), .inl (.ofNat 0), .inl (.ofNat 0), .inl (.ofNat 0), .inl (.ofNat 0), .inl (.ofNat 0), .inl (.ofNat 0), .inl (.ofNat 0), .inl (.ofNat 0), .inl (.ofNat 0), .inl (.ofNat 0), .inl (.ofNat 0), .inl (.ofNat 0), .inl (.ofNat 0), .inl (.ofNat 0), .inl (.ofNat 0), .inl (.ofNat 0), .inl (.ofNat 0), .inl (.ofNat 0), .inl (.ofNat 0), .inl (.ofNat 0), .inl (.ofNat 0), .inl (.ofNat 0), .inl (.ofNat 0), .inl (.ofNat 0), .inl (.ofNat 0), .inl (.ofNat 0), .inl (.ofNat 0), .inl (.ofNat 0), .inl (.ofNat 0), .inl (.ofNat 0), .inl (.ofNat 0), .inl (.ofNat 0), .inl (.ofNat 0), .inl (.ofNat 0), .inl (.ofNat 0), .inl (.ofNat 0), .inl (.ofNat 0), .inl (.ofNat 0), .inl (.ofNat 0), .inl (.ofNat 0), .inl (.ofNat 0), .inl (.ofNat 0), .inl (.ofNat 0), .inl (.ofNat 0), .inl (.ofNat 0), .inl (.ofNat 0), .inl (.ofNat 0), .inl (.ofNat 0), .inl (.ofNat 0), .inl (.ofNat 0), .inl (.ofNat 0), .inl (.ofNat 0), .inl (.ofNat 0), .inl (.ofNat 0), .inl (.ofNat 0), .inl (.ofNat 0), .inl (.ofNat 0), .inl (.ofNat 0), .inl (.ofNat 0), .inl (.ofNat 0), .inl (.ofNat 0), .inl (.ofNat 0), .inl (.ofNat 0), .inl (.ofNat 0), .inl (.ofNat 0), .inl (.ofNat 0), .inl (.ofNat 0), .inl (.ofNat 0), .inl (.ofNat 0), .inl (.ofNat 0), .inl (.ofNat 0), .inl (.ofNat 0), .inl (.ofNat 0), .inl (.ofNat 0), .inl (.ofNat 0), .inl (.ofNat 0), .inl (.ofNat 0), .inl (.ofNat 0), .inl (.ofNat 0), .inl (.ofNat 0), .inl (.ofNat 0), .inl (.ofNat 0), .inl (.ofNat 0), .inl (.ofNat 0), .inl (.ofNat 0), .inl (.ofNat 0), .inl (.ofNat 0), .inl (.ofNat 0), .inl (.ofNat 0), .inl (.ofNat 0), .inl (.ofNat 0), .inl (.ofNat 0), .inl (.ofNat 0), .inl (.ofNat 0), .inl (.ofNat 0), .inl (.ofNat 0), .inl (.ofNat 0), .inl (.ofNat 0), .inl (.ofNat 0), .inl (.ofNat 0), .inl (.ofNat 0), .inl (.ofNat 0), .inl (.ofNat 0), .inl (.ofNat 0), .inl (.ofNat 0), .inl (.ofNat 0), .inl (.ofNat 0), .inl (.ofNat 0), .inl (.ofNat 0), .inl (.ofNat 0), .inl (.ofNat 0), .inl (.ofNat 0), .inl (.ofNat 0), .inl (.ofNat 0), .inl (.ofNat 0), .inl (.ofNat 0), .inl (.ofNat 0), .inl (.ofNat 0), .inl (.ofNat 0), .inl (.ofNat 0), .inl (.ofNat 0), .inl (.ofNat 0), .inl (.ofNat 0), .inl (.ofNat 0), .inl (.ofNat 0), .inl (.ofNat 0), .inl (.ofNat 0), .inl (.ofNat 0), .inl (.ofNat 0), .inl (.ofNat 0), .inl (.ofNat 0)])
def hc_143 : AE := .inr (10, [.inl (.ofNat 0), .inl (.ofNat 0), .inr (.inr (.ref 144)), .inr (.inr (.ref 145)), .inr (.inr (.ref 146)), .inr (.inr (.ref 147)), .inr (.inr (.ref 148)), .inr (.inr (.ref 149)), .inr (.inr (.ref 150)), .inr (.inr (.ref 151)), .inr (.inr (.ref 152)), .inr (.inr (.ref 153)), .inl (.ofNat 0), .inr (.inr (.ref 154)), .inr (.inr (.ref 155)), .inr (.inr (.ref 156)), .inr (.inr (.ref 157)), .inr (.inr (.ref 158)), .inl (.negSucc 0), .inr (.inr (.ref 159)), .inr (.inr (.ref 160)), .inr (.inr (.ref 161)), .inr (.inr (.ref 162)), .inr (.inr (.ref 163)), .inr (.inr (.ref 164)), .inl (.ofNat 0), .inr (.inr (.ref 165)), .inr (.inr (.ref 166)), .inr (.inr (.ref 167)), .inr (.inr (.ref 168)), .inr (.inr (.ref 169)), .inl (.ofNat 0), .inl (.ofNat 0), .inl (.ofNat 0), .inr (.inr (.ref 170)), .inr (.inr (.ref 171)), .inr (.inr (.ref 172))])
def hc_144 : AE := .inl (0, [.inl (.ofNat 0), .inl (.ofNat 0), .inl (.ofNat 0), .inl (.ofNat 0), .inl (.ofNat 0), .inl (.ofNat 0), .inl (.ofNat 0), .inl (.ofNat 0)])
def hc_145 : AE := .inl (0, [.inl (.ofNat 0), .inl (.ofNat 0), .inl (.ofNat 0), .inl (.ofNat 0), .inl (.ofNat 0), .inl (.ofNat 0), .inl (.ofNat 0), .inl (.ofNat 0)])
def hc_146 : AE := .inl (0, [.inl (.ofNat 0), .inl (.ofNat 0), .inl (.ofNat 0), .inl (.ofNat 0), .inl (.ofNat 0), .inl (.ofNat 0), .inl (.ofNat 0), .inl (.ofNat 0)])
def hc_147 : AE := .inl (0, [.inl (.ofNat 0), .inl (.ofNat 0), .inl (.ofNat 0), .inl (.ofNat 0), .inl (.ofNat 0), .inl (.ofNat 0), .inl (.ofNat 0), .inl (.ofNat 0)])
def hc_148 : AE := .inl (0, [.inl (.ofNat 0), .inl (.ofNat 0), .inl (.ofNat 0), .inl (.ofNat 0), .inl (.ofNat 0), .inl (.ofNat 0), .inl (.ofNat 0), .inl (.ofNat 0)])
def hc_149 : AE := .inl (0, [.inl (.ofNat 0), .inl (.ofNat 0), .inl (.ofNat 0), .inl (.ofNat 0), .inl (.ofNat 0), .inl (.ofNat 0), .inl (.ofNat 0), .inl (.ofNat 0)])
def hc_150 : AE := .inl (0, [.inl (.ofNat 0), .inl (.ofNat 0), .inl (.ofNat 1), .inl (.ofNat 0), .inl (.ofNat 2), .inl (.ofNat 2)])
def hc_151 : AE := .inl (0, [.inl (.ofNat 1), .inl (.ofNat 1), .inl (.ofNat 3), .inl (.ofNat 1), .inl (.ofNat 2), .inl (.ofNat 1)])
def hc_152 : AE := .inl (0, [.inl (.ofNat 1), .inl (.ofNat 1), .inl (.ofNat 3), .inl (.ofNat 1), .inl (.ofNat 1), .inl (.ofNat 1)])
def hc_153 : AE := .inl (0, [.inl (.ofNat 1), .inl (.ofNat 1), .inl (.ofNat 1)])
def hc_154 : AE := .inl (0, [.inl (.ofNat 0), .inl (.ofNat 0), .inl (.ofNat 0), .inl (.ofNat 0), .inl (.ofNat 0), .inl (.ofNat 0), .inl (.ofNat 0), .inl (.ofNat 0), .inl (.ofNat 0), .inl (.ofNat 0), .inl (.ofNat 0), .inl (.ofNat 0), .inl (.ofNat 0), .inl (.ofNat 0), .inl (.ofNat 0), .inl (.ofNat 0), .inl (.ofNat 0), .inl (.ofNat 0), .inl (.ofNat 0), .inl (.ofNat 0), .inl (.ofNat 0), .inl (.ofNat 0), .inl (.ofNat 0), .inl (.ofNat 0), .inl (.ofNat 0), .inl (.ofNat 0), .inl (.ofNat 0), .inl (.ofNat 0), .inl (.ofNat 0), .inl (.ofNat 0), .inl (.ofNat 0), .inl (.ofNat 0), .inl (.ofNat 0), .inl (.ofNat 0), .inl (.ofNat 0), .inl (.ofNat 0), .inl (.ofNat 0), .inl (.ofNat 0), .inl (.ofNat 0), .inl (.ofNat 0), .inl (.ofNat 0), .inl (.ofNat 0), .inl (.ofNat 0), .inl (.ofNat 0), .inl (.ofNat 0), .inl (.ofNat 0), .inl (.ofNat 0), .inl (.ofNat 0)])
def hc_155 : AE := .inl (0, [.inl (.ofNat 0), .inl (.ofNat 0), .inl (.ofNat 0), .inl (.ofNat 0), .inl (.ofNat 0), .inl (.ofNat 0), .inl (.ofNat 0), .inl (.ofNat 0), .inl (.ofNat 0), .inl (.ofNat 0), .inl (.ofNat 0), .inl (.ofNat 0), .inl (.ofNat 0), .inl (.ofNat 0), .inl (.ofNat 0), .inl (.ofNat 0), .inl (.ofNat 0), .inl (.ofNat 0), .inl (.ofNat 0), .inl (.ofNat 0), .inl (.ofNat 0), .inl (.ofNat 0), .inl (.ofNat 0), .inl (.ofNat 0), .inl (.ofNat 0), .inl (.ofNat 0), .inl (.ofNat 0), .inl (.ofNat 0), .inl (.ofNat 0), .inl (.ofNat 0), .inl (.ofNat 0), .inl (.ofNat 0), .inl (.ofNat 0), .inl (.ofNat 0), .inl (.ofNat 0), .inl (.ofNat 0), .inl (.ofNat 0), .inl (.ofNat 0), .inl (.ofNat 0), .inl (.ofNat 0), .inl (.ofNat 0), .inl (.ofNat 0), .inl (.ofNat 0), .inl (.ofNat 0), .inl (.ofNat 0), .inl (.ofNat 0), .inl (.ofNat 0), .inl (.ofNat 0)])
def hc_156 : AE := .inl (0, [.inl (.ofNat 0), .inl (.ofNat 0), .inl (.ofNat 0), .inl (.ofNat 0), .inl (.ofNat 0), .inl (.ofNat 0), .inl (.ofNat 0), .inl (.ofNat 0), .inl (.ofNat 0), .inl (.ofNat 0), .inl (.ofNat 0), .inl (.ofNat 0), .inl (.ofNat 0), .inl (.ofNat 0), .inl (.ofNat 0), .inl (.ofNat 0), .inl (.ofNat 0), .inl (.ofNat 0), .inl (.ofNat 0), .inl (.ofNat 0), .inl (.ofNat 0), .inl (.ofNat 0), .inl (.ofNat 0), .inl (.ofNat 0), .inl (.ofNat 0), .inl (.ofNat 0), .inl (.ofNat 0), .inl (.ofNat 0), .inl (.ofNat 0), .inl (.ofNat 0), .inl (.ofNat 0), .inl (.ofNat 0), .inl (.ofNat 0), .inl (.ofNat 0), .inl (.ofNat 0), .inl (.ofNat 0), .inl (.ofNat 0), .inl (.ofNat 0), .inl (.ofNat 0), .inl (.ofNat 0), .inl (.ofNat 0), .inl (.ofNat 0), .inl (.ofNat 0), .inl (.ofNat 0), .inl (.ofNat 0), .inl (.ofNat 0), .inl (.ofNat 0), .inl (.ofNat 0)])
def hc_157 : AE := .inl (0, [.inl (.ofNat 0), .inl (.ofNat 0), .inl (.ofNat 0), .inl (.ofNat 0), .inl (.ofNat 0), .inl (.ofNat 0), .inl (.ofNat 0), .inl (.ofNat 0), .inl (.ofNat 0), .inl (.ofNat 0), .inl (.ofNat 0), .inl (.ofNat 0), .inl (.ofNat 0), .inl (.ofNat 0), .inl (.ofNat 0), .inl (.ofNat 0), .inl (.ofNat 0), .inl (.ofNat 0), .inl (.ofNat 0), .inl (.ofNat 0), .inl (.ofNat 0), .inl (.ofNat 0), .inl (.ofNat 0), .inl (.ofNat 0), .inl (.ofNat 0), .inl (.ofNat 0), .inl (.ofNat 0), .inl (.ofNat 0), .inl (.ofNat 0), .inl (.ofNat 0), .inl (.ofNat 0), .inl (.ofNat 0), .inl (.ofNat 0), .inl (.ofNat 0), .inl (.ofNat 0), .inl (.ofNat 0), .inl (.ofNat 0), .inl (.ofNat 0), .inl (.ofNat 0), .inl (.ofNat 0), .inl (.ofNat 0), .inl (.ofNat 0), .inl (.ofNat 0), .inl (.ofNat 0), .inl (.ofNat 0), .inl (.ofNat 0), .inl (.ofNat 0), .inl (.ofNat 0)])
def hc_158 : AE := .inl (0, [.inl (.ofNat 0), .inl (.ofNat 0), .inl (.ofNat 0), .inl (.ofNat 0), .inl (.ofNat 0), .inl (.ofNat 0), .inl (.ofNat 0), .inl (.ofNat 0), .inl (.ofNat 0), .inl (.ofNat 0), .inl (.ofNat 0), .inl (.ofNat 0), .inl (.ofNat 0), .inl (.ofNat 0), .inl (.ofNat 0), .inl (.ofNat 0), .inl (.ofNat 0), .inl (.ofNat 0), .inl (.ofNat 0), .inl (.ofNat 0), .inl (.ofNat 0), .inl (.ofNat 0), .inl (.ofNat 0), .inl (.ofNat 0), .inl (.ofNat 0), .inl (.ofNat 0), .inl (.ofNat 0), .inl (.ofNat 0), .inl (.ofNat 0), .inl (.ofNat 0), .inl (.ofNat 0), .inl (.ofNat 0), .inl (.ofNat 0), .inl (.ofNat 0), .inl (.ofNat 0), .inl (.ofNat 0), .inl (.ofNat 0), .inl (.ofNat 0), .inl (.ofNat 0), .inl (.ofNat 0), .inl (.ofNat 0), .inl (.ofNat 0), .inl (.ofNat 0), .inl (.ofNat 0), .inl (.ofNat 0), .inl (.ofNat 0), .inl (.ofNat 0), .inl (.ofNat 0), .inl (.ofNat 0), .inl (.ofNat 0), .inl (.ofNat 0), .inl (.ofNat 0), .inl (.ofNat 0), .inl (.ofNat 0), .inl (.ofNat 0), .inl (.ofNat 0), .inl (.ofNat 0), .inl (.ofNat 0), .inl (.ofNat 0), .inl (.ofNat 0), .inl (.ofNat 0), .inl (.ofNat 0), .inl (.ofNat 0), .inl (.ofNat 0)])
def hc_159 : AE := .inl (0, [.inl (.ofNat 0), .inl (.ofNat 0), .inl (.ofNat 0), .inl (.ofNat 0), .inl (.ofNat 0), .inl (.ofNat 0), .inl (.ofNat 0), .inl (.ofNat 0), .inl (.ofNat 0), .inl (.ofNat 0), .inl (.ofNat 0), .inl (.ofNat 0), .inl (.ofNat 0), .inl (.ofNat 0), .inl (.ofNat 0), .inl (.ofNat 0), .inl (.ofNat 0), .inl (.ofNat 0), .inl (.ofNat 0), .inl (.ofNat 0), .inl (.ofNat 0), .inl (.ofNat 0), .inl (.ofNat 0), .inl (.ofNat 0), .inl (.ofNat 0), .inl (.ofNat 0), .inl (.ofNat 0), .inl (.ofNat 0), .inl (.ofNat 0), .inl (.ofNat 0), .inl (.ofNat 0), .inl (.ofNat 0), .inl (.ofNat 0), .inl (.ofNat 0), .inl (.ofNat 0), .inl (.ofNat 0)])
def hc_160 : AE := .inl (0, [.inl (.ofNat 0), .inl (.ofNat 0), .inl (.ofNat 0), .inl (.ofNat 0), .inl (.ofNat 0), .inl (.ofNat 0), .inl (.ofNat 0), .inl (.ofNat 0)])
def hc_161 : AE := .inl (0, [.inl (.ofNat 0), .inl (.ofNat 0), .inl (.ofNat 0), .inl (.ofNat 0), .inl (.ofNat 0), .inl (.ofNat 0), .inl (.ofNat 0), .inl (.ofNat 0)])
def hc_162 : AE := .inl (0, [.inl (.ofNat 0), .inl (.ofNat 0), .inl (.ofNat 0), .inl (.ofNat 0), .inl (.ofNat 0), .inl (.ofNat 0), .inl (.ofNat 0), .inl (.ofNat 0), .inl (.ofNat 0), .inl (.ofNat 0), .inl (.ofNat 0), .inl (.ofNat 0), .inl (.ofNat 0), .inl (.ofNat 0), .inl (.ofNat 0), .inl (.ofNat 0), .inl (.ofNat 0), .inl (.ofNat 0), .inl (.ofNat 0), .inl (.ofNat 0), .inl (.ofNat 0), .inl (.ofNat 0), .inl (.ofNat 0), .inl (.ofNat 0), .inl (.ofNat 0), .inl (.ofNat 0), .inl (.ofNat 0), .inl (.ofNat 0), .inl (.ofNat 0), .inl (.ofNat 0), .inl (.ofNat 0), .inl (.ofNat 0), .inl (.ofNat 0), .inl (.ofNat 0), .inl (.ofNat 0), .inl (.ofNat 0), .inl (.ofNat 0), .inl (.ofNat 0), .inl (.ofNat 0), .inl (.ofNat 0), .inl (.ofNat 0), .inl (.ofNat 0), .inl (.ofNat 0), .inl (.ofNat 0), .inl (.ofNat 0), .inl (.ofNat 0), .inl (.ofNat 0), .inl (.ofNat 0), .inl (.ofNat 0), .inl (.ofNat 0), .inl (.ofNat 0), .inl (.ofNat 0), .inl (.ofNat 0), .inl (.ofNat 0), .inl (.ofNat 0), .inl (.ofNat 0), .inl (.ofNat 0), .inl (.ofNat 0), .inl (.ofNat 0), .inl (.ofNat 0), .inl (.ofNat 0), .inl (.ofNat 0), .inl (.ofNat 0), .inl (.ofNat 0)])
def hc_163 : AE := .inl (0, [.inl (.ofNat 0), .inl (.ofNat 0), .inl (.ofNat 0), .inl (.ofNat 0), .inl (.ofNat 0), .inl (.ofNat 0), .inl (.ofNat 0), .inl (.ofNat 0)])
def hc_164 : AE := .inl (0, [.inl (.ofNat 0), .inl (.ofNat 0), .inl (.ofNat 0), .inl (.ofNat 0), .inl (.ofNat 0), .inl (.ofNat 0), .inl (.ofNat 0), .inl (.ofNat 0)])
def hc_165 : AE := .inl (0, [.inl (.ofNat 0), .inl (.ofNat 0), .inl (.ofNat 0), .inl (.ofNat 0), .inl (.ofNat 0), .inl (.ofNat 0), .inl (.ofNat 0), .inl (.ofNat 0), .inl (.ofNat 0), .inl (.ofNat 0), .inl (.ofNat 0), .inl (.ofNat 0), .inl (.ofNat 0), .inl (.ofNat 0), .inl (.ofNat 0), .inl (.ofNat 0), .inl (.ofNat 0), .inl (.ofNat 0), .inl (.ofNat 0), .inl (.ofNat 0), .inl (.ofNat 0), .inl (.ofNat 0), .inl (.ofNat 0), .inl (.ofNat 0), .inl (.ofNat 0), .inl (.ofNat 0), .inl (.ofNat 0), .inl (.ofNat 0), .inl (.ofNat 0), .inl (.ofNat 0), .inl (.ofNat 0), .inl (.ofNat 0), .inl (.ofNat 0), .inl (.ofNat 0), .inl (.ofNat 0), .inl (.ofNat 0), .inl (.ofNat 0), .inl (.ofNat 0), .inl (.ofNat 0), .inl (.ofNat 0), .inl (.ofNat 0), .inl (.ofNat 0), .inl (.ofNat 0), .inl (.ofNat 0), .inl (.ofNat 0), .inl (.ofNat 0), .inl (.ofNat 0), .inl (.ofNat 0), .inl (.ofNat 0), .inl (.ofNat 0), .inl (.ofNat 0), .inl (.ofNat 0), .inl (.ofNat 0), .inl (.ofNat 0), .inl (.ofNat 0), .inl (.ofNat 0), .inl (.ofNat 0), .inl (.ofNat 0), .inl (.ofNat 0), .inl (.ofNat 0), .inl (.ofNat 0), .inl (.ofNat 0), .inl (.ofNat 0), .inl (.ofNat 0), .inl (.ofNat 0), .inl (.ofNat 0), .inl (.ofNat 0), .inl (.ofNat 0), .inl (.ofNat 0), .inl (.ofNat 0), .inl (.ofNat 0), .inl (.ofNat 0), .inl (.ofNat 0), .inl (.ofNat 0), .inl (.ofNat 0), .inl (.ofNat 0), .inl (.ofNat 0), .inl (.ofNat 0), .inl (.ofNat 0), .inl (.ofNat 0), .inl (.ofNat 0), .inl (.ofNat 0), .inl (.ofNat 0), .inl (.ofNat 0), .inl (.ofNat 0), .inl (.ofNat 0), .inl (.ofNat 0), .inl (.ofNat 0), .inl (.ofNat 0), .inl (.ofNat 0), .inl (.ofNat 0), .inl (.ofNat 0), .inl (.ofNat 0), .inl (.ofNat 0), .inl (.ofNat 0), .inl (.ofNat 0), .inl (.ofNat 0), .inl (.ofNat 0), .inl (.ofNat 0), .inl (.ofNat 0), .inl (.ofNat 0), .inl (.ofNat 0), .inl (.ofNat 0), .inl (.ofNat 0), .inl (.ofNat 0), .inl (.ofNat 0), .inl (.ofNat 0), .inl (.ofNat 0), .inl (.ofNat 0), .inl (.ofNat 0), .inl (.ofNat 0), .inl (.ofNat 0), .inl (.ofNat 0), .inl (.ofNat 0), .inl (.ofNat 0), .inl (.ofNat 0), .inl (.ofNat 0), .inl (.ofNat 0), .inl (.ofNat 0), .inl (.ofNat 0), .inl (.ofNat 0), .inl (.ofNat 0), .inl (.ofNat 0), .inl (.ofNat 0), .inl (.ofNat 0), .inl (.ofNat 0), .inl (.ofNat 0), .inl (.ofNat 0)])
def hc_166 : AE := .inl (0, [.inl (.ofNat 0), .inl (.ofNat 0), .inl (.ofNat 0), .inl (.ofNat 0), .inl (.ofNat 0), .inl (.ofNat 0), .inl (.ofNat 0), .inl (.ofNat 0), .inl (.ofNat 0), .inl (.ofNat 0), .inl (.ofNat 0), .inl (.ofNat 0), .inl (.ofNat 0), .inl (.ofNat 0), .inl (.ofNat 0), .inl (.ofNat 0), .inl (.ofNat 0), .inl (.ofNat 0), .inl (.ofNat 0), .inl (.ofNat 0), .inl (.ofNat 0), .inl (.ofNat 0), .inl (.ofNat 0), .inl (.ofNat 0), .inl (.ofNat 0), .inl (.ofNat 0), .inl (.ofNat 0), .inl (.ofNat 0), .inl (.ofNat 0), .inl (.ofNat 0), .inl (.ofNat 0), .inl (.ofNat 0), .inl (.ofNat 0), .inl (.ofNat 0), .inl (.ofNat 0), .inl (.ofNat 0), .inl (.ofNat 0), .inl (.ofNat 0), .inl (.ofNat 0), .inl (.ofNat 0), .inl (.ofNat 0), .inl (.ofNat 0), .inl (.ofNat 0), .inl (.ofNat 0), .inl (.ofNat 0), .inl (.ofNat 0), .inl (.ofNat 0), .inl (.ofNat 0), .inl (.ofNat 0), .inl (.ofNat 0), .inl (.ofNat 0), .inl (.ofNat 0), .inl (.ofNat 0), .inl (.ofNat 0), .inl (.ofNat 0), .inl (.ofNat 0), .inl (.ofNat 0), .inl (.ofNat 0), .inl (.ofNat 0), .inl (.ofNat 0), .inl (.ofNat 0), .inl (.ofNat 0), .inl (.ofNat 0), .inl (.ofNat 0), .inl (.ofNat 0), .inl (.ofNat 0), .inl (.ofNat 0), .inl (.ofNat 0), .inl (.ofNat 0), .inl (.ofNat 0), .inl (.ofNat 0), .inl (.ofNat 0), .inl (.ofNat 0), .inl (.ofNat 0), .inl (.ofNat 0), .inl (.ofNat 0), .inl (.ofNat 0), .inl (.ofNat 0), .inl (.ofNat 0), .inl (.ofNat 0), .inl (.ofNat 0), .inl (.ofNat 0), .inl (.ofNat 0), .inl (.ofNat 0), .inl (.ofNat 0), .inl (.ofNat 0), .inl (.ofNat 0), .inl (.ofNat 0), .inl (.ofNat 0), .inl (.ofNat 0), .inl (.ofNat 0), .inl (.ofNat 0), .inl (.ofNat 0), .inl (.ofNat 0), .inl (.ofNat 0), .inl (.ofNat 0), .inl (.ofNat 0), .inl (.ofNat 0), .inl (.ofNat 0), .inl (.ofNat 0), .inl (.ofNat 0), .inl (.ofNat 0), .inl (.ofNat 0), .inl (.ofNat 0), .inl (.ofNat 0), .inl (.ofNat 0), .inl (.ofNat 0), .inl (.ofNat 0), .inl (.ofNat 0), .inl (.ofNat 0), .inl (.ofNat 0), .inl (.ofNat 0), .inl (.ofNat 0), .inl (.ofNat 0), .inl (.ofNat 0), .inl (.ofNat 0), .inl (.ofNat 0), .inl (.ofNat 0), .inl (.ofNat 0), .inl (.ofNat 0), .inl (.ofNat 0), .inl (.ofNat 0), .inl (.ofNat 0), .inl (.ofNat 0), .inl (.ofNat 0), .inl (.ofNat 0), .inl (.ofNat 0), .inl (.ofNat 0), .inl (.ofNat 0), .inl (.ofNat 0), .inl (.ofNat 0), .inl (.ofNat 0), .inl (.ofNat 0), .inl (.ofNat 0), .inl (.ofNat 0), .inl (.ofNat 0), .inl (.ofNat 0), .inl (.ofNat 0), .inl (.ofNat 0), .inl (.ofNat 0), .inl (.ofNat 0), .inl (.ofNat 0), .inl (.ofNat 0), .inl (.ofNat 0), .inl (.ofNat 0), .inl (.ofNat 0), .inl (.ofNat 0), .inl (.ofNat 0), .inl (.ofNat 0), .inl (.ofNat 0), .inl (.ofNat 0), .inl (.ofNat 0), .inl (.ofNat 0), .inl (.ofNat 0), .inl (.ofNat 0), .inl (.ofNat 0), .inl (.ofNat 0), .inl (.ofNat 0), .inl (.ofNat 0), .inl (.ofNat 0), .inl (.ofNat 0), .inl (.ofNat 0), .inl (.ofNat 0), .inl (.ofNat 0), .inl (.ofNat 0), .inl (.ofNat 0), .inl (.ofNat 0), .inl (.ofNat 0), .inl (.ofNat 0), .inl (.ofNat 0), .inl (.ofNat 0), .inl (.ofNat 0), .inl (.ofNat 0), .inl (.ofNat 0), .inl (.ofNat 0), .inl (.ofNat 0), .inl (.ofNat 0), .inl (.ofNat 0), .inl (.ofNat 0), .inl (.ofNat 0), .inl (.ofNat 0), .inl (.ofNat 0), .inl (.ofNat 0), .inl (.ofNat 0), .inl (.ofNat 0), .inl (.ofNat 0), .inl (.ofNat 0), .inl (.ofNat 0), .inl (.ofNat 0), .inl (.ofNat 0), .inl (.ofNat 0), .inl (.ofNat 0), .inl (.ofNat 0), .inl (.ofNat 0), .inl (.ofNat 0), .inl (.ofNat 0), .inl (.ofNat 0), .inl (.ofNat 0), .inl (.ofNat 0), .inl (.ofNat 0), .inl (.ofNat 0), .inl (.ofNat 0), .inl (.ofNat 0), .inl (.ofNat 0), .inl (.ofNat 0), .inl (.ofNat 0), .inl (.ofNat 0), .inl (.ofNat 0), .inl (.ofNat 0), .inl (.ofNat 0), .inl (.ofNat 0), .inl (.ofNat 0), .inl (.ofNat 0), .inl (.ofNat 0), .inl (.ofNat 0), .inl (.ofNat 0), .inl (.ofNat 0), .inl (.ofNat 0), .inl (.ofNat 0), .inl (.ofNat 0), .inl (.ofNat 0), .inl (.ofNat 0), .inl (.ofNat 0), .inl (.ofNat 0), .inl (.ofNat 0), .inl (.ofNat 0), .inl (.ofNat 0), .inl (.ofNat 0), .inl (.ofNat 0), .inl (.ofNat 0), .inl (.ofNat 0), .inl (.ofNat 0), .inl (.ofNat 0), .inl (.ofNat 0), .inl (.ofNat 0), .inl (.ofNat 0), .inl (.ofNat 0), .inl (.ofNat 0), .inl (.ofNat 0), .inl (.ofNat 0), .inl (.ofNat 0), .inl (.ofNat 0), .inl (.ofNat 0), .inl (.ofNat 0), .inl (.ofNat 0), .inl (.ofNat 0), .inl (.ofNat 0), .inl (.ofNat 0), .inl (.ofNat 0), .inl (.ofNat 0), .inl (.ofNat 0), .inl (.ofNat 0), .inl (.ofNat 0), .inl (.ofNat 0), .inl (.ofNat 0), .inl (.ofNat 0), .inl (.ofNat 0), .inl (.ofNat 0), .inl (.ofNat 0), .inl (.ofNat 0), .inl (.ofNat 0), .inl (.ofNat 0), .inl (.ofNat 0), .inl (.ofNat 0), .inl (.ofNat 0), .inl (.ofNat 0), .inl (.ofNat 0), .inl (.ofNat 0), .inl (.ofNat 0), .inl (.ofNat 0), .inl (.ofNat 0), .inl (.ofNat 0), .inl (.ofNat 0), .inl (.ofNat 0), .inl (.ofNat 0), .inl (.ofNat 0), .inl (.ofNat 0), .inl (.ofNat 0), .inl (.ofNat 0), .inl (.ofNat 0), .inl (.ofNat 0), .inl (.ofNat 0), .inl (.ofNat 0), .inl (.ofNat 0), .inl (.ofNat 0), .inl (.ofNat 0), .inl (.ofNat 0), .inl (.ofNat 0), .inl (.ofNat 0), .inl (.ofNat 0), .inl (.ofNat 0), .inl (.ofNat 0), .inl (.ofNat 0), .inl (.ofNat 0), .inl (.ofNat 0), .inl (.ofNat 0), .inl (.ofNat 0), .inl (.ofNat 0), .inl (.ofNat 0), .inl (.ofNat 0), .inl (.ofNat 0), .inl (.ofNat 0), .inl (.ofNat 0), .inl (.ofNat 0), .inl (.ofNat 0), .inl (.ofNat 0), .inl (.ofNat 0), .inl (.ofNat 0), .inl (.ofNat 0), .inl (.ofNat 0), .inl (.ofNat 0), .inl (.ofNat 0), .inl (.ofNat 0), .inl (.ofNat 0), .inl (.ofNat 0), .inl (.ofNat 0), .inl (.ofNat 0), .inl (.ofNat 0), .inl (.ofNat 0), .inl (.ofNat 0), .inl (.ofNat 0), .inl (.ofNat 0), .inl (.ofNat 0), .inl (.ofNat 0), .inl (.ofNat 0), .inl (.ofNat 0), .inl (.ofNat 0), .inl (.ofNat 0), .inl (.ofNat 0), .inl (.ofNat 0), .inl (.ofNat 0), .inl (.ofNat 0), .inl (.ofNat 0), .inl (.ofNat 0), .inl (.ofNat 0), .inl (.ofNat 0), .inl (.ofNat 0), .inl (.ofNat 0), .inl (.ofNat 0), .inl (.ofNat 0), .inl (.ofNat 0), .inl (.ofNat 0), .inl (.ofNat 0), .inl (.ofNat 0), .inl (.ofNat 0), .inl (.ofNat 0), .inl (.ofNat 0), .inl (.ofNat 0), .inl (.ofNat 0), .inl (.ofNat 0), .inl (.ofNat 0), .inl (.ofNat 0), .inl (.ofNat 0), .inl (.ofNat 0), .inl (.ofNat 0), .inl (.ofNat 0), .inl (.ofNat 0), .inl (.ofNat 0), .inl (.ofNat 0), .inl (.ofNat 0), .inl (.ofNat 0), .inl (.ofNat 0), .inl (.ofNat 0), .inl (.ofNat 0), .inl (.ofNat 0), .inl (.ofNat 0), .inl (.ofNat 0), .inl (.ofNat 0), .inl (.ofNat 0), .inl (.ofNat 0), .inl (.ofNat 0), .inl (.ofNat 0), .inl (.ofNat 0), .inl (.ofNat 0), .inl (.ofNat 0), .inl (.ofNat 0), .inl (.ofNat 0), .inl (.ofNat 0), .inl (.ofNat 0), .inl (.ofNat 0), .inl (.ofNat 0), .inl (.ofNat 0), .inl (.ofNat 0), .inl (.ofNat 0), .inl (.ofNat 0), .inl (.ofNat 0), .inl (.ofNat 0), .inl (.ofNat 0), .inl (.ofNat 0), .inl (.ofNat 0), .inl (.ofNat 0), .inl (.ofNat 0), .inl (.ofNat 0), .inl (.ofNat 0), .inl (.ofNat 0), .inl (.ofNat 0), .inl (.ofNat 0), .inl (.ofNat 0), .inl (.ofNat 0), .inl (.ofNat 0), .inl (.ofNat 0), .inl (.ofNat 0), .inl (.ofNat 0), .inl (.ofNat 0), .inl (.ofNat 0), .inl (.ofNat 0), .inl (.ofNat 0), .inl (.ofNat 0), .inl (.ofNat 0), .inl (.ofNat 0), .inl (.ofNat 0), .inl (.ofNat 0), .inl (.ofNat 0), .inl (.ofNat 0), .inl (.ofNat 0), .inl (.ofNat 0), .inl (.ofNat 0), .inl (.ofNat 0), .inl (.ofNat 0), .inl (.ofNat 0), .inl (.ofNat 0), .inl (.ofNat 0), .inl (.ofNat 0), .inl (.ofNat 0), .inl (.ofNat 0), .inl (.ofNat 0), .inl (.ofNat 0), .inl (.ofNat 0), .inl (.ofNat 0), .inl (.ofNat 0), .inl (.ofNat 0), .inl (.ofNat 0), .inl (.ofNat 0), .inl (.ofNat 0), .inl (.ofNat 0), .inl (.ofNat 0), .inl (.ofNat 0), .inl (.ofNat 0), .inl (.ofNat 0), .inl (.ofNat 0), .inl (.ofNat 0), .inl (.ofNat 0), .inl (.ofNat 0), .inl (.ofNat 0), .inl (.ofNat 0), .inl (.ofNat 0), .inl (.ofNat 0), .inl (.ofNat 0), .inl (.ofNat 0), .inl (.ofNat 0), .inl (.ofNat 0), .inl (.ofNat 0), .inl (.ofNat 0), .inl (.ofNat 0), .inl (.ofNat 0), .inl (.ofNat 0), .inl (.ofNat 0), .inl (.ofNat 0), .inl (.ofNat 0), .inl (.ofNat 0), .inl (.ofNat 0), .inl (.ofNat 0), .inl (.ofNat 0), .inl (.ofNat 0), .inl (.ofNat 0), .inl (.ofNat 0), .inl (.ofNat 0), .inl (.ofNat 0), .inl (.ofNat 0), .inl (.ofNat 0), .inl (.ofNat 0), .inl (.ofNat 0), .inl (.ofNat 0), .inl (.ofNat 0), .inl (.ofNat 0), .inl (.ofNat 0), .inl (.ofNat 0), .inl (.ofNat 0), .inl (.ofNat 0), .inl (.ofNat 0), .inl (.ofNat 0), .inl (.ofNat 0), .inl (.ofNat 0), .inl (.ofNat 0), .inl (.ofNat 0), .inl (.ofNat 0), .inl (.ofNat 0), .inl (.ofNat 0), .inl (.ofNat 0), .inl (.ofNat 0), .inl (.ofNat 0), .inl (.ofNat 0), .inl (.ofNat 0), .inl (.ofNat 0), .inl (.ofNat 0), .inl (.ofNat 0), .inl (.ofNat 0), .inl (.ofNat 0), .inl (.ofNat 0), .inl (.ofNat 0), .inl (.ofNat 0), .inl (.ofNat 0), .inl (.ofNat 0), .inl (.ofNat 0), .inl (.ofNat 0), .inl (.ofNat 0), .inl (.ofNat 0), .inl (.ofNat 0), .inl (.ofNat 0), .inl (.ofNat 0), .inl (.ofNat 0), .inl (.ofNat 0), .inl (.ofNat 0), .inl (.ofNat 0), .inl (.ofNat 0), .inl (.ofNat 0), .inl (.ofNat 0), .inl (.ofNat 0), .inl (.ofNat 0), .inl (.ofNat 0), .inl (.ofNat 0), .inl (.ofNat 0), .inl (.ofNat 0), .inl (.ofNat 0), .inl (.ofNat 0), .inl (.ofNat 0), .inl (.ofNat 0), .inl (.ofNat 0), .inl (.ofNat 0), .inl (.ofNat 0), .inl (.ofNat 0), .inl (.ofNat 0), .inl (.ofNat 0), .inl (.ofNat 0), .inl (.ofNat 0), .inl (.ofNat 0), .inl (.ofNat 0), .inl (.ofNat 0), .inl (.ofNat 0), .inl (.ofNat 0), .inl (.ofNat 0), .inl (.ofNat 0), .inl (.ofNat 0), .inl (.ofNat 0), .inl (.ofNat 0), .inl (.ofNat 0), .inl (.ofNat 0), .inl (.ofNat 0), .inl (.ofNat 0), .inl (.ofNat 0), .inl (.ofNat 0), .inl (.ofNat 0), .inl (.ofNat 0), .inl (.ofNat 0), .inl (.ofNat 0), .inl (.ofNat 0), .inl (.ofNat 0), .inl (.ofNat 0), .inl (.ofNat 0), .inl (.ofNat 0), .inl (.ofNat 0), .inl (.ofNat 0), .inl (.ofNat 0), .inl (.ofNat 0), .inl (.ofNat 0), .inl (.ofNat 0), .inl (.ofNat 0), .inl (.ofNat 0), .inl (.ofNat 0), .inl (.ofNat 0), .inl (.ofNat 0), .inl (.ofNat 0), .inl (.ofNat 0), .inl (.ofNat 0), .inl (.ofNat 0), .inl (.ofNat 0), .inl (.ofNat 0), .inl (.ofNat 0), .inl (.ofNat 0), .inl (.ofNat 0), .inl (.ofNat 0), .inl (.ofNat 0), .inl (.ofNat 0), .inl (.ofNat 0), .inl (.ofNat 0), .inl (.ofNat 0), .inl (.ofNat 0), .inl (.ofNat 0), .inl (.ofNat 0), .inl (.ofNat 0), .inl (.ofNat 0), .inl (.ofNat 0), .inl (.ofNat 0), .inl (.ofNat 0), .inl (.ofNat 0), .inl (.ofNat 0), .inl (.ofNat 0), .inl (.ofNat 0), .inl (.ofNat 0), .inl (.ofNat 0), .inl (.ofNat 0), .inl (.ofNat 0), .inl (.ofNat 0), .inl (.ofNat 0), .inl (.ofNat 0), .inl (.ofNat 0), .inl (.ofNat 0), .inl (.ofNat 0), .inl (.ofNat 0), .inl (.ofNat 0), .inl (.ofNat 0), .inl (.ofNat 0), .inl (.ofNat 0), .inl (.ofNat 0), .inl (.ofNat 0), .inl (.ofNat 0), .inl (.ofNat 0), .inl (.ofNat 0), .inl (.ofNat 0), .inl (.ofNat 0), .inl (.ofNat 0), .inl (.ofNat 0), .inl (.ofNat 0), .inl (.ofNat 0), .inl (.ofNat 0), .inl (.ofNat 0), .inl (.ofNat 0), .inl (.ofNat 0), .inl (.ofNat 0), .inl (.ofNat 0), .inl (.ofNat 0), .inl (.ofNat 0), .inl (.ofNat 0), .inl (.ofNat 0), .inl (.ofNat 0), .inl (.ofNat 0), .inl (.ofNat 0), .inl (.ofNat 0), .inl (.ofNat 0), .inl (.ofNat 0)])
def hc_167 : AE := .inl (0, [.inl (.ofNat 0), .inl (.ofNat 0), .inl (.ofNat 0), .inl (.ofNat 0), .inl (.ofNat 0), .inl (.ofNat 0), .inl (.ofNat 0), .inl (.ofNat 0), .inl (.ofNat 0), .inl (.ofNat 0), .inl (.ofNat 0), .inl (.ofNat 0), .inl (.ofNat 0), .inl (.ofNat 0), .inl (.ofNat 0), .inl (.ofNat 0), .inl (.ofNat 0), .inl (.ofNat 0), .inl (.ofNat 0), .inl (.ofNat 0), .inl (.ofNat 0), .inl (.ofNat 0), .inl (.ofNat 0), .inl (.ofNat 0), .inl (.ofNat 0), .inl (.ofNat 0), .inl (.ofNat 0), .inl (.ofNat 0), .inl (.ofNat 0), .inl (.ofNat 0), .inl (.ofNat 0), .inl (.ofNat 0), .inl (.ofNat 0), .inl (.ofNat 0), .inl (.ofNat 0), .inl (.ofNat 0), .inl (.ofNat 0), .inl (.ofNat 0), .inl (.ofNat 0), .inl (.ofNat 0), .inl (.ofNat 0), .inl (.ofNat 0), .inl (.ofNat 0), .inl (.ofNat 0), .inl (.ofNat 0), .inl (.ofNat 0), .inl (.ofNat 0), .inl (.ofNat 0), .inl (.ofNat 0), .inl (.ofNat 0), .inl (.ofNat 0), .inl (.ofNat 0), .inl (.ofNat 0), .inl (.ofNat 0), .inl (.ofNat 0), .inl (.ofNat 0), .inl (.ofNat 0), .inl (.ofNat 0), .inl (.ofNat 0), .inl (.ofNat 0), .inl (.ofNat 0), .inl (.ofNat 0), .inl (.ofNat 0), .inl (.ofNat 0), .inl (.ofNat 0), .inl (.ofNat 0), .inl (.ofNat 0), .inl (.ofNat 0), .inl (.ofNat 0), .inl (.ofNat 0), .inl (.ofNat 0), .inl (.ofNat 0), .inl (.ofNat 0), .inl (.ofNat 0), .inl (.ofNat 0), .inl (.ofNat 0), .inl (.ofNat 0), .inl (.ofNat 0), .inl (.ofNat 0), .inl (.ofNat 0), .inl (.ofNat 0), .inl (.ofNat 0), .inl (.ofNat 0), .inl (.ofNat 0), .inl (.ofNat 0), .inl (.ofNat 0), .inl (.ofNat 0), .inl (.ofNat 0), .inl (.ofNat 0), .inl (.ofNat 0), .inl (.ofNat 0), .inl (.ofNat 0), .inl (.ofNat 0), .inl (.ofNat 0), .inl (.ofNat 0), .inl (.ofNat 0), .inl (.ofNat 0), .inl (.ofNat 0), .inl (.ofNat 0), .inl (.ofNat 0), .inl (.ofNat 0), .inl (.ofNat 0), .inl (.ofNat 0), .inl (.ofNat 0), .inl (.ofNat 0), .inl (.ofNat 0), .inl (.ofNat 0), .inl (.ofNat 0), .inl (.ofNat 0), .inl (.ofNat 0), .inl (.ofNat 0), .inl (.ofNat 0), .inl (.ofNat 0), .inl (.ofNat 0), .inl (.ofNat 0), .inl (.ofNat 0), .inl (.ofNat 0), .inl (.ofNat 0), .inl (.ofNat 0), .inl (.ofNat 0), .inl (.ofNat 0), .inl (.ofNat 0), .inl (.ofNat 0), .inl (.ofNat 0), .inl (.ofNat 0), .inl (.ofNat 0), .inl (.ofNat 0), .inl (.ofNat 0), .inl (.ofNat 0), .inl (.ofNat 0), .inl (.ofNat 0), .inl (.ofNat 0), .inl (.ofNat 0), .inl (.ofNat 0), .inl (.ofNat 0), .inl (.ofNat 0), .inl (.ofNat 0), .inl (.ofNat 0), .inl (.ofNat 0), .inl (.ofNat 0), .inl (.ofNat 0), .inl (.ofNat 0), .inl (.ofNat 0), .inl (.ofNat 0), .inl (.ofNat 0), .inl (.ofNat 0), .inl (.ofNat 0), .inl (.ofNat 0), .inl (.ofNat 0), .inl (.ofNat 0), .inl (.ofNat 0), .inl (.ofNat 0), .inl (.ofNat 0), .inl (.ofNat 0), .inl (.ofNat 0), .inl (.ofNat 0), .inl (.ofNat 0), .inl (.ofNat 0), .inl (.ofNat 0), .inl (.ofNat 0), .inl (.ofNat 0), .inl (.ofNat 0), .inl (.ofNat 0), .inl (.ofNat 0), .inl (.ofNat 0), .inl (.ofNat 0), .inl (.ofNat 0), .inl (.ofNat 0), .inl (.ofNat 0), .inl (.ofNat 0), .inl (.ofNat 0), .inl (.ofNat 0), .inl (.ofNat 0), .inl (.ofNat 0), .inl (.ofNat 0), .inl (.ofNat 0), .inl (.ofNat 0), .inl (.ofNat 0), .inl (.ofNat 0), .inl (.ofNat 0), .inl (.ofNat 0), .inl (.ofNat 0), .inl (.ofNat 0), .inl (.ofNat 0), .inl (.ofNat 0), .inl (.ofNat 0), .inl (.ofNat 0), .inl (.ofNat 0), .inl (.ofNat 0), .inl (.ofNat 0), .inl (.ofNat 0), .inl (.ofNat 0), .inl (.ofNat 0), .inl (.ofNat 0), .inl (.ofNat 0), .inl (.ofNat 0), .inl (.ofNat 0), .inl (.ofNat 0), .inl (.ofNat 0), .inl (.ofNat 0), .inl (.ofNat 0), .inl (.ofNat 0), .inl (.ofNat 0), .inl (.ofNat 0), .inl (.ofNat 0), .inl (.ofNat 0), .inl (.ofNat 0), .inl (.ofNat 0), .inl (.ofNat 0), .inl (.ofNat 0), .inl (.ofNat 0), .inl (.ofNat 0), .inl (.ofNat 0), .inl (.ofNat 0), .inl (.ofNat 0), .inl (.ofNat 0), .inl (.ofNat 0), .inl (.ofNat 0), .inl (.ofNat 0), .inl (.ofNat 0), .inl (.ofNat 0), .inl (.ofNat 0), .inl (.ofNat 0), .inl (.ofNat 0), .inl (.ofNat 0), .inl (.ofNat 0), .inl (.ofNat 0), .inl (.ofNat 0), .inl (.ofNat 0), .inl (.ofNat 0), .inl (.ofNat 0), .inl (.ofNat 0), .inl (.ofNat 0), .inl (.ofNat 0), .inl (.ofNat 0), .inl (.ofNat 0), .inl (.ofNat 0), .inl (.ofNat 0), .inl (.ofNat 0), .inl (.ofNat 0), .inl (.ofNat 0), .inl (.ofNat 0), .inl (.ofNat 0), .inl (.ofNat 0), .inl (.ofNat 0), .inl (.ofNat 0), .inl (.ofNat 0), .inl (.ofNat 0), .inl (.ofNat 0), .inl (.ofNat 0), .inl (.ofNat 0), .inl (.ofNat 0), .inl (.ofNat 0), .inl (.ofNat 0), .inl (.ofNat 0), .inl (.ofNat 0), .inl (.ofNat 0), .inl (.ofNat 0), .inl (.ofNat 0), .inl (.ofNat 0), .inl (.ofNat 0), .inl (.ofNat 0), .inl (.ofNat 0), .inl (.ofNat 0), .inl (.ofNat 0), .inl (.ofNat 0), .inl (.ofNat 0), .inl (.ofNat 0), .inl (.ofNat 0), .inl (.ofNat 0), .inl (.ofNat 0), .inl (.ofNat 0), .inl (.ofNat 0), .inl (.ofNat 0), .inl (.ofNat 0), .inl (.ofNat 0), .inl (.ofNat 0), .inl (.ofNat 0), .inl (.ofNat 0), .inl (.ofNat 0), .inl (.ofNat 0), .inl (.ofNat 0), .inl (.ofNat 0), .inl (.ofNat 0), .inl (.ofNat 0), .inl (.ofNat 0), .inl (.ofNat 0), .inl (.ofNat 0), .inl (.ofNat 0), .inl (.ofNat 0), .inl (.ofNat 0), .inl (.ofNat 0), .inl (.ofNat 0), .inl (.ofNat 0), .inl (.ofNat 0), .inl (.ofNat 0), .inl (.ofNat 0), .inl (.ofNat 0), .inl (.ofNat 0), .inl (.ofNat 0), .inl (.ofNat 0), .inl (.ofNat 0), .inl (.ofNat 0), .inl (.ofNat 0), .inl (.ofNat 0), .inl (.ofNat 0), .inl (.ofNat 0), .inl (.ofNat 0), .inl (.ofNat 0), .inl (.ofNat 0), .inl (.ofNat 0), .inl (.ofNat 0), .inl (.ofNat 0), .inl (.ofNat 0), .inl (.ofNat 0), .inl (.ofNat 0), .inl (.ofNat 0), .inl (.ofNat 0), .inl (.ofNat 0), .inl (.ofNat 0), .inl (.ofNat 0), .inl (.ofNat 0), .inl (.ofNat 0), .inl (.ofNat 0), .inl (.ofNat 0), .inl (.ofNat 0), .inl (.ofNat 0), .inl (.ofNat 0)])
def hc_168 : AE := .inl (0, [.inl (.ofNat 0), .inl (.ofNat 0), .inl (.ofNat 0), .inl (.ofNat 0), .inl (.ofNat 0), .inl (.ofNat 0), .inl (.ofNat 0), .inl (.ofNat 0)])
def hc_169 : AE := .inl (0, [.inl (.ofNat 0), .inl (.ofNat 0), .inl (.ofNat 0), .inl (.ofNat 0), .inl (.ofNat 0), .inl (.ofNat 0), .inl (.ofNat 0), .inl (.ofNat 0)])
def hc_170 : AE := .inl (0, [.inl (.ofNat 0), .inl (.ofNat 0), .inl (.ofNat 0), .inl (.ofNat 0), .inl (.ofNat 0), .inl (.ofNat 0), .inl (.ofNat 0), .inl (.ofNat 0), .inl (.ofNat 0)])
def hc_171 : AE := .inl (0, [.inl (.ofNat 0), .inl (.ofNat 0), .inl (.ofNat 0), .inl (.ofNat 0), .inl (.ofNat 0), .inl (.ofNat 0), .inl (.ofNat 0), .inl (.ofNat 0)])
def hc_172 : AE := .inl (0, [.inl (.ofNat 0), .inl (.ofNat 0), .inl (.ofNat 0), .inl (.ofNat 0), .inl (.ofNat 0), .inl (.ofNat 0), .inl (.ofNat 0), .inl (.ofNat 0)])
def hA_0 : List AE := [hc_0, hc_1, hc_2, hc_3, hc_4, hc_5, hc_6, hc_7, hc_8, hc_9, hc_10, hc_11, hc_12, hc_13, hc_14, hc_15]
def hA_1 : List AE := [hc_16, hc_17, hc_18, hc_19, hc_20, hc_21, hc_22, hc_23, hc_24, hc_25, hc_26, hc_27, hc_28, hc_29, hc_30, hc_31]
def hA_2 : List AE := [hc_32, hc_33, hc_34, hc_35, hc_36, hc_37, hc_38, hc_39, hc_40, hc_41, hc_42, hc_43, hc_44, hc_45, hc_46, hc_47]
def hA_3 : List AE := [hc_48, hc_49, hc_50, hc_51, hc_52, hc_53, hc_54, hc_55, hc_56, hc_57, hc_58, hc_59, hc_60, hc_61, hc_62, hc_63]
def hA_4 : List AE := [hc_64, hc_65, hc_66, hc_67, hc_68, hc_69, hc_70, hc_71, hc_72, hc_73, hc_74, hc_75, hc_76, hc_77, hc_78, hc_79]
def hA_5 : List AE := [hc_80, hc_81, hc_82, hc_83, hc_84, hc_85, hc_86, hc_87, hc_88, hc_89, hc_90, hc_91, hc_92, hc_93, hc_94, hc_95]
def hA_6 : List AE := [hc_96, hc_97, hc_98, hc_99, hc_100, hc_101, hc_102, hc_103, hc_104, hc_105, hc_106, hc_107, hc_108, hc_109, hc_110, hc_111]
def hA_7 : List AE := [hc_112, hc_113, hc_114, hc_115, hc_116, hc_117, hc_118, hc_119, hc_120, hc_121, hc_122, hc_123, hc_124, hc_125, hc_126, hc_127]
def hA_8 : List AE := [hc_128, hc_129, hc_130, hc_131, hc_132, hc_133, hc_134, hc_135, hc_136, hc_137, hc_138, hc_139, hc_140, hc_141, hc_142, .inl (99, [])]
def hA_9 : List AE := [.inl (99, []), .inl (99, []), .inl (99, []), .inl (99, []), .inl (99, []), .inl (99, []), .inl (99, []), .inl (99, []), .inl (99, []), .inl (99, []), .inl (99, []), .inl (99, []), .inl (99, []), .inl (99, []), .inl (99, []), .inl (99, [])]
def hA_10 : List AE := [.inl (99, []), .inl (99, []), .inl (99, []), .inl (99, []), .inl (99, []), .inl (99, []), .inl (99, []), .inl (99, []), .inl (99, []), .inl (99, []), .inl (99, []), .inl (99, []), .inl (99, []), .inl (99, []), .inl (99, []), .inl (99, [])]
def hA : HT := [hA_0, hA_1, hA_2, hA_3, hA_4, hA_5, hA_6, hA_7, hA_8, hA_9, hA_10]
def hM_0 : List AE := [hc_0, hc_1, hc_2, hc_3, hc_4, hc_5, hc_6, hc_7, hc_8, hc_9, hc_10, hc_11, hc_12, hc_13, hc_14, hc_15]
def hM_1 : List AE := [hc_16, hc_17, hc_18, hc_19, hc_20, hc_21, hc_22, hc_23, hc_24, hc_25, hc_26, hc_27, hc_28, hc_29, hc_30, hc_31]
def hM_2 : List AE := [hc_32, hc_33, hc_34, hc_35, hc_36, hc_37, hc_38, hc_39, hc_40, hc_41, hc_42, hc_43, hc_44, hc_45, hc_46, hc_47]
def hM_3 : List AE := [hc_48, hc_49, hc_50, hc_51, hc_52, hc_53, hc_54, hc_55, hc_56, hc_57, hc_58, hc_59, hc_60, hc_61, hc_62, hc_63]
def hM_4 : List AE := [hc_64, hc_65, hc_66, hc_67, hc_68, hc_69, hc_70, hc_71, hc_72, hc_73, hc_74, hc_75, hc_76, hc_77, hc_78, hc_79]
def hM_5 : List AE := [hc_80, hc_81, hc_82, hc_83, hc_84, hc_85, hc_86, hc_87, hc_88, hc_89, hc_90, hc_91, hc_92, hc_93, hc_94, hc_95]
def hM_6 : List AE := [hc_96, hc_97, hc_98, hc_99, hc_100, hc_101, hc_102, hc_103, hc_104, hc_105, hc_106, hc_107, hc_108, hc_109, hc_110, hc_111]
def hM_7 : List AE := [hc_112, hc_113, hc_114, hc_115, hc_116, hc_117, hc_118, hc_119, hc_120, hc_121, hc_122, hc_123, hc_124, hc_125, hc_126, hc_127]
def hM_8 : List AE := [hc_128, hc_129, hc_130, hc_131, hc_132, hc_133, hc_134, hc_135, hc_136, hc_137, hc_138, hc_139, hc_140, hc_141, hc_142, .inr (10, dW_10)]
def hM_9 : List AE := [.inl (99, []), .inl (99, []), .inl (99, []), .inl (99, []), .inl (99, []), .inl (99, []), .inl (99, []), .inl (99, []), .inl (99, []), .inl (99, []), .inl (99, []), .inl (99, []), .inl (99, []), .inl (99, []), .inl (99, []), .inl (99, [])]
def hM_10 : List AE := [.inl (99, []), .inl (99, []), .inl (99, []), .inl (99, []), .inl (99, []), .inl (99, []), .inl (99, []), .inl (99, []), .inl (99, []), .inl (99, []), .inl (99, []), .inl (99, []), .inl (99, []), .inl (99, []), .inl (99, []), .inl (99, [])]
def hM : HT := [hM_0, hM_1, hM_2, hM_3, hM_4, hM_5, hM_6, hM_7, hM_8, hM_9, hM_10]
def hB_0 : List AE := [hc_0, hc_1, hc_2, hc_3, hc_4, hc_5, hc_6, hc_7, hc_8, hc_9, hc_10, hc_11, hc_12, hc_13, hc_14, hc_15]
def hB_1 : List AE := [hc_16, hc_17, hc_18, hc_19, hc_20, hc_21, hc_22, hc_23, hc_24, hc_25, hc_26, hc_27, hc_28, hc_29, hc_30, hc_31]
def hB_2 : List AE := [hc_32, hc_33, hc_34, hc_35, hc_36, hc_37, hc_38, hc_39, hc_40, hc_41, hc_42, hc_43, hc_44, hc_45, hc_46, hc_47]
def hB_3 : List AE := [hc_48, hc_49, hc_50, hc_51, hc_52, hc_53, hc_54, hc_55, hc_56, hc_57, hc_58, hc_59, hc_60, hc_61, hc_62, hc_63]
def hB_4 : List AE := [hc_64, hc_65, hc_66, hc_67, hc_68, hc_69, hc_70, hc_71, hc_72, hc_73, hc_74, hc_75, hc_76, hc_77, hc_78, hc_79]
def hB_5 : List AE := [hc_80, hc_81, hc_82, hc_83, hc_84, hc_85, hc_86, hc_87, hc_88, hc_89, hc_90, hc_91, hc_92, hc_93, hc_94, hc_95]
def hB_6 : List AE := [hc_96, hc_97, hc_98, hc_99, hc_100, hc_101, hc_102, hc_103, hc_104, hc_105, hc_106, hc_107, hc_108, hc_109, hc_110, hc_111]
def hB_7 : List AE := [hc_112, hc_113, hc_114, hc_115, hc_116, hc_117, hc_118, hc_119, hc_120, hc_121, hc_122, hc_123, hc_124, hc_125, hc_126, hc_127]
def hB_8 : List AE := [hc_128, hc_129, hc_130, hc_131, hc_132, hc_133, hc_134, hc_135, hc_136, hc_137, hc_138, hc_139, hc_140, hc_141, hc_142, hc_143]
def hB_9 : List AE := [hc_144, hc_145, hc_146, hc_147, hc_148, hc_149, hc_150, hc_151, hc_152, hc_153, hc_154, hc_155, hc_156, hc_157, hc_158, hc_159]
def hB_10 : List AE := [hc_160, hc_161, hc_162, hc_163, hc_164, hc_165, hc_166, hc_167, hc_168, hc_169, hc_170, hc_171, hc_172, .inl (99, []), .inl (99, []), .inl (99, [])]
def hB : HT := [hB_0, hB_1, hB_2, hB_3, hB_4, hB_5, hB_6, hB_7, hB_8, hB_9, hB_10]
def h9_0 : List AE := [.inr (9, dW_9), .inl (99, []), .inl (99, []), .inl (99, []), .inl (99, []), .inl (99, []), .inl (99, []), .inl (99, []), .inl (99, []), .inl (99, []), .inl (99, []), .inl (99, []), .inl (99, []), .inl (99, []), .inl (99, []), .inl (99, [])]
def h9_1 : List AE := [.inl (99, []), .inl (99, []), .inl (99, []), .inl (99, []), .inl (99, []), .inl (99, []), .inl (99, []), .inl (99, []), .inl (99, []), .inl (99, []), .inl (99, []), .inl (99, []), .inl (99, []), .inl (99, []), .inl (99, []), .inl (99, [])]
def h9_2 : List AE := [.inl (99, []), .inl (99, []), .inl (99, []), .inl (99, []), .inl (99, []), .inl (99, []), .inl (99, []), .inl (99, []), .inl (99, []), .inl (99, []), .inl (99, []), .inl (99, []), .inl (99, []), .inl (99, []), .inl (99, []), .inl (99, [])]
def h9_3 : List AE := [.inl (99, []), .inl (99, []), .inl (99, []), .inl (99, []), .inl (99, []), .inl (99, []), .inl (99, []), .inl (99, []), .inl (99, []), .inl (99, []), .inl (99, []), .inl (99, []), .inl (99, []), .inl (99, []), .inl (99, []), .inl (99, [])]
def h9_4 : List AE := [.inl (99, []), .inl (99, []), .inl (99, []), .inl (99, []), .inl (99, []), .inl (99, []), .inl (99, []), .inl (99, []), .inl (99, []), .inl (99, []), .inl (99, []), .inl (99, []), .inl (99, []), .inl (99, []), .inl (99, []), .inl (99, [])]
def h9_5 : List AE := [.inl (99, []), .inl (99, []), .inl (99, []), .inl (99, []), .inl (99, []), .inl (99, []), .inl (99, []), .inl (99, []), .inl (99, []), .inl (99, []), .inl (99, []), .inl (99, []), .inl (99, []), .inl (99, []), .inl (99, []), .inl (99, [])]
def h9_6 : List AE := [.inl (99, []), .inl (99, []), .inl (99, []), .inl (99, []), .inl (99, []), .inl (99, []), .inl (99, []), .inl (99, []), .inl (99, []), .inl (99, []), .inl (99, []), .inl (99, []), .inl (99, []), .inl (99, []), .inl (99, []), .inl (99, [])]
def h9_7 : List AE := [.inl (99, []), .inl (99, []), .inl (99, []), .inl (99, []), .inl (99, []), .inl (99, []), .inl (99, []), .inl (99, []), .inl (99, []), .inl (99, []), .inl (99, []), .inl (99, []), .inl (99, []), .inl (99, []), .inl (99, []), .inl (99, [])]
def h9_8 : List AE := [.inl (99, []), .inl (99, []), .inl (99, []), .inl (99, []), .inl (99, []), .inl (99, []), .inl (99, []), .inl (99, []), .inl (99, []), .inl (99, []), .inl (99, []), .inl (99, []), .inl (99, []), .inl (99, []), .inl (99, []), .inl (99, [])]
def h9_9 : List AE := [.inl (99, []), .inl (99, []), .inl (99, []), .inl (99, []), .inl (99, []), .inl (99, []), .inl (99, []), .inl (99, []), .inl (99, []), .inl (99, []), .inl (99, []), .inl (99, []), .inl (99, []), .inl (99, []), .inl (99, []), .inl (99, [])]
def h9_10 : List AE := [.inl (99, []), .inl (99, []), .inl (99, []), .inl (99, []), .inl (99, []), .inl (99, []), .inl (99, []), .inl (99, []), .inl (99, []), .inl (99, []), .inl (99, []), .inl (99, []), .inl (99, []), .inl (99, []), .inl (99, []), .inl (99, [])]
def h9 : HT := [h9_0, h9_1, h9_2, h9_3, h9_4, h9_5, h9_6, h9_7, h9_8, h9_9, h9_10]
def vEq (x y : AV) : Bool := match x, y with
  | .inl x, .inl y => bEq x y
  | .inr (.inr (.ref a)), .inr (.inr (.ref b)) => Nat.beq a b
  | .inr (.inr .null), .inr (.inr .null) => true
  | .inr (.inr (.retAddr a)), .inr (.inr (.retAddr b)) => Nat.beq a b
  | .inr (.inr (.long x)), .inr (.inr (.long y)) => decide (x = y)
  | _, _ => false
theorem vEq_ok {x y : AV} (h : vEq x y = true) : x = y := by
  unfold vEq at h
  split at h
  · rw [bEq_iff.mp h]
  · rw [beq_iff.mp h]
  · rfl
  · rw [beq_iff.mp h]
  · rw [of_decide_eq_true h]
  · cases h
def lEqG {α : Type} (f : α → α → Bool) : List α → List α → Bool
  | [], [] => true
  | a :: l, b :: m => (match f a b with
    | true => lEqG f l m
    | false => false)
  | _, _ => false
theorem lEqG_ok {α : Type} {f : α → α → Bool} (hf : ∀ a b, f a b = true → a = b) : ∀ {l m : List α}, lEqG f l m = true → l = m
  | [], [], _ => rfl
  | [], _ :: _, h => by cases (show false = true from h)
  | _ :: _, [], h => by cases (show false = true from h)
  | a :: l, b :: m, h => by
    have h1 : (match f a b with | true => lEqG f l m | false => false) = true := by rw [lEqG] at h; exact h
    split at h1
    · rename_i q
      rw [hf a b q, lEqG_ok hf h1]
    · cases h1
def eEq (x y : AE) : Bool := match x, y with
  | .inl (t, l), .inl (u, m) => Nat.beq t u && lEqG vEq l m
  | .inr (t, l), .inr (u, m) => Nat.beq t u && lEqG vEq l m
  | _, _ => false
theorem eEq_ok {x y : AE} (h : eEq x y = true) : x = y := by
  unfold eEq at h
  split at h
  · rw [Bool.and_eq_true] at h
    rw [beq_iff.mp h.1, lEqG_ok (fun _ _ q => vEq_ok q) h.2]
  · rw [Bool.and_eq_true] at h
    rw [beq_iff.mp h.1, lEqG_ok (fun _ _ q => vEq_ok q) h.2]
  · cases h
/-! the constructors run -/
def rtH (n : Nat) (H : HT) : RT := fun _ q m h => match q with
  | .inl none => Nat.beq m n && lEqG (lEqG eEq) h H
  | _ => false
def QH (θ : Nat → Int32) (n : Nat) (H : HT) (r : Rs) (h' : PH) : Prop := r = .inl none ∧ hR θ n H h'
theorem rtH_ok {θ : Nat → Int32} {n : Nat} {H : HT} : RTOK θ (rtH n H) (QH θ n H) := by
  intro env q m h h1 he r h' hr hh
  unfold rtH at h1
  split at h1
  · rw [Bool.and_eq_true, beq_iff] at h1
    obtain ⟨e1, e2⟩ := h1
    have e2 := lEqG_ok (fun _ _ q => lEqG_ok (fun _ _ q => eEq_ok q) q) e2
    subst e1
    subst e2
    refine ⟨?_, hh⟩
    cases r with
    | inr e => exact False.elim hr
    | inl w => cases w with
      | none => rfl
      | some v => exact absurd (show [v] = [] from hr) (by simp)
  · cases h1
set_option maxRecDepth 100000 in
theorem runA : aM 0 100000 mtW 20 0 E_0 [] [.inr (.inr (.ref 0)), aU] 1 h9 (rtH 143 hA) = true := by decide +kernel
set_option maxRecDepth 100000 in
theorem runB : aM 0 100000 mtW 20 224 E_224 [] [.inr (.inr (.ref 143)), aU] 144 hM (rtH 173 hB) = true := by decide +kernel
theorem eR0 {θ : Nat → Int32} : eR θ [] := fun t r h => by simp at h
theorem lRc {θ : Nat → Int32} {a : Nat} : lR θ [.inr (.inr (.ref a)), aU] (lv_args 0 [.ref a]) := by
  intro i v hv
  rcases i with _ | _ | i
  · cases hv; exact Or.inr ⟨_, rfl, rfl, rfl⟩
  · cases hv; exact Or.inl rfl
  · simp at hv
theorem cA {θ : Nat → Int32} {h : PH} (hh : hR θ 1 h9 h) : Ex (0, θ) 24 0 [.ref 0] h (QH θ 143 hA) := ((aM_ok mtW_ok 20) 0 E_0 [] _ 1 h9 _ rfl runA).2.2 _ _ _ eR0 lRc rfl hh rtH_ok
theorem cB {θ : Nat → Int32} {h : PH} (hh : hR θ 144 hM h) : Ex (0, θ) 24 224 [.ref 143] h (QH θ 173 hB) := ((aM_ok mtW_ok 20) 224 E_224 [] _ 144 hM _ rfl runB).2.2 _ _ _ eR0 lRc rfl hh rtH_ok
/-! a method that never looks at the script doesn't mind which it is -/
def inG (μ : Nat) : Bool := Nat.ble μ 9 || Nat.beq μ 224
def gOK (te : TE) : Bool := match te.2.1 with
  | .arraylength => false
  | .invokevirtual _ => inG te.2.2.1
  | .invokestatic _ => inG te.2.2.1
  | .invokespecial _ => inG te.2.2.1
  | _ => true
theorem call_S {C C' : CXW} (hC : ∀ μ, inG μ = true → ∀ av h Q, C μ av h Q → C' μ av h Q) {M : PM} {hd : List (Nat × Nat × Nat × Int)} {Q : Rs → PH → Prop} {K : Kt} {pc μ : Nat} (hg : inG μ = true) {virt : Bool} {lv : LV} {st : List Value} {h : PH} {c s : Nat} (H : p_call C M hd Q K pc μ virt lv st h c s) : p_call C' M hd Q K pc μ virt lv st h c s := by
  unfold p_call at H ⊢
  split at H
  · exact H.elim
  · obtain ⟨h1, h2, h3, h4, h5, h6⟩ := H
    exact ⟨h1, h2, h3, h4, h5, hC _ hg _ _ _ h6⟩
theorem pmI_S {θ : Nat → Int32} {S : Nat × (Nat → Int32)} {C C' : CXW} (hC : ∀ μ, inG μ = true → ∀ av h Q, C μ av h Q → C' μ av h Q) {M : PM} {hd : List (Nat × Nat × Nat × Int)} {Q : Rs → PH → Prop} {K : Kt} {te : TE} (hg : gOK te = true) {lv : LV} {st : List Value} {h : PH} {c s : Nat} (H : pmI C (0, θ) M hd Q K te lv st h c s) : pmI C' S M hd Q K te lv st h c s := by
  obtain ⟨pc, ins, ta, tb⟩ := te
  cases ins
  case arraylength => cases hg
  case iaload =>
    have H : p_iald (0, θ) h st (fun st => K (pc + 1) lv st h c s) := H
    show p_iald S h st (fun st => K (pc + 1) lv st h c s)
    unfold p_iald at H ⊢
    split at H
    · exact H
    · have := vp_in_iff.mp H.1
      omega
    · exact H.elim
  case invokevirtual i => exact call_S hC hg H
  case invokestatic i =>
    rcases H with H | ⟨h1, H⟩
    · exact Or.inl H
    · exact Or.inr ⟨h1, call_S hC hg H⟩
  case invokespecial i =>
    rcases H with H | ⟨h1, H⟩
    · exact Or.inl H
    · exact Or.inr ⟨h1, call_S hC hg H⟩
  all_goals exact H
theorem G_ok {μ : Nat} {M : PM} (h : inG μ = true) (hM : MT[μ]? = some M) : ∀ te ∈ pT M, gOK te = true := by
  have a : μ = 0 ∨ μ = 1 ∨ μ = 2 ∨ μ = 3 ∨ μ = 4 ∨ μ = 5 ∨ μ = 6 ∨ μ = 7 ∨ μ = 8 ∨ μ = 9 ∨ μ = 224 := by
    unfold inG at h
    rw [Bool.or_eq_true, beq_iff] at h
    rcases h with h | h
    · have := Nat.le_of_ble_eq_true h; omega
    · omega
  have b : (pT M).all gOK = true := by
    rcases a with a | a | a | a | a | a | a | a | a | a | a <;> subst a <;> cases hM <;> decide +kernel
  exact fun te hte => List.all_eq_true.mp b te hte
theorem Ex_S {θ : Nat → Int32} {S : Nat × (Nat → Int32)} : ∀ (n μ : Nat), inG μ = true → ∀ (av : List Value) (h : PH) (Q : Rs → PH → Prop), Ex (0, θ) n μ av h Q → Ex S n μ av h Q := by
  intro n
  induction n with
  | zero => intro μ _ av h Q H; exact H.elim
  | succ n ih =>
    intro μ hg av h Q ⟨M, h1, h2, H⟩
    refine ⟨M, h1, h2, fun X hX => H X (fun pc lv st h c s ⟨te, h3, h4⟩ => hX _ _ _ _ _ _ ⟨te, h3, pmI_S (fun μ q av h Q w => ih μ q av h Q w) (G_ok hg h1 te (List.mem_of_find?_eq_some h3)) h4⟩)⟩
/-! the start: what the first heap holds -/
theorem hget_ge {H : HT} (hl : H.length = 11) {a : Nat} (h : 176 ≤ a) : hget H a = none := by
  unfold hget
  rw [lget_eq, List.getElem?_eq_none (by rw [hl]; show 11 ≤ a / 16; omega)]
def padC (c : AE) : Bool := eEq c (.inl (99, []))
theorem all_lt {n : Nat} {p : Nat → Bool} (h : (List.range n).all p = true) {i : Nat} (hi : i < n) : p i = true := List.all_eq_true.mp h i (List.mem_range.mpr hi)
theorem hR9 {θ : Nat → Int32} : hR θ 1 h9 [.inr (9, dflt 9)] := by
  refine ⟨rfl, fun a c hc => ?_⟩
  by_cases a0 : a = 0
  · subst a0
    cases hc
    exact Or.inr ⟨_, rfl, rfl, ⟨_, _, rfl, rfl, _, _, rfl, rfl, _, _, rfl, rfl, _, _, rfl, rfl, _, _, rfl, rfl, _, _, rfl, rfl, _, _, rfl, rfl, _, _, rfl, rfl, _, _, rfl, rfl, _, _, rfl, rfl, _, _, rfl, ⟨0, rfl, rfl⟩, _, _, rfl, ⟨0, rfl, rfl⟩, rfl⟩⟩
  · left
    have h1 : (List.range 176).all (fun a => Nat.beq a 0 || match hget h9 a with | some c => padC c | none => true) = true := by decide +kernel
    by_cases h2 : a < 176
    · have := all_lt h1 h2
      rw [Bool.or_eq_true, beq_iff] at this
      rcases this with q | q
      · exact absurd q a0
      · rw [hc] at q; exact eEq_ok q
    · rw [hget_ge rfl (by omega)] at hc; cases hc
theorem hRM {θ : Nat → Int32} {h : PH} (hh : hR θ 143 hA h) : hR θ 144 hM (h ++ [.inr (10, dflt 10)]) := by
  have hl := hh.1
  refine ⟨by rw [List.length_append, hl]; rfl, fun a c hc => ?_⟩
  by_cases a0 : a = 143
  · subst a0
    cases hc
    exact Or.inr ⟨.inr (10, dflt 10), by rw [List.getElem?_append_right (by omega), hl]; rfl, rfl, ⟨_, _, rfl, ⟨0, rfl, rfl⟩, _, _, rfl, ⟨0, rfl, rfl⟩, _, _, rfl, rfl, _, _, rfl, rfl, _, _, rfl, rfl, _, _, rfl, rfl, _, _, rfl, rfl, _, _, rfl, rfl, _, _, rfl, rfl, _, _, rfl, rfl, _, _, rfl, rfl, _, _, rfl, rfl, _, _, rfl, ⟨0, rfl, rfl⟩, _, _, rfl, rfl, _, _, rfl, rfl, _, _, rfl, rfl, _, _, rfl, rfl, _, _, rfl, rfl, _, _, rfl, ⟨0, rfl, rfl⟩, _, _, rfl, rfl, _, _, rfl, rfl, _, _, rfl, rfl, _, _, rfl, rfl, _, _, rfl, rfl, _, _, rfl, rfl, _, _, rfl, ⟨0, rfl, rfl⟩, _, _, rfl, rfl, _, _, rfl, rfl, _, _, rfl, rfl, _, _, rfl, rfl, _, _, rfl, rfl, _, _, rfl, ⟨0, rfl, rfl⟩, _, _, rfl, ⟨0, rfl, rfl⟩, _, _, rfl, ⟨0, rfl, rfl⟩, _, _, rfl, rfl, _, _, rfl, rfl, _, _, rfl, rfl, rfl⟩⟩
  · have h1 : (List.range 176).all (fun a => Nat.beq a 143 || match hget hM a, hget hA a with | some c, some d => eEq c d | none, none => true | _, _ => false) = true := by decide +kernel
    by_cases h2 : a < 176
    · have := all_lt h1 h2
      rw [Bool.or_eq_true, beq_iff] at this
      rcases this with q | q
      · exact absurd q a0
      · rw [hc] at q
        cases e : hget hA a with
        | none => rw [e] at q; cases q
        | some d =>
          rw [e] at q
          have q2 : c = d := eEq_ok q
          subst q2
          rcases hh.2 a c e with w | ⟨y, w1, w2⟩
          · exact Or.inl w
          · exact Or.inr ⟨y, by rw [List.getElem?_append_left (List.getElem?_eq_some_iff.mp w1).1]; exact w1, w2⟩
    · rw [hget_ge rfl (by omega)] at hc; cases hc
/-- the shape that a cell has -/
def fdS (v : AV) : Option (Option Nat) := match v with
  | .inl _ => some none
  | .inr (.inr (.ref A)) => some (some A)
  | _ => none
def lsS : LW → List (Option Nat) → Bool
  | [], [] => true
  | a :: l, s :: r => (match fdS a with
    | some q => decide (q = s)
    | none => false) && lsS l r
  | _, _ => false
def cSh (c : AE) (s : SH) : Bool := match c, s with
  | .inl (0, l), .inl n => Nat.beq l.length n
  | .inr (ci, l), .inr (cj, fs) => Nat.beq ci cj && lsS l fs
  | _, _ => false
theorem A2.atI {θ : Nat → Int32} : ∀ {l : LW} {l' : List Value} {fs : List (Option Nat)}, A2 (vR θ) l l' → lsS l fs = true → l'.length = fs.length ∧ ∀ i : Nat, match fs[i]? with
    | some none => ∃ z, l'[i]? = some (Value.int z)
    | some (some A) => l'[i]? = some (Value.ref A)
    | none => True
  | [], l', [], h, _ => by
    have h : l' = [] := h
    subst h
    exact ⟨rfl, fun i => by simp⟩
  | [], _, _ :: _, _, h => by cases h
  | _ :: _, _, [], _, h => by cases h
  | a :: l, l', s :: r, h, hs => by
    obtain ⟨w, r', rfl, h1, h2⟩ := h
    unfold lsS at hs
    rw [Bool.and_eq_true] at hs
    have ih := A2.atI h2 hs.2
    refine ⟨by rw [List.length_cons, List.length_cons, ih.1], fun i => ?_⟩
    cases i with
    | succ i => simpa using ih.2 i
    | zero =>
      have hs := hs.1
      split at hs
      · rename_i q hq
        have hs := of_decide_eq_true hs
        subst hs
        unfold fdS at hq
        split at hq
        · cases hq
          obtain ⟨y, e, -⟩ := h1
          exact ⟨y, by rw [e]; rfl⟩
        · cases hq
          have h1 : w = .ref _ := h1
          subst h1
          rfl
        · cases hq
      · cases hs
theorem A2.atV {θ : Nat → Int32} : ∀ {l : LW} {l' : List Value} {i : Nat} {x : Int}, A2 (vR θ) l l' → l[i]? = some (.inl x) → ∃ z, l'[i]? = some (Value.int z) ∧ z.toInt = x
  | [], _, i, x, _, h => by simp at h
  | a :: l, l', 0, x, h, hx => by
    obtain ⟨w, r', rfl, h1, h2⟩ := h
    cases hx
    obtain ⟨y, e, e2⟩ := h1
    exact ⟨y, by rw [e]; rfl, e2⟩
  | a :: l, l', i + 1, x, h, hx => by
    obtain ⟨w, r', rfl, h1, h2⟩ := h
    simpa using A2.atV h2 (show l[i]? = some (.inl x) by simpa using hx)
theorem sh_of {θ : Nat → Int32} {c : AE} {y : PE} {s : SH} {h : PH} {A : Nat} (hy : h[A]? = some y) (hc : cR θ c y) (hs : cSh c s = true) : shR s (memOf h A) y := by
  unfold cSh at hs
  split at hs
  · rename_i l n
    rw [beq_iff] at hs
    subst hs
    cases y with
    | inr q => exact False.elim hc
    | inl q =>
      obtain ⟨t, n, g⟩ := q
      cases t with
      | succ t => exact False.elim hc
      | zero => cases g with
        | inr g => exact False.elim hc
        | inl g =>
          obtain ⟨e, -⟩ := (show n = l.length ∧ _ from hc)
          subst e
          exact ⟨g, rfl, fun i => memOf_row hy⟩
  · rename_i ci l cj fs
    rw [Bool.and_eq_true, beq_iff] at hs
    obtain ⟨e, hs⟩ := hs
    subst e
    cases y with
    | inl q => exact False.elim hc
    | inr q =>
      obtain ⟨ck, gs⟩ := q
      obtain ⟨e, hA⟩ := (show ck = ci ∧ A2 (vR θ) l gs from hc)
      subst e
      have w := A2.atI hA hs
      refine ⟨gs, rfl, w.1, fun i => ?_⟩
      have w2 := w.2 i
      split
      · rename_i q; rw [q] at w2; first | exact w2 | (obtain ⟨z, e⟩ := w2; exact ⟨z, e, memOf_fld hy e⟩)
      · rename_i q; rw [q] at w2; first | exact w2 | (obtain ⟨z, e⟩ := w2; exact ⟨z, e, memOf_fld hy e⟩)
      · trivial
  · cases hs
/-- what the table says of a cell -/
noncomputable def tvI (A i : Nat) : Option Int := match hget hB A with
  | some (.inl (0, l)) => (match l[i]? with | some (.inl x) => some x | _ => none)
  | some (.inr (_, l)) => (match l[i]? with | some (.inl x) => some x | _ => none)
  | _ => none
def St (θ : Nat → Int32) (h : PH) : Prop := hR θ 173 hB h
theorem St.val {θ : Nat → Int32} {h : PH} (hh : St θ h) {A i : Nat} {x : Int} (e : tvI A i = some x) : memOf h A i = x := by
  unfold tvI at e
  split at e
  · rename_i l hl
    split at e
    · rename_i z hz
      cases e
      rcases hh.2 A _ hl with w | ⟨y, w1, w2⟩
      · cases w
      · cases y with
        | inr q => exact False.elim w2
        | inl q =>
          obtain ⟨t, n, g⟩ := q
          cases t with
          | succ t => exact False.elim w2
          | zero => cases g with
            | inr g => exact False.elim w2
            | inl g =>
              obtain ⟨-, w3⟩ := (show n = l.length ∧ ∀ (j : Nat) (a : AV), l[j]? = some a → vR θ a (.int (g j)) from w2)
              obtain ⟨y, e1, e2⟩ := w3 i _ hz
              rw [memOf_row w1]
              cases e1
              exact e2
    · cases e
  · rename_i ci l hl
    split at e
    · rename_i z hz
      cases e
      rcases hh.2 A _ hl with w | ⟨y, w1, w2⟩
      · cases w
      · cases y with
        | inl q => exact False.elim w2
        | inr q =>
          obtain ⟨ck, gs⟩ := q
          obtain ⟨e, hA⟩ := (show ck = ci ∧ A2 (vR θ) l gs from w2)
          obtain ⟨z, e1, e2⟩ := A2.atV hA hz
          rw [memOf_fld w1 e1]; exact e2
    · cases e
  · cases e
noncomputable def ckI (A i : Nat) (lo hi : Int) : Bool := match tvI A i with
  | some x => decide (lo ≤ x) && decide (x ≤ hi)
  | none => false
theorem rg1 {θ : Nat → Int32} {h : PH} (hh : St θ h) (A i : Nat) (lo hi : Int) (e : ckI A i lo hi = true) : lo ≤ memOf h A i ∧ memOf h A i ≤ hi := by
  unfold ckI at e
  split at e
  · rename_i x hx
    rw [hh.val hx]
    rw [Bool.and_eq_true] at e
    exact ⟨of_decide_eq_true e.1, of_decide_eq_true e.2⟩
  · cases e
theorem rgn {θ : Nat → Int32} {h : PH} (hh : St θ h) (A n : Nat) (lo hi : Int) (e : (List.range n).all (fun i => ckI A i lo hi) = true) (i : Nat) (hi_ : i < n) : lo ≤ memOf h A i ∧ memOf h A i ≤ hi := rg1 hh A i lo hi (all_lt e hi_)
theorem St.rg {θ : Nat → Int32} {h : PH} (hh : St θ h) {A : Nat} {s : SH} (hA : shA A = some s) : ∃ y, h[A]? = some y ∧ shR s (memOf h A) y := by
  have h1 : (List.range 200).all (fun A => match shA A with | none => true | some s => match hget hB A with | some c => cSh c s && !padC c | none => false) = true := by decide +kernel
  have := all_lt h1 (shA_lt hA)
  rw [hA] at this
  cases e : hget hB A with
  | none => rw [e] at this; cases this
  | some c =>
    rw [e] at this
    have this : (cSh c s && !padC c) = true := this
    rw [Bool.and_eq_true] at this
    rcases hh.2 A c e with w | ⟨y, w1, w2⟩
    · rw [w] at this
      exact absurd this.2 (by decide)
    · exact ⟨y, w1, sh_of w1 w2 this.1⟩
section INI
variable {θ : Nat → Int32} {hp : PH}
theorem St.body (h : St θ hp) : BodyOK (memOf hp) := by
  refine ⟨rg1 h 1 0 0 8 (by decide +kernel), fun o ho => ?_, rgn h 5 6 0 2 (by decide +kernel), rgn h 6 6 1 6 (by decide +kernel), rgn h 7 6 1 15 (by decide +kernel), rgn h 8 3 1 3 (by decide +kernel)⟩
  have k := rgn h 2 8 0 0 (by decide +kernel) o ho
  have p := rgn h 3 32 0 0 (by decide +kernel)
  have p0 := p (4 * o) (by omega)
  have p1 := p (4 * o + 1) (by omega)
  have p2 := p (4 * o + 2) (by omega)
  have p3 := p (4 * o + 3) (by omega)
  unfold BOp srcOK
  omega
theorem St.web (h : St θ hp) : WbOK (memOf hp) 9 ∧ WbOK (memOf hp) 14 := by
  refine ⟨⟨fun j hj => ?_, rg1 h 9 0 0 64 (by decide +kernel)⟩, ⟨fun j hj => ?_, rg1 h 14 0 0 64 (by decide +kernel)⟩⟩
  · have a := rgn h 10 64 0 0 (by decide +kernel) j hj
    have b := rgn h 11 64 0 0 (by decide +kernel) j hj
    have c := rgn h 12 64 0 0 (by decide +kernel) j hj
    have d := rgn h 13 64 0 0 (by decide +kernel) j hj
    show Rg (memOf hp 10 j) (memOf hp 11 j) (memOf hp 12 j) (memOf hp 13 j)
    unfold Rg; omega
  · have a := rgn h 15 64 0 0 (by decide +kernel) j hj
    have b := rgn h 16 64 0 0 (by decide +kernel) j hj
    have c := rgn h 17 64 0 0 (by decide +kernel) j hj
    have d := rgn h 18 64 0 0 (by decide +kernel) j hj
    show Rg (memOf hp 15 j) (memOf hp 16 j) (memOf hp 17 j) (memOf hp 18 j)
    unfold Rg; omega
theorem St.hst (h : St θ hp) : HsOK (memOf hp) := ⟨fun o ho => ⟨rgn h 130 8 0 900 (by decide +kernel) o ho, rgn h 131 8 (-1) 900 (by decide +kernel) o ho⟩, rg1 h 129 0 0 12 (by decide +kernel), rg1 h 129 1 0 1 (by decide +kernel), rg1 h 129 2 0 48 (by decide +kernel)⟩
theorem St.cht (h : St θ hp) : ∀ Q, ChSh Q → ChtOK (memOf hp) Q := by
  intro Q hQ
  obtain ⟨⟨k, hk, rfl⟩, -⟩ := hQ
  have a : k = 0 ∨ k = 1 ∨ k = 2 ∨ k = 3 ∨ k = 4 ∨ k = 5 ∨ k = 6 ∨ k = 7 ∨ k = 8 ∨ k = 9 ∨ k = 10 ∨ k = 11 ∨ k = 12 := by omega
  rcases a with a | a | a | a | a | a | a | a | a | a | a | a | a <;> subst a
  · exact ⟨⟨rg1 h 38 2 0 8 (by decide +kernel), rg1 h 38 3 1 12 (by decide +kernel), rg1 h 38 1 0 1 (by decide +kernel)⟩, fun o ho => ⟨rgn h 39 8 0 11 (by decide +kernel) o ho, rgn h 40 8 0 11000 (by decide +kernel) o ho, rgn h 41 8 0 11010 (by decide +kernel) o ho⟩⟩
  · exact ⟨⟨rg1 h 45 2 0 8 (by decide +kernel), rg1 h 45 3 1 12 (by decide +kernel), rg1 h 45 1 0 1 (by decide +kernel)⟩, fun o ho => ⟨rgn h 46 8 0 11 (by decide +kernel) o ho, rgn h 47 8 0 11000 (by decide +kernel) o ho, rgn h 48 8 0 11010 (by decide +kernel) o ho⟩⟩
  · exact ⟨⟨rg1 h 52 2 0 8 (by decide +kernel), rg1 h 52 3 1 12 (by decide +kernel), rg1 h 52 1 0 1 (by decide +kernel)⟩, fun o ho => ⟨rgn h 53 8 0 11 (by decide +kernel) o ho, rgn h 54 8 0 11000 (by decide +kernel) o ho, rgn h 55 8 0 11010 (by decide +kernel) o ho⟩⟩
  · exact ⟨⟨rg1 h 59 2 0 8 (by decide +kernel), rg1 h 59 3 1 12 (by decide +kernel), rg1 h 59 1 0 1 (by decide +kernel)⟩, fun o ho => ⟨rgn h 60 8 0 11 (by decide +kernel) o ho, rgn h 61 8 0 11000 (by decide +kernel) o ho, rgn h 62 8 0 11010 (by decide +kernel) o ho⟩⟩
  · exact ⟨⟨rg1 h 66 2 0 8 (by decide +kernel), rg1 h 66 3 1 12 (by decide +kernel), rg1 h 66 1 0 1 (by decide +kernel)⟩, fun o ho => ⟨rgn h 67 8 0 11 (by decide +kernel) o ho, rgn h 68 8 0 11000 (by decide +kernel) o ho, rgn h 69 8 0 11010 (by decide +kernel) o ho⟩⟩
  · exact ⟨⟨rg1 h 73 2 0 8 (by decide +kernel), rg1 h 73 3 1 12 (by decide +kernel), rg1 h 73 1 0 1 (by decide +kernel)⟩, fun o ho => ⟨rgn h 74 8 0 11 (by decide +kernel) o ho, rgn h 75 8 0 11000 (by decide +kernel) o ho, rgn h 76 8 0 11010 (by decide +kernel) o ho⟩⟩
  · exact ⟨⟨rg1 h 80 2 0 8 (by decide +kernel), rg1 h 80 3 1 12 (by decide +kernel), rg1 h 80 1 0 1 (by decide +kernel)⟩, fun o ho => ⟨rgn h 81 8 0 11 (by decide +kernel) o ho, rgn h 82 8 0 11000 (by decide +kernel) o ho, rgn h 83 8 0 11010 (by decide +kernel) o ho⟩⟩
  · exact ⟨⟨rg1 h 87 2 0 8 (by decide +kernel), rg1 h 87 3 1 12 (by decide +kernel), rg1 h 87 1 0 1 (by decide +kernel)⟩, fun o ho => ⟨rgn h 88 8 0 11 (by decide +kernel) o ho, rgn h 89 8 0 11000 (by decide +kernel) o ho, rgn h 90 8 0 11010 (by decide +kernel) o ho⟩⟩
  · exact ⟨⟨rg1 h 94 2 0 8 (by decide +kernel), rg1 h 94 3 1 12 (by decide +kernel), rg1 h 94 1 0 1 (by decide +kernel)⟩, fun o ho => ⟨rgn h 95 8 0 11 (by decide +kernel) o ho, rgn h 96 8 0 11000 (by decide +kernel) o ho, rgn h 97 8 0 11010 (by decide +kernel) o ho⟩⟩
  · exact ⟨⟨rg1 h 101 2 0 8 (by decide +kernel), rg1 h 101 3 1 12 (by decide +kernel), rg1 h 101 1 0 1 (by decide +kernel)⟩, fun o ho => ⟨rgn h 102 8 0 11 (by decide +kernel) o ho, rgn h 103 8 0 11000 (by decide +kernel) o ho, rgn h 104 8 0 11010 (by decide +kernel) o ho⟩⟩
  · exact ⟨⟨rg1 h 108 2 0 8 (by decide +kernel), rg1 h 108 3 1 12 (by decide +kernel), rg1 h 108 1 0 1 (by decide +kernel)⟩, fun o ho => ⟨rgn h 109 8 0 11 (by decide +kernel) o ho, rgn h 110 8 0 11000 (by decide +kernel) o ho, rgn h 111 8 0 11010 (by decide +kernel) o ho⟩⟩
  · exact ⟨⟨rg1 h 115 2 0 8 (by decide +kernel), rg1 h 115 3 1 12 (by decide +kernel), rg1 h 115 1 0 1 (by decide +kernel)⟩, fun o ho => ⟨rgn h 116 8 0 11 (by decide +kernel) o ho, rgn h 117 8 0 11000 (by decide +kernel) o ho, rgn h 118 8 0 11010 (by decide +kernel) o ho⟩⟩
  · exact ⟨⟨rg1 h 122 2 0 8 (by decide +kernel), rg1 h 122 3 1 12 (by decide +kernel), rg1 h 122 1 0 1 (by decide +kernel)⟩, fun o ho => ⟨rgn h 123 8 0 11 (by decide +kernel) o ho, rgn h 124 8 0 11000 (by decide +kernel) o ho, rgn h 125 8 0 11010 (by decide +kernel) o ho⟩⟩
theorem St.cls (h : St θ hp) : ClS (memOf hp) := by
  have e := rg1 h 0 11 1 1 (by decide +kernel)
  exact ⟨⟨h.body, h.web.1, h.web.2, rg1 h 19 0 0 8 (by decide +kernel), h.hst, fun o ho => ⟨rgn h 24 8 0 2 (by decide +kernel) o ho, rgn h 22 8 0 11 (by decide +kernel) o ho⟩, h.cht, rg1 h 0 10 0 1 (by decide +kernel), by omega⟩, fun q => by omega, fun q => by omega⟩
theorem St.ref (h : St θ hp) : RefOK (memOf hp) := by
  have e := rg1 h 143 18 (-1) (-1) (by decide +kernel)
  refine ⟨⟨rg1 h 143 1 0 8 (by decide +kernel), fun o ho => ?_, rgn h 151 6 1 6 (by decide +kernel)⟩, rgn h 150 6 0 2 (by decide +kernel), rgn h 152 6 1 15 (by decide +kernel), rgn h 153 3 1 3 (by decide +kernel), rgn h 149 8 (-9999) 9999 (by decide +kernel), fun o ho => ⟨rgn h 145 8 (-2) 7 (by decide +kernel) o ho, rgn h 147 8 (-2) 7 (by decide +kernel) o ho⟩, rgn h 160 8 (-1) 12 (by decide +kernel), by omega, fun j hj => ?_, rg1 h 143 12 0 44 (by decide +kernel), rg1 h 143 0 0 4 (by decide +kernel), rgn h 168 8 0 45 (by decide +kernel)⟩
  · have a := rgn h 144 8 0 0 (by decide +kernel) o ho
    have b := rgn h 145 8 0 0 (by decide +kernel) o ho
    have c := rgn h 146 8 0 0 (by decide +kernel) o ho
    have d := rgn h 147 8 0 0 (by decide +kernel) o ho
    have f := rgn h 148 8 0 0 (by decide +kernel) o ho
    unfold OpOK srcOK
    omega
  · have a := rgn h 154 48 0 0 (by decide +kernel) j hj
    have b := rgn h 155 48 0 0 (by decide +kernel) j hj
    have c := rgn h 156 48 0 0 (by decide +kernel) j hj
    have d := rgn h 157 48 0 0 (by decide +kernel) j hj
    unfold Rg; omega
end INI
/-! what both sides tell of ops at the start -/
theorem St.rel {θ : Nat → Int32} {hp : PH} (h : St θ hp) : RelB (memOf hp) := by
  have a1 := rg1 h 1 0 0 0 (by decide +kernel)
  have a2 := rg1 h 143 1 0 0 (by decide +kernel)
  refine ⟨by omega, fun o ho => ?_, fun k hk => ?_, fun u hu => ?_⟩
  · have b0 := rgn h 2 8 0 0 (by decide +kernel) o ho
    have b1 := rgn h 4 8 0 0 (by decide +kernel) o ho
    have b2 := rgn h 144 8 0 0 (by decide +kernel) o ho
    have b3 := rgn h 145 8 0 0 (by decide +kernel) o ho
    have b4 := rgn h 146 8 0 0 (by decide +kernel) o ho
    have b5 := rgn h 147 8 0 0 (by decide +kernel) o ho
    have b6 := rgn h 148 8 0 0 (by decide +kernel) o ho
    have b7 := rgn h 149 8 0 0 (by decide +kernel) o ho
    have c0 := rgn h 3 32 0 0 (by decide +kernel) (4 * o) (by omega)
    have c1 := rgn h 3 32 0 0 (by decide +kernel) (4 * o + 1) (by omega)
    have c2 := rgn h 3 32 0 0 (by decide +kernel) (4 * o + 2) (by omega)
    have c3 := rgn h 3 32 0 0 (by decide +kernel) (4 * o + 3) (by omega)
    omega
  · have q : k = 0 ∨ k = 1 ∨ k = 2 ∨ k = 3 ∨ k = 4 ∨ k = 5 := by omega
    rcases q with rfl | rfl | rfl | rfl | rfl | rfl
    · have e5 := rg1 h 5 0 0 0 (by decide +kernel)
      have e150 := rg1 h 150 0 0 0 (by decide +kernel)
      have e6 := rg1 h 6 0 1 1 (by decide +kernel)
      have e151 := rg1 h 151 0 1 1 (by decide +kernel)
      have e7 := rg1 h 7 0 1 1 (by decide +kernel)
      have e152 := rg1 h 152 0 1 1 (by decide +kernel)
      omega
    · have e5 := rg1 h 5 1 0 0 (by decide +kernel)
      have e150 := rg1 h 150 1 0 0 (by decide +kernel)
      have e6 := rg1 h 6 1 1 1 (by decide +kernel)
      have e151 := rg1 h 151 1 1 1 (by decide +kernel)
      have e7 := rg1 h 7 1 1 1 (by decide +kernel)
      have e152 := rg1 h 152 1 1 1 (by decide +kernel)
      omega
    · have e5 := rg1 h 5 2 1 1 (by decide +kernel)
      have e150 := rg1 h 150 2 1 1 (by decide +kernel)
      have e6 := rg1 h 6 2 3 3 (by decide +kernel)
      have e151 := rg1 h 151 2 3 3 (by decide +kernel)
      have e7 := rg1 h 7 2 3 3 (by decide +kernel)
      have e152 := rg1 h 152 2 3 3 (by decide +kernel)
      omega
    · have e5 := rg1 h 5 3 0 0 (by decide +kernel)
      have e150 := rg1 h 150 3 0 0 (by decide +kernel)
      have e6 := rg1 h 6 3 1 1 (by decide +kernel)
      have e151 := rg1 h 151 3 1 1 (by decide +kernel)
      have e7 := rg1 h 7 3 1 1 (by decide +kernel)
      have e152 := rg1 h 152 3 1 1 (by decide +kernel)
      omega
    · have e5 := rg1 h 5 4 2 2 (by decide +kernel)
      have e150 := rg1 h 150 4 2 2 (by decide +kernel)
      have e6 := rg1 h 6 4 2 2 (by decide +kernel)
      have e151 := rg1 h 151 4 2 2 (by decide +kernel)
      have e7 := rg1 h 7 4 1 1 (by decide +kernel)
      have e152 := rg1 h 152 4 1 1 (by decide +kernel)
      omega
    · have e5 := rg1 h 5 5 2 2 (by decide +kernel)
      have e150 := rg1 h 150 5 2 2 (by decide +kernel)
      have e6 := rg1 h 6 5 1 1 (by decide +kernel)
      have e151 := rg1 h 151 5 1 1 (by decide +kernel)
      have e7 := rg1 h 7 5 1 1 (by decide +kernel)
      have e152 := rg1 h 152 5 1 1 (by decide +kernel)
      omega
  · have e1 := rgn h 8 3 1 1 (by decide +kernel) u hu
    have e2 := rgn h 153 3 1 1 (by decide +kernel) u hu
    omega
/-! the law from its first instruction on -/
theorem cR2 {θ : Nat → Int32} {l : LW} {y : PE} (h : cR θ (.inl (2, l)) y) : ∃ g, y = .inl (2, l.length, .inr (.inr (.inr (.inr g)))) ∧ ∀ (j : Nat) (a : AV), l[j]? = some a → vR θ a (va_rf (g j)) := by
  unfold cR at h
  split at h <;> first | (rename_i e; cases e; done) | skip
  all_goals first | (rename_i e _; cases e; exact ⟨_, by rw [h.1], h.2⟩) | (rename_i e; cases e; exact ⟨_, by rw [h.1], h.2⟩) | exact h.elim | skip
theorem cR3 {θ : Nat → Int32} {l : LW} {y : PE} (h : cR θ (.inl (3, l)) y) : ∃ g, y = .inl (3, l.length, .inr (.inr (.inr (.inr g)))) ∧ ∀ (j : Nat) (a : AV), l[j]? = some a → vR θ a (va_rf (g j)) := by
  unfold cR at h
  split at h <;> first | (rename_i e; cases e; done) | skip
  all_goals first | (rename_i e _; cases e; exact ⟨_, by rw [h.1], h.2⟩) | (rename_i e; cases e; exact ⟨_, by rw [h.1], h.2⟩) | exact h.elim | skip
theorem St.ra {θ : Nat → Int32} {h : PH} (hh : St θ h) : RA h := by
  constructor
  · rcases hh.2 37 _ rfl with w | ⟨y, w1, w2⟩
    · cases w
    · obtain ⟨g, rfl, w3⟩ := cR2 w2
      refine ⟨g, w1, fun k hk => ?_⟩
      have a : k = 0 ∨ k = 1 ∨ k = 2 ∨ k = 3 ∨ k = 4 ∨ k = 5 ∨ k = 6 ∨ k = 7 ∨ k = 8 ∨ k = 9 ∨ k = 10 ∨ k = 11 ∨ k = 12 := by omega
      rcases a with a | a | a | a | a | a | a | a | a | a | a | a | a <;> subst a <;> exact rf_some (w3 _ _ rfl)
  · rcases hh.2 135 _ rfl with w | ⟨y, w1, w2⟩
    · cases w
    · obtain ⟨g, rfl, w3⟩ := cR3 w2
      refine ⟨g, w1, fun k hk => ?_⟩
      have a : k = 0 ∨ k = 1 := by omega
      rcases a with a | a <;> subst a <;> exact rf_some (w3 _ _ rfl)
theorem St.lr {θ : Nat → Int32} {h : PH} (hh : St θ h) : LR (h ++ [.inl (1, 1, .inr (.inl fun _ => 0))]) := by
  have hl : h.length = 173 := hh.1
  have e : ∀ (A : Nat) (y : PE), h[A]? = some y → (h ++ [.inl (1, 1, .inr (.inl fun _ => 0))])[A]? = some y := fun A y w => by
    rw [List.getElem?_append_left (List.getElem?_eq_some_iff.mp w).1]; exact w
  refine ⟨memOf h, fun _ => 0, ⟨?_, by rw [List.getElem?_append_right (by omega), hl]; rfl, ⟨fun _ _ => rfl, fun A s hA => ?_⟩⟩, hh.cls, hh.ref, hh.rel⟩
  · obtain ⟨⟨g, a, b⟩, g2, c, d⟩ := hh.ra
    exact ⟨⟨g, e _ _ a, b⟩, g2, e _ _ c, d⟩
  · obtain ⟨y, a, b⟩ := hh.rg hA
    exact ⟨y, e _ _ a, b⟩
set_option maxRecDepth 100000 in
theorem mt_0 : MT[0]? = some M_0 := rfl
set_option maxRecDepth 100000 in
theorem mt_224 : MT[224]? = some M_224 := rfl
theorem law_pm {L : Nat} (hL : L ≤ 3072) (xs : Nat → Int32) : Vx (Ex (L, xs) 24) (L, xs) M_368 [] Q1 0 [(0, .retAddr 0)] [] [] 0 0 := by
  have hC := Ex.mono (L, xs) 24
  refine Vx.go hC te_368_0 (Or.inl ⟨rfl, Nat.le_of_ble_eq_true rfl, Nat.le_of_ble_eq_true rfl, ?_⟩)
  show Vx (Ex (L, xs) 24) (L, xs) M_368 [] Q1 3 [(0, .retAddr 0)] [.ref 0] [.inr (9, dflt 9)] 1 12
  refine Vx.go hC te_368_3 ⟨_, _, rfl, rfl, ?_⟩
  refine Vx.go hC te_368_4 (Or.inr ⟨Or.inl rfl, ?_⟩)
  refine p_call_mk (av := [.ref 0]) (rest := [.ref 0]) mt_0 rfl (by decide) (Nat.le_of_ble_eq_true rfl) (Nat.le_of_ble_eq_true rfl) (fun _ => ⟨0, _, rfl, rfl⟩) ?_
  refine hC _ _ _ _ _ ?_ (Ex_S 24 0 rfl _ _ _ (cA (θ := fun _ => 0) hR9))
  rintro _ h1 ⟨rfl, hA1⟩
  show Vx (Ex (L, xs) 24) (L, xs) M_368 [] Q1 7 [(0, .retAddr 0)] [.ref 0] h1 161 4212
  have l1 : h1.length = 143 := hA1.1
  refine Vx.go hC te_368_7 ⟨by decide, ?_⟩
  show Vx (Ex (L, xs) 24) (L, xs) M_368 [] Q1 8 (px_s1 [(0, .retAddr 0)] 1 (.ref 0)) [] h1 161 4212
  refine Vx.go hC te_368_8 (Or.inl ⟨rfl, Nat.le_of_ble_eq_true rfl, Nat.le_of_ble_eq_true rfl, ?_⟩)
  show Vx (Ex (L, xs) 24) (L, xs) M_368 [] Q1 11 (px_s1 [(0, .retAddr 0)] 1 (.ref 0)) [.ref h1.length] (h1 ++ [.inr (10, dflt 10)]) 162 4249
  rw [l1]
  refine Vx.go hC te_368_11 ⟨_, _, rfl, rfl, ?_⟩
  refine Vx.go hC te_368_12 (Or.inr ⟨Or.inl rfl, ?_⟩)
  refine p_call_mk (av := [.ref 143]) (rest := [.ref 143]) mt_224 rfl (by decide) (Nat.le_of_ble_eq_true rfl) (Nat.le_of_ble_eq_true rfl) (fun _ => ⟨143, dflt 10, rfl, by rw [List.getElem?_append_right (by omega), l1]; rfl⟩) ?_
  refine hC _ _ _ _ _ ?_ (Ex_S 24 224 rfl _ _ _ (cB (hRM hA1)))
  rintro _ h2 ⟨rfl, hB2⟩
  have l2 : h2.length = 173 := hB2.1
  show Vx (Ex (L, xs) 24) (L, xs) M_368 [] Q1 15 (px_s1 [(0, .retAddr 0)] 1 (.ref 0)) [.ref 143] h2 222 7249
  refine Vx.go hC te_368_15 ⟨by decide, ?_⟩
  show Vx (Ex (L, xs) 24) (L, xs) M_368 [] Q1 16 (px_s1 (px_s1 [(0, .retAddr 0)] 1 (.ref 0)) 2 (.ref 143)) [] h2 222 7249
  refine Vx.go hC te_368_16 (Vx.go hC te_368_17 ⟨by decide, by decide, Nat.le_of_ble_eq_true rfl, Nat.le_of_ble_eq_true rfl, Or.inr ⟨rfl, ?_⟩⟩)
  show Vx (Ex (L, xs) 24) (L, xs) M_368 [] Q1 19 (px_s1 (px_s1 [(0, .retAddr 0)] 1 (.ref 0)) 2 (.ref 143)) [.ref h2.length] (h2 ++ [.inl (1, 1, .inr (.inl fun _ => 0))]) 223 7250
  rw [l2]
  refine Vx.go hC te_368_19 ⟨by decide, ?_⟩
  show Vx (Ex (L, xs) 24) (L, xs) M_368 [] Q1 20 (px_s1 (px_s1 (px_s1 [(0, .retAddr 0)] 1 (.ref 0)) 2 (.ref 143)) 3 (.ref 173)) [] (h2 ++ [.inl (1, 1, .inr (.inl fun _ => 0))]) 223 7250
  refine Vx.go hC te_368_20 (Vx.go hC te_368_21 ⟨by decide, ?_⟩)
  exact law_loop hL _ (Int32.ofInt 0) _ _ 223 7250 ⟨rfl, rfl, rfl, rfl, rfl⟩ (St.lr hB2) (by decide) (by decide) (Nat.lt_succ_self _) (by decide) (by decide)

/-! steps of the pure machine by hand, for loops that are known whole -/
def Keep (mods : List Nat) (lv lx : LV) : Prop := ∀ i, ¬ i ∈ mods → ∀ w : Value, px_g lv i = some w → w.category = 1 → px_g lx i = some w
theorem Keep.rfl' {mods : List Nat} {lv : LV} : Keep mods lv lv := fun _ _ _ h _ => h
theorem Keep.set {mods : List Nat} {lv lx : LV} (h : Keep mods lv lx) {i : Nat} (hi : i ∈ mods) (w : Value) : Keep mods lv (px_s1 lx i w) := fun j hj v hv hc => pg_ne (fun q => hj (q ▸ hi)) (h j hj v hv hc) hc
theorem lR.keep {θ : Nat → Int32} {mods : List Nat} {lv lv2 : LW} {lv' lx : LV} (hl : lR θ lv lv') (hk : Keep mods lv' lx) (h1 : ∀ i, ¬ i ∈ mods → lv2[i]? = lv[i]?) (h2 : ∀ i ∈ mods, ∀ v, lv2[i]? = some v → v = aU ∨ ∃ w, px_g lx i = some w ∧ vR θ v w ∧ w.category = 1) : lR θ lv2 lx := by
  intro i v hv
  by_cases hi : i ∈ mods
  · exact h2 i hi v hv
  · rw [h1 i hi] at hv
    rcases hl i v hv with q | ⟨w, g1, g2, g3⟩
    · exact Or.inl q
    · exact Or.inr ⟨w, hk i hi w g1 g3, g2, g3⟩
theorem lR.ref {θ : Nat → Int32} {lv : LW} {lv' : LV} (h : lR θ lv lv') {i a : Nat} (hi : lv[i]? = some (.inr (.inr (.ref a)))) : px_g lv' i = some (.ref a) := by
  rcases h i _ hi with q | ⟨w, g1, g2, -⟩
  · cases q
  · rw [g1, show w = .ref a from g2]
theorem lR.num {θ : Nat → Int32} {lv : LW} {lv' : LV} (h : lR θ lv lv') {i : Nat} {v : AV} (hi : lv[i]? = some v) (hn : isNum v = true) : ∃ y, px_g lv' i = some (.int y) ∧ vR θ v (.int y) := by
  rcases h i _ hi with rfl | ⟨w, g1, g2, -⟩
  · cases (show false = true from hn)
  · obtain ⟨y, rfl⟩ := isNum_ok hn g2
    exact ⟨y, g1, g2⟩
/-- a loop that is known whole, ahead of an instruction -/
abbrev MAF : Type := EV → LW → LW → HT → (List EV → Bool) → (Nat → LW → LW → HT → Bool) → Bool → Bool
def o_mac (f : MAF) (op : OPF) : OPF := fun X env lv st m h c s go cut call ret => match Nat.ble c (pC X.2.1) && Nat.ble s (pS X.2.1) with
  | true => f env lv st h cut (fun pc lv st h => go pc lv st m h c s) (op X env lv st m h c s go cut call ret)
  | false => op X env lv st m h c s go cut call ret
def MOK (θ : Nat → Int32) (L : Nat) (C : Nat → List Value → PH → (Rs → PH → Prop) → Prop) (M : PM) (hd : HD4) (Q : Rs → PH → Prop) (pc : Nat) (f : MAF) : Prop :=
  ∀ (env : EV) (lv st : LW) (m : Nat) (h : HT) (c s : Nat) (cut : List EV → Bool) (go : Nat → LW → LW → HT → Bool) (els : Bool) (lv' : LV) (st' : List Value) (h' : PH),
    eR θ env → lR θ lv lv' → A2 (vR θ) st st' → hR θ m h h' →
    (∀ pc2 lv2 st2 h2, go pc2 lv2 st2 h2 = true → ∀ lv2' st2' h2', lR θ lv2 lv2' → A2 (vR θ) st2 st2' → hR θ m h2 h2' → Vx C (L, θ) M hd Q pc2 lv2' st2' h2' c s) →
    c ≤ pC M ∧ s ≤ pS M → f env lv st h cut go els = true → els = true ∨ CUT θ cut ∨ Vx C (L, θ) M hd Q pc lv' st' h' c s
theorem SOK.mac {θ : Nat → Int32} {L : Nat} {C : Nat → List Value → PH → (Rs → PH → Prop) → Prop} {M : PM} {hd : HD4} {Q : Rs → PH → Prop} {pc : Nat} {f : MAF} {op : OPF} (hf : MOK θ L C M hd Q pc f) (hop : SOK θ L C M hd Q pc op) : SOK θ L C M hd Q pc (o_mac f op) := by
  intro env lv st m h c s go cut call ret lv' st' h' he hlv hst hh hgo hcall hret H
  unfold o_mac at H
  split at H
  · rename_i hb
    rw [Bool.and_eq_true, Nat.ble_eq, Nat.ble_eq] at hb
    rcases hf env lv st m h c s cut _ _ lv' st' h' he hlv hst hh (fun pc2 lv2 st2 h2 H2 => hgo pc2 lv2 st2 m h2 c s H2) hb H with q | q | q
    · exact hop env lv st m h c s go cut call ret lv' st' h' he hlv hst hh hgo hcall hret q
    · exact Or.inl q
    · exact Or.inr q
  · exact hop env lv st m h c s go cut call ret lv' st' h' he hlv hst hh hgo hcall hret H
section STP
variable {C : Nat → List Value → PH → (Rs → PH → Prop) → Prop} {S : Nat × (Nat → Int32)} {M : PM} {hd : HD4} {Q : Rs → PH → Prop} {pc ta tb : Nat} {lv : LV} {st : List Value} {h : PH} {c s : Nat}
theorem V_get (hC : Cmono C) {i a : Nat} {fs : List Value} {v : Value} (hf : (pT M).find? (fun e => e.1 == pc) = some (pc, .getfield i, ta, tb)) (h1 : h[a]? = some (.inr (ta, fs))) (hn : tb < fnum ta) (hv : fs[tb]? = some v) (k : Vx C S M hd Q (pc + 3) lv (v :: st) h c s) : Vx C S M hd Q pc lv (.ref a :: st) h c s := Vx.go hC hf (get_mk (k := fun st => Vx C S M hd Q (pc + 3) lv st h c s) h1 hn hv k)
theorem V_iast (hC : Cmono C) {x i : Int32} {a n : Nat} {g : Nat → Int32} (hf : (pT M).find? (fun e => e.1 == pc) = some (pc, .iastore, ta, tb)) (h1 : h[a]? = some (.inl (0, n, .inl g))) (h2 : vp_in i n) (k : Vx C S M hd Q (pc + 1) lv st (h.set a (.inl (0, n, .inl (upd g i.toNatClampNeg x)))) c s) : Vx C S M hd Q pc lv (.int x :: .int i :: .ref a :: st) h c s := Vx.go hC hf (iast_mk (k := fun st h => Vx C S M hd Q (pc + 1) lv st h c s) h1 h2 k)
theorem V_aald (hC : Cmono C) {i : Int32} {a n t q : Nat} {g : Nat → Option Nat} (hf : (pT M).find? (fun e => e.1 == pc) = some (pc, .aaload, ta, tb)) (h1 : h[a]? = some (.inl (t, n, .inr (.inr (.inr (.inr g)))))) (ht : t = 2 ∨ t = 3) (h2 : vp_in i n) (hq : g i.toNatClampNeg = some q) (k : Vx C S M hd Q (pc + 1) lv (.ref q :: st) h c s) : Vx C S M hd Q pc lv (.int i :: .ref a :: st) h c s := Vx.go hC hf (aald_mk (k := fun st => Vx C S M hd Q (pc + 1) lv st h c s) h1 ht h2 hq k)
theorem V_icmp (hC : Cmono C) {cc : ClassFile.Cond} {z : Int} {x y : Int32} (hf : (pT M).find? (fun e => e.1 == pc) = some (pc, .if_icmp cc z, ta, tb)) (h0 : 0 ≤ (pc : Int) + z) (k1 : ccI cc x y → Vx C S M hd Q ((pc : Int) + z).toNat lv st h c s) (k2 : ¬ ccI cc x y → Vx C S M hd Q (pc + 3) lv st h c s) : Vx C S M hd Q pc lv (.int y :: .int x :: st) h c s := Vx.go hC hf ⟨h0, k1, k2⟩
theorem V_call (hC : Cmono C) {i μ k : Nat} {N : PM} {args : List Value} (hf : (pT M).find? (fun e => e.1 == pc) = some (pc, .invokevirtual i, μ, tb)) (hN : MT[μ]? = some N) (hk : pN N = k) (ha : args.length = k) (hcat : (st.map Value.category).sum ≤ 8) (hz : pC N = 0 ∧ pS N = 0) (hc : c ≤ pC M ∧ s ≤ pS M) {a : Nat} {fs : List Value} (hr : args.getLast? = some (.ref a)) (ho : h[a]? = some (.inr (pO N, fs))) (hcall : C μ args.reverse h (fun r h2 => ∃ v : Option Value, r = .inl v ∧ Vx C S M hd Q (pc + 3) lv (v.toList ++ st) h2 c s)) : Vx C S M hd Q pc lv (args ++ st) h c s := by
  refine Vx.go hC hf ?_
  show p_call _ _ _ _ _ _ _ _ _ _ _ _ _
  unfold p_call
  rw [hN]
  subst hk
  have e1 : (args ++ st).take (pN N) = args := by rw [← ha]; simp
  have e2 : (args ++ st).drop (pN N) = st := by rw [← ha]; simp
  refine ⟨by rw [List.length_append]; omega, by rw [e2]; exact hcat, by rw [hz.1]; exact hc.1, by rw [hz.2]; exact hc.2, fun _ => ⟨a, fs, by rw [e1]; exact hr, ho⟩, ?_⟩
  rw [e1, e2, hz.1, hz.2]
  refine hC _ _ _ _ _ ?_ hcall
  intro r h2 ⟨v, e, k⟩
  subst e
  exact k
end STP
theorem upd_eq {g : Nat → Int32} {i : Nat} {x : Int32} (h : g i = x) : upd g i x = g := by
  funext j
  unfold upd
  split
  · rename_i e; rw [e, h]
  · rfl
theorem one_add {y : Int32} {i : Nat} (h : y.toInt = (i : Int)) (hi : i < 2147483647) : (y + Int32.ofInt 1).toInt = ((i + 1 : Nat) : Int) := by
  have h1 : (Int32.ofInt 1).toInt = 1 := by decide
  rw [Int32.toInt_add, h1, h, bm (by omega) (by omega)]
  omega
theorem ge_of {x y : Int32} {i n : Int} (hx : x.toInt = i) (hy : y.toInt = n) : ccI .ge x y ↔ n ≤ i := by rw [ccI_iff, hx, hy]; exact Iff.rfl
theorem set_self {h : PH} {a : Nat} {y : PE} (ha : h[a]? = some y) : h.set a y = h := by
  apply List.ext_getElem?
  intro j
  by_cases e : a = j
  · subst e
    rw [List.getElem?_set_self (List.getElem?_eq_some_iff.mp ha).1, ha]
  · rw [List.getElem?_set_ne e]

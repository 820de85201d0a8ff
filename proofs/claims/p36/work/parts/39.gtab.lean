/-! the careful evaluator: tables of functions are those of methods -/
def tInc : List TE → Bool
  | [] => true
  | [_] => true
  | a :: b :: r => Nat.blt a.1 b.1 && tInc (b :: r)
theorem tInc.lt {a : TE} : ∀ {r : List TE}, tInc (a :: r) = true → ∀ e ∈ r, a.1 < e.1
  | [], _, e, h => by cases h
  | b :: r, h, e, he => by
    simp only [tInc, Bool.and_eq_true, blt_iff] at h
    rcases List.mem_cons.mp he with rfl | h2
    · exact h.1
    · exact Nat.lt_trans h.1 (tInc.lt h.2 e h2)
theorem tInc.tail {a : TE} : ∀ {r : List TE}, tInc (a :: r) = true → tInc r = true
  | [], _ => rfl
  | b :: r, h => by simp only [tInc, Bool.and_eq_true] at h; exact h.2
theorem tInc.find : ∀ {l : List TE} {e : TE}, tInc l = true → e ∈ l → l.find? (fun q => q.1 == e.1) = some e
  | a :: r, e, h, he => by
    rcases List.mem_cons.mp he with rfl | h2
    · simp
    · have h3 := tInc.lt h e h2
      rw [List.find?_cons_of_neg (by simp; omega)]
      exact tInc.find (tInc.tail h) h2
noncomputable def mkT (hs : List (Nat × List GA)) (te : TE) : Nat × (GPF ⊕ List GA) := (te.1, match hs.find? (fun q => q.1 == te.1) with
  | some q => .inr q.2
  | none => .inl (mkG te))
noncomputable def mkH (hs : List (Nat × List GA)) (te : TE) : List (Nat × GA × GPF) := match hs.find? (fun q => q.1 == te.1) with
  | some q => q.2.map fun A => (te.1, A, mkG te)
  | none => []
theorem TOK.of {M : PM} {T : GT} {hs : List (Nat × List GA)} (ht : tInc (pT M) = true) (hT : T = (pT M).map (mkT hs)) : TOK M T := by
  intro e he f hf
  rw [hT] at he
  obtain ⟨te, h1, rfl⟩ := List.mem_map.mp he
  refine ⟨te, rfl, tInc.find ht h1, ?_⟩
  unfold mkT at hf
  simp only at hf
  split at hf
  · cases hf
  · cases hf; rfl
theorem HLOK.of {M : PM} {T : GT} {hs : List (Nat × List GA)} {HL : List (Nat × GA × GPF)} (ht : tInc (pT M) = true) (hT : T = (pT M).map (mkT hs)) (hH : HL = (pT M).flatMap (mkH hs)) : HLOK M T HL := by
  refine ⟨fun pc l hl A hA => ?_, fun x hx => ?_⟩
  · rw [hT] at hl
    obtain ⟨te, h1, h2⟩ := List.mem_map.mp hl
    unfold mkT at h2
    split at h2
    · rename_i q hq
      cases h2
      refine ⟨mkG te, ?_⟩
      rw [hH]
      refine List.mem_flatMap.mpr ⟨te, h1, ?_⟩
      unfold mkH
      rw [hq]
      exact List.mem_map.mpr ⟨A, hA, rfl⟩
    · cases h2
  · rw [hH] at hx
    obtain ⟨te, h1, h2⟩ := List.mem_flatMap.mp hx
    unfold mkH at h2
    split at h2
    · obtain ⟨A, -, rfl⟩ := List.mem_map.mp h2
      exact ⟨te, rfl, tInc.find ht h1, rfl⟩
    · cases h2
def isU (v : AV) : Bool := match v with
  | .inr (.inr .null) => true
  | _ => false
theorem isU_ok {v : AV} (h : isU v = true) : v = aU := by
  unfold isU at h
  split at h
  · rfl
  · cases h
theorem ITOK.nil : ITOK [] := fun x hx => by cases hx
theorem ITOK.cons {μ : Nat} {N : GI} {IT : List (Nat × GI)} (h1 : MT[μ]? = some N.1) (h2 : N.2.1 = (if pK N.1 = 3 then hdOf μ else [])) (h3 : N.2.2.1.all isU = true) (h4 : Nat.ble (pN N.1) (pL N.1) = true) (ht : tInc (pT N.1) = true) (hT : N.2.2.2 = (pT N.1).map (mkT [])) (h : ITOK IT) : ITOK ((μ, N) :: IT) := by
  intro x hx
  rcases List.mem_cons.mp hx with rfl | hx
  · refine ⟨h1, h2, fun v hv => isU_ok (List.all_eq_true.mp h3 v hv), Nat.le_of_ble_eq_true h4, TOK.of ht hT, fun pc l hA => ?_⟩
    have hA : (pc, Sum.inr l) ∈ N.2.2.2 := hA
    rw [hT] at hA
    obtain ⟨te, -, h5⟩ := List.mem_map.mp hA
    cases h5
  · exact h x hx
theorem DJ.of : ∀ {rs : RS}, (rs.flatMap (fun q => q.1)).Nodup → DJ rs
  | [], _ => fun k k' q q' i i' A h1 => by simp at h1
  | p :: rs, hn => by
    rw [List.flatMap_cons, List.nodup_append] at hn
    obtain ⟨n1, n2, n3⟩ := hn
    have ih := DJ.of n2
    have inr : ∀ {k i A : Nat} {q : List Nat × CS}, rs[k]? = some q → q.1[i]? = some A → A ∈ rs.flatMap (fun q => q.1) := fun {k i A q} a b => List.mem_flatMap.mpr ⟨q, List.mem_of_getElem? a, List.mem_of_getElem? b⟩
    intro k k' q q' i i' A h1 h2 h3 h4
    cases k with
    | zero =>
      cases k' with
      | zero =>
        simp at h1 h3
        subst h1
        subst h3
        refine ⟨rfl, ?_⟩
        exact (List.getElem?_inj (List.getElem?_eq_some_iff.mp h2).1 n1).mp (h2.trans h4.symm)
      | succ k' =>
        simp at h1
        subst h1
        exact absurd rfl (n3 A (List.mem_of_getElem? h2) A (inr (by simpa using h3) h4))
    | succ k =>
      cases k' with
      | zero =>
        simp at h3
        subst h3
        exact absurd rfl (n3 A (List.mem_of_getElem? h4) A (inr (by simpa using h1) h2))
      | succ k' =>
        obtain ⟨a, b⟩ := ih k k' q q' i i' A (by simpa using h1) h2 (by simpa using h3) h4
        exact ⟨by omega, b⟩
/-- a method of a table keeps what is said of it, if it comes out true -/
theorem meth_of {Iv : PH → Prop} {S : Nat × (Nat → Int32)} {rs : RS} (hdj : DJ rs) {μ k0 d fuel : Nat} {G : GC} {hd : HD4} {hp : Nat × Nat × Nat × Nat} {hs : List (Nat × List GA)} {T : GT} {HL : List (Nat × GA × GPF)} {cs : List (Nat × GC)} {IT : List (Nat × GI)} (hIT : ITOK IT) (hM : MT[μ]? = some G.1) (hL : Nat.ble (pN G.1) (pL G.1) = true) (hhd : hd = (if pK G.1 = 3 then hdOf μ else [])) (ht : tInc (pT G.1) = true) (hT : T = (pT G.1).map (mkT hs)) (hH : HL = (pT G.1).flatMap (mkH hs))
    (hiv : ∀ h h', HW rs G.2.2.2.2.1 h h' → Iv h → Iv h') (hcs : ∀ n, ∀ x ∈ cs, CtOK Iv rs (Ex S (n + k0)) x.1 x.2) (H : gMeth rs (gCl fuel cs IT d) G hd hp T HL fuel = true) : ∀ n, CtOK Iv rs (Ex S (n + (k0 + d + 1))) μ G := by
  intro n
  have := meth_ok (S := S) (n := n + k0 + d) hdj hM (Nat.le_of_ble_eq_true hL) hhd (TOK.of ht hT) (HLOK.of ht hT hH) (fun h0 hI => gCl_ok (fun h' hw => hiv h0 h' hw hI) hdj hIT hcs d n) H
  rw [show n + (k0 + d + 1) = n + k0 + d + 1 by omega]
  exact this

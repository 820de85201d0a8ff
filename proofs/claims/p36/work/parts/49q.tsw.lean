/-! a switch -/
theorem Wx.tsw {C : CXW} (hC : Cmono C) {S : Nat × (Nat → Int32)} {M : PM} {K : WK} {pc : Nat} {L : List (Option WV)} {st : List WV} {mem : MM} {d lo hi x : Int} {offs : Array Int} {a b t : Nat} {ts : List Nat} (ht : (pT M).find? (fun e => e.1 == pc) = some (pc, .tableswitch d lo hi offs, a, b)) (hn : hi - lo + 1 = offs.size) (hz : (pc : Int) + d = t) (hts : offs.toList.map (fun o => (pc : Int) + o) = ts.map fun (n : Nat) => (n : Int)) (H1 : x < lo ∨ hi < x → Wx C S M K t L st mem) (H2 : ∀ (i t' : Nat), ts[i]? = some t' → x = lo + i → Wx C S M K t' L st mem) : Wx C S M K pc L (.inl x :: st) mem :=
  Wx.go hC ht fun h0 lv h h1 h2 h3 => by
    have hx := wi (h2 _ List.mem_cons_self)
    have hst : ∀ u ∈ st, vOK u := fun u hu => h2 u (List.mem_cons_of_mem _ hu)
    refine ⟨?_, ?_⟩
    · intro q
      rw [hx] at q
      refine ⟨by show 0 ≤ (pc : Int) + d; omega, ?_⟩
      show Vx C S M [] (QK h0 K) ((pc : Int) + d).toNat _ _ _ _ _
      rw [show ((pc : Int) + d).toNat = t by omega]; exact H1 q h0 lv h h1 hst h3
    · intro q1 q2
      rw [hx] at q1 q2 ⊢
      have hl : (x - lo).toNat < offs.size := by omega
      have e1 : offs.toList[(x - lo).toNat]? = some (offs[(x - lo).toNat]'hl) := by simp
      have e2 : (offs.toList.map (fun o => (pc : Int) + o))[(x - lo).toNat]? = some ((pc : Int) + offs[(x - lo).toNat]'hl) := by rw [List.getElem?_map, e1]; rfl
      rw [hts, List.getElem?_map] at e2
      cases ht' : ts[(x - lo).toNat]? with
      | none => rw [ht'] at e2; cases e2
      | some t' =>
        rw [ht'] at e2
        have e3 : (t' : Int) = (pc : Int) + offs[(x - lo).toNat]'hl := Option.some.inj e2
        refine ⟨offs[(x - lo).toNat]'hl, by simp [hl], by show 0 ≤ (pc : Int) + _; omega, ?_⟩
        show Vx C S M [] (QK h0 K) ((pc : Int) + _).toNat _ _ _ _ _
        rw [show ((pc : Int) + offs[(x - lo).toNat]'hl).toNat = t' by omega]
        exact H2 _ t' ht' (by omega) h0 lv h h1 hst h3

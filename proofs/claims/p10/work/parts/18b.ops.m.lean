section
/-! instructions that see the heap, calls and ends -/
theorem gAll_ok {f : Nat → Bool} : ∀ {l : List Nat}, gAll f l = true → ∀ t ∈ l, f t = true
  | [], _, t, ht => by cases ht
  | e :: l, h, t, ht => by
    have h : (match f e with | true => gAll f l | false => false) = true := h
    split at h
    · rename_i q
      rcases List.mem_cons.mp ht with rfl | ht
      · exact q
      · exact gAll_ok h t ht
    · cases h
section OPT
variable {θ : Nat → Int32} {L : Nat} {C : Nat → List Value → PH → (Rs → PH → Prop) → Prop} {M : PM} {hd : HD4} {Q : Rs → PH → Prop} {K : Kt} {pc ta tb : Nat}
theorem k_sw {d lo hi : Int} {offs : Array Int} (h1 : offs.toList.all (fun o => decide (0 ≤ (pc : Int) + o)) = true) (h2 : hi - lo + 1 = offs.size) (h0 : 0 ≤ (pc : Int) + d) : POK θ L C M hd Q K (o_sw ((pc : Int) + d).toNat lo hi (offs.toList.map fun o => ((pc : Int) + o).toNat)) (pc, .tableswitch d lo hi offs, ta, tb) := by
  intro env lv st m h c s go cut call ret lv' st' h' he hlv hst hh hgo hcall hret H
  have hoff : ∀ {x : Int}, ¬ x < lo → ¬ hi < x → ∃ off, offs[(x - lo).toNat]? = some off ∧ 0 ≤ (pc : Int) + off ∧ ((pc : Int) + off).toNat ∈ offs.toList.map (fun o => ((pc : Int) + o).toNat) ∧ (offs.toList.map fun o => ((pc : Int) + o).toNat)[(x - lo).toNat]? = some ((pc : Int) + off).toNat := by
    intro x q1 q2
    have hlt : (x - lo).toNat < offs.size := by omega
    refine ⟨offs[(x - lo).toNat], Array.getElem?_eq_getElem hlt, ?_, ?_, ?_⟩
    · have := List.all_eq_true.mp h1 offs[(x - lo).toNat] (by simp)
      simpa using this
    · exact List.mem_map_of_mem (f := fun o => ((pc : Int) + o).toNat) (by simp)
    · rw [List.getElem?_map, Array.getElem?_toList, Array.getElem?_eq_getElem hlt]; rfl
  unfold o_sw at H
  split at H
  · obtain ⟨w, r', rfl, hx, hr⟩ := hst
    obtain ⟨xv, a, b, rfl, a1, a2, H⟩ := rK_ok he hx H
    split at H
    · rename_i q
      rw [Bool.or_eq_true, bLt_iff, bLt_iff] at q
      exact Or.inr ⟨fun _ => ⟨h0, hgo _ _ _ _ _ _ _ H _ _ _ hlv hr hh⟩, fun q1 q2 => by exfalso; omega⟩
    · rename_i q
      rcases lin_ok he hx H with ⟨xv2, p, e, hp, H⟩ | H
      · cases e
        obtain ⟨t, pa, pb⟩ := p
        split at H
        · rename_i e1
          have e1 : t = 0 := e1
          subst e1
          have e2 : xv.toInt = pb := hp.1
          split at H
          · rename_i q5
            rw [Bool.or_eq_true, bLt_iff, bLt_iff] at q5; dsimp only at q5
            exact Or.inr ⟨fun _ => ⟨h0, hgo _ _ _ _ _ _ _ H _ _ _ hlv hr hh⟩, fun q1 q2 => by exfalso; omega⟩
          · rename_i q5
            rw [Bool.or_eq_false_iff, bLt_no, bLt_no] at q5; dsimp only at q5
            rw [lget_eq] at H
            split at H
            · rename_i tt htt
              refine Or.inr ⟨fun q3 => by exfalso; omega, fun q1 q2 => ?_⟩
              obtain ⟨off, g1, g2, g3, g4⟩ := hoff q1 q2
              rw [e2] at g4
              have e3 : tt = ((pc : Int) + off).toNat := Option.some.inj (htt.symm.trans g4)
              rw [e3] at H
              exact ⟨off, g1, g2, hgo _ _ _ _ _ _ _ H _ _ _ hlv hr hh⟩
            · cases H
        · split at H
          · exact Or.inl (cutLe_ok he H)
          · split at H
            · exact Or.inl (cutLe_ok he H)
            · exact Or.inl (cutAll_ok he H)
      · split at H
        · rename_i hgd
          refine Or.inr ⟨fun _ => ⟨h0, hgo _ _ _ _ _ _ _ hgd _ _ _ hlv hr hh⟩, fun q1 q2 => ?_⟩
          obtain ⟨off, g1, g2, g3, g4⟩ := hoff q1 q2
          exact ⟨off, g1, g2, hgo _ _ _ _ _ _ _ (gAll_ok H _ g3) _ _ _ hlv hr hh⟩
        · cases H
  · cases H
theorem k_iald : POK θ L C M hd Q K (o_iald (pc + 1)) (pc, .iaload, ta, tb) := by
  intro env lv st m h c s go cut call ret lv' st' h' he hlv hst hh hgo hcall hret H
  unfold o_iald at H
  split at H
  · rename_i i a r
    obtain ⟨w, _, rfl, hi, w2, r', rfl, hx, hr⟩ := hst
    obtain rfl : w2 = .ref a := hx
    split at H
    · rename_i l hl
      obtain ⟨y, hy, hc⟩ := hh.at hl (by intro q; cases q)
      obtain ⟨g, rfl, hg⟩ := c_0 hc
      obtain ⟨iv, rfl, q⟩ := wRead_ok he hi H
      rcases q with ⟨j, x, v, hj, hx, H, hxv⟩ | q
      · split at H
        · rename_i hn
          have hjl : j < l.length := (List.getElem?_eq_some_iff.mp hx).1
          refine Or.inr (iald_mk (S := (L, θ)) (k := fun st => K (pc + 1) lv' st h' c s) hy (vin hj hjl) (hgo _ _ _ _ _ _ _ H _ _ _ hlv ⟨_, _, rfl, ?_, hr⟩ hh))
          rw [idx_of hj]
          exact hxv _ (hg _ _ hx)
        · cases H
      · exact Or.inl q
    · cases H
  · rename_i i a r
    obtain ⟨w, _, rfl, hi, w2, r', rfl, hx, hr⟩ := hst
    obtain rfl : w2 = .retAddr a := hx
    obtain ⟨iv, rfl, q⟩ := wIdx_ok he hi H
    rcases q with ⟨j, hj, H⟩ | q
    · split at H
      · rename_i hjL
        rw [blt_iff] at hjL
        refine Or.inr ⟨vin hj hjL, hgo _ _ _ _ _ _ _ H _ _ _ hlv ⟨_, _, rfl, ⟨_, rfl, ?_⟩, hr⟩ hh⟩
        rw [idx_of hj, Int.one_mul, Int.add_zero]
      · cases H
    · exact Or.inl q
  · cases H
theorem k_lald : POK θ L C M hd Q K (o_lald (pc + 1)) (pc, .laload, ta, tb) := by
  intro env lv st m h c s go cut call ret lv' st' h' he hlv hst hh hgo hcall hret H
  unfold o_lald at H
  split at H
  · rename_i i a r
    obtain ⟨w, _, rfl, hi, w2, r', rfl, hx, hr⟩ := hst
    obtain rfl : w2 = .ref a := hx
    split at H
    · rename_i l hl
      obtain ⟨y, hy, hc⟩ := hh.at hl (by intro q; cases q)
      obtain ⟨g, rfl, hg⟩ := c_1 hc
      obtain ⟨iv, rfl, q⟩ := wIdx_ok he hi H
      rcases q with ⟨j, hj, H⟩ | q
      · rw [lget_eq] at H
        split at H
        · rename_i v hv
          have hjl : j < l.length := (List.getElem?_eq_some_iff.mp hv).1
          refine Or.inr (lald_mk (k := fun st => K (pc + 1) lv' st h' c s) hy (vin hj hjl) (hgo _ _ _ _ _ _ _ H _ _ _ hlv ⟨_, _, rfl, ?_, hr⟩ hh))
          rw [idx_of hj]
          exact hg _ _ hv
        · cases H
      · exact Or.inl q
    · cases H
  · cases H
theorem k_aald : POK θ L C M hd Q K (o_aald (pc + 1)) (pc, .aaload, ta, tb) := by
  intro env lv st m h c s go cut call ret lv' st' h' he hlv hst hh hgo hcall hret H
  unfold o_aald at H
  split at H
  · rename_i i a r
    obtain ⟨w, _, rfl, hi, w2, r', rfl, hx, hr⟩ := hst
    obtain rfl : w2 = .ref a := hx
    split at H
    · rename_i l hl
      obtain ⟨y, hy, hc⟩ := hh.at hl (by intro q; cases q)
      obtain ⟨g, rfl, hg⟩ := c_2 hc
      obtain ⟨iv, rfl, q⟩ := wIdx_ok he hi H
      rcases q with ⟨j, hj, H⟩ | q
      · rw [lget_eq] at H
        split at H
        · rename_i x hv
          have hjl : j < l.length := (List.getElem?_eq_some_iff.mp hv).1
          exact Or.inr (aald_mk (k := fun st => K (pc + 1) lv' st h' c s) hy (Or.inl rfl) (vin hj hjl) (by rw [idx_of hj]; exact rf_some (hg _ _ hv)) (hgo _ _ _ _ _ _ _ H _ _ _ hlv ⟨_, _, rfl, rfl, hr⟩ hh))
        · cases H
      · exact Or.inl q
    · rename_i l hl
      obtain ⟨y, hy, hc⟩ := hh.at hl (by intro q; cases q)
      obtain ⟨g, rfl, hg⟩ := c_3 hc
      obtain ⟨iv, rfl, q⟩ := wIdx_ok he hi H
      rcases q with ⟨j, hj, H⟩ | q
      · rw [lget_eq] at H
        split at H
        · rename_i x hv
          have hjl : j < l.length := (List.getElem?_eq_some_iff.mp hv).1
          exact Or.inr (aald_mk (k := fun st => K (pc + 1) lv' st h' c s) hy (Or.inr rfl) (vin hj hjl) (by rw [idx_of hj]; exact rf_some (hg _ _ hv)) (hgo _ _ _ _ _ _ _ H _ _ _ hlv ⟨_, _, rfl, rfl, hr⟩ hh))
        · cases H
      · exact Or.inl q
    · cases H
  · cases H
theorem k_iast : POK θ L C M hd Q K (o_iast (pc + 1)) (pc, .iastore, ta, tb) := by
  intro env lv st m h c s go cut call ret lv' st' h' he hlv hst hh hgo hcall hret H
  unfold o_iast at H
  split at H
  · rename_i x i a r
    obtain ⟨w0, _, rfl, hv, w, _, rfl, hi, w2, r', rfl, hx, hr⟩ := hst
    obtain rfl : w2 = .ref a := hx
    split at H
    · rename_i hn
      obtain ⟨xv, rfl⟩ := isNum_ok hn hv
      split at H
      · rename_i l hl
        obtain ⟨y, hy, hc⟩ := hh.at hl (by intro q; cases q)
        obtain ⟨g, rfl, hg⟩ := c_0 hc
        obtain ⟨iv, rfl, q⟩ := wIdx_ok he hi H
        rcases q with ⟨j, hj, H⟩ | q
        · obtain ⟨hjl, H⟩ := lset_ok H
          obtain ⟨h2, H, -, hs⟩ := hset_ok H
          refine Or.inr (iast_mk (k := fun st h => K (pc + 1) lv' st h c s) hy (vin hj hjl) (hgo _ _ _ _ _ _ _ H _ _ _ hlv hr ?_))
          rw [idx_of hj]
          exact hh.set hy hs (c_set0 hg hv)
        · exact Or.inl q
      · cases H
    · cases H
  · cases H
theorem k_last : POK θ L C M hd Q K (o_last (pc + 1)) (pc, .lastore, ta, tb) := by
  intro env lv st m h c s go cut call ret lv' st' h' he hlv hst hh hgo hcall hret H
  unfold o_last at H
  split at H
  · rename_i x i a r
    obtain ⟨w0, _, rfl, hv, w, _, rfl, hi, w2, r', rfl, hx, hr⟩ := hst
    obtain rfl : w2 = .ref a := hx
    obtain rfl : w0 = .long x := hv
    split at H
    · rename_i l hl
      obtain ⟨y, hy, hc⟩ := hh.at hl (by intro q; cases q)
      obtain ⟨g, rfl, hg⟩ := c_1 hc
      obtain ⟨iv, rfl, q⟩ := wIdx_ok he hi H
      rcases q with ⟨j, hj, H⟩ | q
      · obtain ⟨hjl, H⟩ := lset_ok H
        obtain ⟨h2, H, -, hs⟩ := hset_ok H
        refine Or.inr (last_mk (k := fun st h => K (pc + 1) lv' st h c s) hy (vin hj hjl) (hgo _ _ _ _ _ _ _ H _ _ _ hlv hr ?_))
        rw [idx_of hj]
        exact hh.set hy hs (c_set1 hg (show vR θ (.inr (.inr (.long x))) (.long x) from rfl))
      · exact Or.inl q
    · cases H
  · rename_i x i a r
    obtain ⟨w0, _, rfl, hv, w, _, rfl, hi, w2, r', rfl, hx, hr⟩ := hst
    obtain rfl : w2 = .ref a := hx
    have hv0 := hv
    obtain ⟨xv, rfl, -⟩ := hv
    split at H
    · rename_i l hl
      obtain ⟨y, hy, hc⟩ := hh.at hl (by intro q; cases q)
      obtain ⟨g, rfl, hg⟩ := c_1 hc
      obtain ⟨iv, rfl, q⟩ := wIdx_ok he hi H
      rcases q with ⟨j, hj, H⟩ | q
      · obtain ⟨hjl, H⟩ := lset_ok H
        obtain ⟨h2, H, -, hs⟩ := hset_ok H
        refine Or.inr (last_mk (k := fun st h => K (pc + 1) lv' st h c s) hy (vin hj hjl) (hgo _ _ _ _ _ _ _ H _ _ _ hlv hr ?_))
        rw [idx_of hj]
        exact hh.set hy hs (c_set1 hg hv0)
      · exact Or.inl q
    · cases H
  · cases H
theorem k_aast : POK θ L C M hd Q K (o_aast (pc + 1)) (pc, .aastore, ta, tb) := by
  intro env lv st m h c s go cut call ret lv' st' h' he hlv hst hh hgo hcall hret H
  unfold o_aast at H
  split at H
  · rename_i v i a r
    obtain ⟨w0, _, rfl, hv, w, _, rfl, hi, w2, r', rfl, hx, hr⟩ := hst
    obtain rfl : w2 = .ref a := hx
    obtain rfl : w0 = .ref v := hv
    split at H
    · rename_i l hl
      split at H
      · rename_i fs hf
        obtain ⟨y, hy, hc⟩ := hh.at hl (by intro q; cases q)
        obtain ⟨g, rfl, hg⟩ := c_2 hc
        obtain ⟨y2, hy2, hc2⟩ := hh.at hf (by intro q; cases q)
        obtain ⟨gs, rfl, hgs⟩ := c_o hc2
        obtain ⟨iv, rfl, q⟩ := wIdx_ok he hi H
        rcases q with ⟨j, hj, H⟩ | q
        · obtain ⟨hjl, H⟩ := lset_ok H
          obtain ⟨h2, H, -, hs⟩ := hset_ok H
          refine Or.inr (aast_mk (k := fun st h => K (pc + 1) lv' st h c s) hy hy2 (vin hj hjl) (hgo _ _ _ _ _ _ _ H _ _ _ hlv hr ?_))
          rw [idx_of hj]
          exact hh.set hy hs (c_set2 hg)
        · exact Or.inl q
      · cases H
    · cases H
  · cases H
theorem ofNat_R {n : Nat} (h : n < 2147483648) : vR θ (.inl (.ofNat n)) (.int (Int32.ofNat n)) := ⟨_, rfl, Int32.toInt_ofNat_of_lt (by omega)⟩
theorem k_alen : POK θ L C M hd Q K (o_alen (pc + 1)) (pc, .arraylength, ta, tb) := by
  intro env lv st m h c s go cut call ret lv' st' h' he hlv hst hh hgo hcall hret H
  unfold o_alen at H
  split at H
  · rename_i a r
    obtain ⟨w, r', rfl, hx, hr⟩ := hst
    obtain rfl : w = .ref a := hx
    split at H
    · rename_i t l hl
      split at H
      · rename_i hn
        rw [Bool.and_eq_true, blt_iff, blt_iff] at hn
        obtain ⟨y, hy, hc⟩ := hh.at hl (by intro q; cases q; omega)
        have key : ∃ x : vp_A, y = .inl (t, x) ∧ x.1 = l.length := by
          rcases t with _ | _ | _ | _ | t
          · obtain ⟨g, rfl, hg⟩ := c_0 hc; exact ⟨_, rfl, rfl⟩
          · obtain ⟨g, rfl, hg⟩ := c_1 hc; exact ⟨_, rfl, rfl⟩
          · obtain ⟨g, rfl, hg⟩ := c_2 hc; exact ⟨_, rfl, rfl⟩
          · obtain ⟨g, rfl, hg⟩ := c_3 hc; exact ⟨_, rfl, rfl⟩
          · exfalso; omega
        obtain ⟨x, rfl, hx⟩ := key
        have H := natF_ok H
        refine Or.inr (alen_mk (S := (L, θ)) (k := fun st => K (pc + 1) lv' st h' c s) hy hn.1 (hgo _ _ _ _ _ _ _ H _ _ _ hlv ⟨_, _, rfl, ?_, hr⟩ hh))
        rw [hx]
        exact ofNat_R hn.2
      · cases H
    · cases H
  · rename_i a r
    obtain ⟨w, r', rfl, hx, hr⟩ := hst
    obtain rfl : w = .retAddr a := hx
    split at H
    · rename_i hn
      rw [blt_iff] at hn
      exact Or.inr (hgo _ _ _ _ _ _ _ H _ _ _ hlv ⟨_, _, rfl, ofNat_R hn, hr⟩ hh)
    · cases H
  · cases H
theorem k_get {i : Nat} (hf : tb < fnum ta) : POK θ L C M hd Q K (o_get ta tb (pc + 3)) (pc, .getfield i, ta, tb) := by
  intro env lv st m h c s go cut call ret lv' st' h' he hlv hst hh hgo hcall hret H
  unfold o_get at H
  split at H
  · rename_i a r
    obtain ⟨w, r', rfl, hx, hr⟩ := hst
    obtain rfl : w = .ref a := hx
    split at H
    · rename_i cj fs hl
      split at H
      · rename_i hn
        rw [beq_iff] at hn
        subst hn
        obtain ⟨y, hy, hc⟩ := hh.at hl (by intro q; cases q)
        obtain ⟨gs, rfl, hgs⟩ := c_o hc
        rw [lget_eq] at H
        split at H
        · rename_i v hv
          obtain ⟨w, hw, hvw⟩ := hgs.get hv
          exact Or.inr (get_mk (k := fun st => K (pc + 3) lv' st h' c s) hy hf hw (hgo _ _ _ _ _ _ _ H _ _ _ hlv ⟨_, _, rfl, hvw, hr⟩ hh))
        · cases H
      · cases H
    · cases H
  · cases H
theorem k_put {i ty : Nat} (hf : tb < fnum ta) (hty : ∀ (v : AV) (w : Value), vR θ v w → okTy ty v = true → narrow (ftyX ta tb) w = w ∧ fits (ftyX ta tb) w = true) : POK θ L C M hd Q K (o_put ta tb ty (pc + 3)) (pc, .putfield i, ta, tb) := by
  intro env lv st m h c s go cut call ret lv' st' h' he hlv hst hh hgo hcall hret H
  unfold o_put at H
  split at H
  · rename_i v a r
    obtain ⟨w0, _, rfl, hv, w, r', rfl, hx, hr⟩ := hst
    obtain rfl : w = .ref a := hx
    split at H
    · rename_i cj fs hl
      split at H
      · rename_i hn
        rw [Bool.and_eq_true, beq_iff] at hn
        obtain ⟨rfl, hn⟩ := hn
        obtain ⟨y, hy, hc⟩ := hh.at hl (by intro q; cases q)
        obtain ⟨gs, rfl, hgs⟩ := c_o hc
        obtain ⟨g1, g2⟩ := hty v w0 hv hn
        obtain ⟨hfl, H⟩ := lset_ok H
        obtain ⟨h2, H, -, hs⟩ := hset_ok H
        exact Or.inr (put_mk (k := fun st h => K (pc + 3) lv' st h c s) hy hf (by rw [hgs.len]; exact hfl) g1 g2 (hgo _ _ _ _ _ _ _ H _ _ _ hlv hr (hh.set hy hs ⟨rfl, A2.set hv hgs⟩)))
      · cases H
    · cases H
  · cases H
theorem wNew_ok {X : CX9} {n : Nat} {lv r : LW} {m : Nat} {h : HT} {c s z : Nat} {v : AE} {go : GO} {h' : PH} {y : PE} (hh : hR θ m h h') (hc : cR θ v y) (H : wNew X n lv r m h c s z v go = true) : c + 1 ≤ pC X.2.1 ∧ s + z ≤ pS X.2.1 ∧ ∃ h2, go n lv (.inr (.inr (.ref m)) :: r) (m + 1) h2 (c + 1) (s + z) = true ∧ hR θ (m + 1) h2 (h' ++ [y]) := by
  unfold wNew at H
  split at H
  · rename_i hn
    rw [Bool.and_eq_true, Nat.ble_eq, Nat.ble_eq] at hn
    have H := natF_ok (natF_ok (natF_ok H))
    obtain ⟨h2, H, -, hs⟩ := hset_ok H
    exact ⟨hn.1, hn.2, h2, H, hh.push hs hc⟩
  · cases H
theorem nat_R {x : Int32} {z : Nat} (h : x.toInt = Int.ofNat z) : ¬ x < 0 ∧ x.toNatClampNeg = z := by
  refine ⟨fun q => ?_, idx_of h⟩
  rw [Int32.lt_iff_toInt_lt] at q
  have : (0 : Int32).toInt = 0 := by decide
  have h' : x.toInt = (z : Int) := h
  omega
theorem k_newi : POK θ L C M hd Q K (o_newi (pc + 2)) (pc, .newarray .int, ta, tb) := by
  intro env lv st m h c s go cut call ret lv' st' h' he hlv hst hh hgo hcall hret H
  unfold o_newi at H
  split at H
  · obtain ⟨w, r', rfl, ⟨xv, rfl, hx⟩, hr⟩ := hst
    obtain ⟨g1, g2⟩ := nat_R hx
    split at H
    · rename_i hn
      rw [Nat.ble_eq] at hn
      obtain ⟨q1, q2, h2, H, hh2⟩ := wNew_ok hh (rep_0 _) (repF_ok H)
      refine Or.inr ⟨g1, by rw [g2]; exact hn, q1, by rw [g2]; exact q2, Or.inl ⟨rfl, ?_⟩⟩
      rw [g2, hh.1]
      exact hgo _ _ _ _ _ _ _ H _ _ _ hlv ⟨_, _, rfl, rfl, hr⟩ hh2
    · cases H
  · cases H
theorem k_newl : POK θ L C M hd Q K (o_newl (pc + 2)) (pc, .newarray .long, ta, tb) := by
  intro env lv st m h c s go cut call ret lv' st' h' he hlv hst hh hgo hcall hret H
  unfold o_newl at H
  split at H
  · obtain ⟨w, r', rfl, ⟨xv, rfl, hx⟩, hr⟩ := hst
    obtain ⟨g1, g2⟩ := nat_R hx
    split at H
    · rename_i hn
      rw [Nat.ble_eq] at hn
      obtain ⟨q1, q2, h2, H, hh2⟩ := wNew_ok hh (rep_1 _) (repF_ok H)
      refine Or.inr ⟨g1, by rw [g2]; exact hn, q1, by rw [g2]; exact q2, Or.inr ⟨rfl, ?_⟩⟩
      rw [g2, hh.1]
      exact hgo _ _ _ _ _ _ _ H _ _ _ hlv ⟨_, _, rfl, rfl, hr⟩ hh2
    · cases H
  · cases H
theorem k_newr {i : Nat} : POK θ L C M hd Q K (o_newr (pc + 3)) (pc, .anewarray i, ta, tb) := by
  intro env lv st m h c s go cut call ret lv' st' h' he hlv hst hh hgo hcall hret H
  unfold o_newr at H
  split at H
  · obtain ⟨w, r', rfl, ⟨xv, rfl, hx⟩, hr⟩ := hst
    obtain ⟨g1, g2⟩ := nat_R hx
    split at H
    · rename_i hn
      rw [Nat.ble_eq] at hn
      obtain ⟨q1, q2, h2, H, hh2⟩ := wNew_ok hh (rep_2 _) (repF_ok H)
      refine Or.inr ⟨g1, by rw [g2]; exact hn, q1, by rw [g2]; exact q2, ?_⟩
      rw [g2, hh.1]
      exact hgo _ _ _ _ _ _ _ H _ _ _ hlv ⟨_, _, rfl, rfl, hr⟩ hh2
    · cases H
  · cases H
theorem k_new2 {i d : Nat} : POK θ L C M hd Q K (o_new2 (pc + 4)) (pc, .multianewarray i d, ta, tb) := by
  intro env lv st m h c s go cut call ret lv' st' h' he hlv hst hh hgo hcall hret H
  unfold o_new2 at H
  split at H
  · obtain ⟨w, _, rfl, ⟨xv, rfl, hx⟩, w2, r', rfl, ⟨yv, rfl, hy⟩, hr⟩ := hst
    obtain ⟨g1, g2⟩ := nat_R hx
    obtain ⟨g3, g4⟩ := nat_R hy
    split at H
    · rename_i hn
      rw [Bool.and_eq_true, Bool.and_eq_true, Bool.and_eq_true, Nat.ble_eq, Nat.ble_eq, Nat.ble_eq, Nat.ble_eq] at hn
      obtain ⟨n1, n2, n3, n4⟩ := hn
      have H := repF_ok (refsF_ok H)
      obtain ⟨h2, H, -, hs⟩ := hset_ok H
      obtain ⟨h3, H, hh3⟩ := rowsF_ok (rep_0 _) H (hh.push hs (rep_3 _ _))
      have H := natF_ok (natF_ok (natF_ok H))
      refine Or.inr ⟨g3, g1, by rw [g4]; exact n2, by rw [g2]; exact n1, ?_⟩
      show _ ∧ _ ∧ _
      rw [g2, g4, hh.1]
      exact ⟨n3, n4, hgo _ _ _ _ _ _ _ H _ _ _ hlv ⟨_, _, rfl, rfl, hr⟩ hh3⟩
    · cases H
  · cases H
theorem k_new {i : Nat} (h0 : tb = 0) (hd0 : (dflt ta).all noD = true) : POK θ L C M hd Q K (o_new ta (fnum ta) (dW ta) (pc + 3)) (pc, .new i, ta, tb) := by
  intro env lv st m h c s go cut call ret lv' st' h' he hlv hst hh hgo hcall hret H
  unfold o_new at H
  obtain ⟨q1, q2, h2, H, hh2⟩ := wNew_ok hh (y := .inr (ta, dflt ta)) (show cR θ (.inr (ta, dW ta)) (.inr (ta, dflt ta)) from ⟨rfl, dflt_R ta hd0⟩) H
  refine Or.inr (Or.inl ⟨h0, q1, q2, ?_⟩)
  rw [hh.1]
  exact hgo _ _ _ _ _ _ _ H _ _ _ hlv ⟨_, _, rfl, rfl, hst⟩ hh2
theorem k_throw {i : Nat} {x : Nat × Nat × Nat × Nat × Nat × Nat} (h1 : tb = 1) (hx : XLs[ta]? = some x) : POK θ L C M hd Q K (o_throw x.2.2.1) (pc, .new i, ta, tb) := by
  intro env lv st m h c s go cut call ret lv' st' h' he hlv hst hh hgo hcall hret H
  unfold o_throw at H
  split at H
  · rename_i hhd
    split at H
    · rename_i hn
      rw [Bool.and_eq_true, Bool.and_eq_true, Nat.ble_eq, Nat.ble_eq, Nat.ble_eq] at hn
      exact Or.inr (Or.inr ⟨h1, hhd, hn.1, hn.2.1, by rw [cats_ok hst]; exact hn.2.2, x, hx, hret _ H _ rfl⟩)
    · cases H
  · cases H
theorem k_copy {i : Nat} (h7 : tb = 7) : POK θ L C M hd Q K (o_copy (pc + 3)) (pc, .invokestatic i, ta, tb) := by
  intro env lv st m h c s go cut call ret lv' st' h' he hlv hst hh hgo hcall hret H
  unfold o_copy at H
  split at H
  · rename_i z dp a1 sp a0 r
    obtain ⟨_, _, rfl, ⟨nv, rfl, hn⟩, _, _, rfl, ⟨dv, rfl, hdv⟩, w1, _, rfl, e1, _, _, rfl, ⟨sv, rfl, hs⟩, w0, r', rfl, e0, hr⟩ := hst
    obtain rfl : w1 = .ref a1 := e1
    obtain rfl : w0 = .ref a0 := e0
    obtain ⟨n1, n2⟩ := nat_R hn
    obtain ⟨d1, d2⟩ := nat_R hdv
    obtain ⟨s1, s2⟩ := nat_R hs
    split at H
    · rename_i l0 hl0
      split at H
      · rename_i l1 hl1
        obtain ⟨y0, hy0, hc0⟩ := hh.at hl0 (by intro q; cases q)
        obtain ⟨f, rfl, hf⟩ := c_0 hc0
        obtain ⟨y1, hy1, hc1⟩ := hh.at hl1 (by intro q; cases q)
        obtain ⟨g, rfl, hg⟩ := c_0 hc1
        split at H
        · rename_i hb
          rw [Bool.and_eq_true, Bool.and_eq_true, Nat.ble_eq, Nat.ble_eq, Nat.ble_eq] at hb
          obtain ⟨h2, H, -, hs2⟩ := hset_ok H
          refine Or.inr (Or.inl ⟨h7, copy_mk (k := fun st h => (st.map Value.category).sum ≤ 8 ∧ K (pc + 3) lv' st h c s) hy0 hy1 s1 d1 n1 (by rw [s2, n2]; exact hb.1) (by rw [d2, n2]; exact hb.2.1) ⟨by rw [cats_ok hr]; exact hb.2.2, ?_⟩⟩)
          rw [n2, d2, s2]
          exact hgo _ _ _ _ _ _ _ H _ _ _ hlv hr (hh.set hy1 hs2 (cpy_R hf hg hb.1 hb.2.1))
        · cases H
      · cases H
    · cases H
  · cases H
theorem k_obj {i : Nat} (h6 : tb = 6) : POK θ L C M hd Q K (o_obj (pc + 3)) (pc, .invokespecial i, ta, tb) := by
  intro env lv st m h c s go cut call ret lv' st' h' he hlv hst hh hgo hcall hret H
  unfold o_obj at H
  split at H
  · rename_i a r
    obtain ⟨w, r', rfl, hx, hr⟩ := hst
    obtain rfl : w = .ref a := hx
    split at H
    · rename_i hn
      rw [Nat.ble_eq] at hn
      exact Or.inr (Or.inl ⟨h6, by rw [cats_ok hr]; exact hn, hgo _ _ _ _ _ _ _ H _ _ _ hlv hr hh⟩)
    · cases H
  · cases H
theorem k_iret : POK θ L C M hd Q K o_iret (pc, .ireturn, ta, tb) := by
  intro env lv st m h c s go cut call ret lv' st' h' he hlv hst hh hgo hcall hret H
  unfold o_iret at H
  split at H
  · obtain ⟨w, r', rfl, hx, hr⟩ := hst
    cases (show r' = [] from hr)
    split at H
    · rename_i hR
      split at H
      · rename_i hn
        obtain ⟨xv, rfl⟩ := isNum_ok hn hx
        exact Or.inr ⟨xv, rfl, ⟨_, hR, rfl⟩, hret _ H _ (A2.one hx)⟩
      · cases H
    · rename_i hR
      rcases lin_ok he hx H with ⟨xv, p, rfl, hp, H⟩ | H
      · split at H
        · rename_i hn
          obtain ⟨t, a, b⟩ := p
          rw [Bool.and_eq_true, Bool.or_eq_true, beq_iff, bEq_iff, bEq_iff] at hn
          obtain ⟨e, hn⟩ := hn
          have e : t = 0 := e
          subst e
          have e2 : xv.toInt = b := hp.1
          have hb : xv = 0 ∨ xv = 1 := by
            rcases hn with q | q
            · left; apply toInt_inj; rw [e2]; exact q
            · right; apply toInt_inj; rw [e2]; exact q
          exact Or.inr ⟨xv, rfl, ⟨_, hR, by rcases hb with rfl | rfl <;> rfl⟩, hret _ H _ (A2.one ⟨xv, rfl, e2⟩)⟩
        · cases H
      · cases H
    · cases H
  · cases H
theorem k_aret : POK θ L C M hd Q K o_aret (pc, .areturn, ta, tb) := by
  intro env lv st m h c s go cut call ret lv' st' h' he hlv hst hh hgo hcall hret H
  unfold o_aret at H
  split at H
  · rename_i a
    obtain ⟨w, r', rfl, hx, hr⟩ := hst
    obtain rfl : w = .ref a := hx
    cases (show r' = [] from hr)
    split at H
    · rename_i hR
      exact Or.inr ⟨_, rfl, ⟨_, hR⟩, hret _ H _ (A2.one rfl)⟩
    · cases H
  · cases H
theorem k_ret : POK θ L C M hd Q K o_ret (pc, .return_, ta, tb) := by
  intro env lv st m h c s go cut call ret lv' st' h' he hlv hst hh hgo hcall hret H
  unfold o_ret at H
  split at H
  · cases (show st' = [] from hst)
    split at H
    · rename_i hR
      exact Or.inr ⟨rfl, hR, hret _ H _ rfl⟩
    · cases H
  · cases H
end OPT
section MKO
variable {θ : Nat → Int32} {L : Nat} {C : Nat → List Value → PH → (Rs → PH → Prop) → Prop} {M : PM} {hd : HD4} {Q : Rs → PH → Prop} {K : Kt}
theorem kK (x : Int32) : vR θ (.inl x.toInt) (.int x) := ⟨x, rfl, rfl⟩
theorem bool_put {ty : FieldType} (hty : ty = .boolean) {v : AV} {w : Value} (hv : vR θ v w) (h : isBit v = true) : narrow ty w = w ∧ fits ty w = true := by
  subst hty
  unfold isBit at h
  split at h
  · obtain ⟨y, rfl, e⟩ := hv
    rw [Bool.or_eq_true, bEq_iff, bEq_iff] at h
    have hb : y = 0 ∨ y = 1 := by
      rcases h with q | q
      · left; apply toInt_inj; rw [e]; exact q
      · right; apply toInt_inj; rw [e]; exact q
    rcases hb with rfl | rfl <;> exact ⟨rfl, rfl⟩
  · cases h
theorem ref_put {ty : FieldType} (hty : (∃ x, ty = .object x) ∨ (∃ x, ty = .array x)) {v : AV} {w : Value} (hv : vR θ v w) (h : isRf v = true) : narrow ty w = w ∧ fits ty w = true := by
  unfold isRf at h
  split at h
  · rename_i a
    obtain rfl : w = .ref a := hv
    rcases hty with ⟨x, rfl⟩ | ⟨x, rfl⟩ <;> exact ⟨rfl, rfl⟩
  · cases h
set_option maxHeartbeats 1000000 in
theorem mkO_ok (te : TE) : POK θ L C M hd Q K (mkO te) te := by
  obtain ⟨pc, ins, ta, tb⟩ := te
  unfold mkO
  dsimp only
  split
  · exact k_push (kK _) (fun _ _ _ _ _ q => q)
  · exact k_push (kK _) (fun _ _ _ _ _ q => q)
  · exact k_push (kK _) (fun _ _ _ _ _ q => q)
  · rename_i n
    exact k_push (w := .long (Int64.ofNat n)) (show vR θ (.inr (.inr (.long (Int64.ofNat n)))) (.long (Int64.ofNat n)) from rfl) (fun _ _ _ _ _ q => q)
  · split
    · rename_i q hq
      split
      · rename_i h0
        exact k_push (kK q.2.2) (fun _ _ _ _ _ w => ⟨q, hq, h0, w⟩)
      · exact k_no
    · exact k_no
  · split
    · rename_i q hq
      split
      · rename_i h0
        exact k_push (kK q.2.2) (fun _ _ _ _ _ w => ⟨q, hq, h0, w⟩)
      · exact k_no
    · exact k_no
  · exact k_iload (fun _ _ _ _ _ q => q)
  · exact k_iload (fun _ _ _ _ _ q => q)
  · exact k_aload (fun _ _ _ _ _ q => q)
  · exact k_aload (fun _ _ _ _ _ q => q)
  · exact k_istore (fun _ _ _ _ _ q => q)
  · exact k_istore (fun _ _ _ _ _ q => q)
  · exact k_astore (fun _ _ _ _ _ q => q)
  · exact k_astore (fun _ _ _ _ _ q => q)
  · split
    · rename_i hz
      exact k_iinc hz
    · exact k_no
  · exact k_iadd
  · exact k_isub
  · exact k_imul
  · exact k_idiv
  · exact k_irem
  · exact k_ineg
  · exact k_any (fun _ _ _ _ _ _ _ q => q)
  · exact k_any (fun _ _ _ _ _ _ _ q => q)
  · exact k_any (fun _ _ _ _ _ _ _ q => q)
  · exact k_any (fun _ _ _ _ _ _ _ q => q)
  · exact k_any (fun _ _ _ _ _ _ _ q => q)
  · exact k_i2l
  · exact k_lcmp
  · exact k_dup
  · exact k_dup2
  · exact k_pop
  · unfold jT
    split
    · rename_i h0; exact k_goto h0
    · exact k_no
  · unfold jT
    split
    · rename_i h0; exact k_if h0
    · exact k_no
  · unfold jT
    split
    · rename_i h0; exact k_icmp h0
    · exact k_no
  · split
    · rename_i h1
      unfold jT
      split
      · rename_i h0; exact k_sw h1.1 h1.2 h0
      · exact k_no
    · exact k_no
  · exact k_iald
  · exact k_iast
  · exact k_lald
  · exact k_last
  · exact k_aald
  · exact k_aast
  · exact k_alen
  · split
    · rename_i hf; exact k_get hf
    · exact k_no
  · split
    · rename_i hf
      split
      · rename_i hty
        refine k_put hf (fun v w hv hn => ?_)
        obtain ⟨y, rfl⟩ := isNum_ok hn hv
        rw [hty]; exact ⟨rfl, rfl⟩
      · rename_i hty
        exact k_put hf (fun v w hv hn => bool_put hty hv hn)
      · rename_i x hty
        exact k_put hf (fun v w hv hn => ref_put (Or.inl ⟨_, hty⟩) hv hn)
      · rename_i x hty
        exact k_put hf (fun v w hv hn => ref_put (Or.inr ⟨_, hty⟩) hv hn)
      · exact k_no
    · exact k_no
  · exact k_newi
  · exact k_newl
  · exact k_newr
  · exact k_new2
  · split
    · rename_i h0; exact k_new h0.1 h0.2
    · split
      · rename_i h1
        split
        · rename_i x hx; exact k_throw h1 hx
        · exact k_no
      · exact k_no
  · intro env lv st m h c s go cut call ret lv' st' h' he hlv hst hh hgo hcall hret H
    exact Or.inr (hcall _ _ H)
  · split
    · rename_i h7; exact k_copy h7
    · rename_i h7
      intro env lv st m h c s go cut call ret lv' st' h' he hlv hst hh hgo hcall hret H
      exact Or.inr (Or.inr ⟨h7, hcall _ _ H⟩)
  · split
    · rename_i h6; exact k_obj h6
    · split
      · rename_i h9
        intro env lv st m h c s go cut call ret lv' st' h' he hlv hst hh hgo hcall hret H
        exact Or.inr (Or.inr ⟨h9, hcall _ _ H⟩)
      · exact k_no
  · exact k_iret
  · exact k_aret
  · exact k_ret
  · exact k_no
end MKO
end
section
/-! the run of the quick evaluator, whole -/
def RTOK (θ : Nat → Int32) (ret : RT) (Q : Rs → PH → Prop) : Prop := ∀ env q m h, ret env q m h = true → eR θ env → ∀ r h', resR θ q r → hR θ m h h' → Q r h'
def SOK (θ : Nat → Int32) (L : Nat) (C : Nat → List Value → PH → (Rs → PH → Prop) → Prop) (M : PM) (hd : HD4) (Q : Rs → PH → Prop) (pc : Nat) (f : OPF) : Prop :=
  ∀ (env : EV) (lv st : LW) (m : Nat) (h : HT) (c s : Nat) (go : GO) (cut : List EV → Bool) (call : Nat → Bool → Bool) (ret : AQ → Bool) (lv' : LV) (st' : List Value) (h' : PH),
    eR θ env → lR θ lv lv' → A2 (vR θ) st st' → hR θ m h h' →
    (∀ pc2 lv2 st2 m2 h2 c2 s2, go pc2 lv2 st2 m2 h2 c2 s2 = true → ∀ lv2' st2' h2', lR θ lv2 lv2' → A2 (vR θ) st2 st2' → hR θ m2 h2 h2' → Vx C (L, θ) M hd Q pc2 lv2' st2' h2' c2 s2) →
    (∀ μ virt, call μ virt = true → p_call C M hd Q (Vx C (L, θ) M hd Q) pc μ virt lv' st' h' c s) →
    (∀ q, ret q = true → ∀ r, resR θ q r → Q r h') →
    f (L, M, hd) env lv st m h c s go cut call ret = true →
    CUT θ cut ∨ Vx C (L, θ) M hd Q pc lv' st' h' c s
theorem SOK.of {θ : Nat → Int32} {L : Nat} {C : Nat → List Value → PH → (Rs → PH → Prop) → Prop} {M : PM} {hd : HD4} {Q : Rs → PH → Prop} (hC : Cmono C) {te : TE} (hf : (pT M).find? (fun e => e.1 == te.1) = some te) : SOK θ L C M hd Q te.1 (mkO te) := by
  intro env lv st m h c s go cut call ret lv' st' h' he hlv hst hh hgo hcall hret H
  rcases mkO_ok (K := Vx C (L, θ) M hd Q) te env lv st m h c s go cut call ret lv' st' h' he hlv hst hh hgo hcall hret H with q | q
  · exact Or.inl q
  · exact Or.inr (Vx.go hC hf q)
def calOK (θ : Nat → Int32) (C : Nat → List Value → PH → (Rs → PH → Prop) → Prop) (mt : List (List MEn)) (cal : CAL) : Prop :=
  ∀ μ N env args m h ret, mget mt μ = some N → cal μ N env args m h ret = true → MT[μ]? = some N.1 ∧ (∀ v ∈ N.2.2.1, v = aU) ∧
    ∀ (Q : Rs → PH → Prop) (args' : List Value) (h' : PH), eR θ env → lR θ args (lv_args 0 args') → (args'.map Value.category).sum = pN N.1 → hR θ m h h' → RTOK θ ret Q → C μ args' h' Q
theorem ffnd_ok {pc : Nat} {k : OPF → List (Nat × OPF) → Bool} {no : Bool} : ∀ {l : List (Nat × OPF)}, ffnd pc l k no = true → (∃ f r, (pc, f) ∈ l ∧ (∀ x ∈ r, x ∈ l) ∧ k f r = true) ∨ no = true
  | [], h => Or.inr h
  | e :: l, h => by
    have h1 : (Bool.rec (ffnd pc l k no) (k e.2 l) (Nat.beq e.1 pc) : Bool) = true := h
    cases hb : Nat.beq e.1 pc with
    | true =>
      rw [hb] at h1
      refine Or.inl ⟨e.2, l, ?_, fun x hx => List.mem_cons_of_mem _ hx, h1⟩
      rw [← beq_iff.mp hb]; exact List.mem_cons_self
    | false =>
      rw [hb] at h1
      rcases ffnd_ok (show ffnd pc l k no = true from h1) with ⟨f, r, q1, q2, q3⟩ | q
      · exact Or.inl ⟨f, r, List.mem_cons_of_mem _ q1, fun x hx => List.mem_cons_of_mem _ (q2 x hx), q3⟩
      · exact Or.inr q
theorem lAll_ok {f : EV → Bool} : ∀ {l : List EV}, lAll f l = true → ∀ e ∈ l, f e = true
  | [], _, e, he => by cases he
  | a :: l, h, e, he => by
    have h1 : (Bool.rec false (lAll f l) (f a) : Bool) = true := h
    cases hb : f a with
    | true =>
      rw [hb] at h1
      rcases List.mem_cons.mp he with rfl | he
      · exact hb
      · exact lAll_ok (show lAll f l = true from h1) e he
    | false => rw [hb] at h1; cases (show false = true from h1)
theorem tkr_ok : ∀ {n : Nat} {st acc : LW} {k : LW → LW → Bool}, tkr n st acc k = true → n ≤ st.length ∧ (∀ x ∈ st.take n, w1 x = true) ∧ k ((st.take n).reverse ++ acc) (st.drop n) = true
  | 0, st, acc, k, h => ⟨Nat.zero_le _, by intro x hx; simp at hx, by have h : k acc st = true := h; simpa using h⟩
  | n + 1, [], acc, k, h => by cases (show false = true from h)
  | n + 1, x :: r, acc, k, h => by
    have h1 : (match w1 x with | true => tkr n r (x :: acc) k | false => false) = true := h
    split at h1
    · rename_i hw
      obtain ⟨g1, g2, g3⟩ := tkr_ok h1
      refine ⟨by simp; exact g1, fun y hy => ?_, ?_⟩
      · rw [List.take_succ_cons] at hy
        rcases List.mem_cons.mp hy with rfl | hy
        · exact hw
        · exact g2 y hy
      · rw [List.take_succ_cons, List.reverse_cons, List.append_assoc, List.drop_succ_cons]
        exact g3
    · cases h1
theorem pg_args : ∀ {l : List Value} {k i : Nat} {w : Value}, (∀ v ∈ l, v.category = 1) → l[i]? = some w → px_g (lv_args k l) (k + i) = some w
  | [], k, i, w, _, h => by simp at h
  | v :: l, k, 0, w, hc, h => by
    simp at h
    subst h
    simp [px_g, lv_args]
  | v :: l, k, i + 1, w, hc, h => by
    have h1 : l[i]? = some w := by simpa using h
    have ih := pg_args (k := k + 1) (fun u hu => hc u (List.mem_cons_of_mem _ hu)) h1
    have e : lv_args k (v :: l) = (k, v) :: lv_args (k + 1) l := by
      have := hc v List.mem_cons_self
      simp [lv_args, this]
    rw [e]
    simp only [px_g, List.find?] at ih ⊢
    rw [show (k == k + (i + 1)) = false by simp]
    rw [show k + (i + 1) = k + 1 + i by omega]
    exact ih
theorem A2.cat1 {θ : Nat → Int32} : ∀ {l : LW} {l' : List Value}, A2 (vR θ) l l' → (∀ x ∈ l, w1 x = true) → ∀ v ∈ l', v.category = 1
  | [], _, h, _, v, hv => by rw [show _ = [] from h] at hv; cases hv
  | a :: as, _, ⟨b, bs, e, q, t⟩, hw, v, hv => by
    subst e
    rcases List.mem_cons.mp hv with rfl | hv
    · exact w1_ok (hw a List.mem_cons_self) q
    · exact A2.cat1 t (fun x hx => hw x (List.mem_cons_of_mem _ hx)) v hv
theorem lR_args {θ : Nat → Int32} {l pad : LW} {l' : List Value} (h : A2 (vR θ) l l') (hw : ∀ x ∈ l, w1 x = true) (hp : ∀ v ∈ pad, v = aU) : lR θ (l ++ pad) (lv_args 0 l') := by
  have hc := h.cat1 hw
  intro i v hv
  rw [List.getElem?_append] at hv
  split at hv
  · obtain ⟨w, h1, h2⟩ := h.get hv
    refine Or.inr ⟨w, ?_, h2, hc w (List.mem_of_getElem? h1)⟩
    have := pg_args (k := 0) hc h1
    rwa [Nat.zero_add] at this
  · exact Or.inl (hp v (List.mem_of_getElem? hv))
theorem sum1 : ∀ {l : List Value}, (∀ v ∈ l, v.category = 1) → (l.map Value.category).sum = l.length
  | [], _ => rfl
  | v :: l, h => by rw [List.map_cons, List.sum_cons, h v List.mem_cons_self, sum1 (fun u hu => h u (List.mem_cons_of_mem _ hu)), List.length_cons]; omega
theorem wRecv_ok {θ : Nat → Int32} {virt : Bool} {o : Nat} {args : LW} {h : HT} {k : Bool} {m : Nat} {h' : PH} (hh : hR θ m h h') (H : wRecv virt o args h k = true) : k = true ∧ (virt = true → ∃ a r fs, args = .inr (.inr (.ref a)) :: r ∧ h'[a]? = some (.inr (o, fs))) := by
  unfold wRecv at H
  split at H
  · exact ⟨H, fun q => by cases q⟩
  · split at H
    · rename_i a r
      split at H
      · rename_i cj fs hl
        split at H
        · rename_i hb
          rw [beq_iff] at hb
          subst hb
          obtain ⟨y, hy, hc⟩ := hh.at hl (by intro q; cases q)
          obtain ⟨gs, rfl, -⟩ := c_o hc
          exact ⟨H, fun _ => ⟨a, r, gs, rfl, hy⟩⟩
        · cases H
      · cases H
    · cases H
theorem aB_succ (X : CX9) (T : List (Nat × OPF)) (mt : List (List MEn)) (cal : CAL) (ret : RT) (k : Nat) (env : EV) (pc : Nat) (rest : List (Nat × OPF)) (lv st : LW) (m : Nat) (h : HT) (c s : Nat) : aB X T mt cal ret (k + 1) env pc rest lv st m h c s = ffch pc T rest fun f r => f X env lv st m h c s (fun pc lv st m h c s => aB X T mt cal ret k env pc r lv st m h c s) (fun l => lAll (fun env => aB X T mt cal ret k env pc rest lv st m h c s) l)
      (fun μ virt => match mget mt μ with
        | some N => tkr (pN N.1) st N.2.2.1 fun args rst => (match Nat.ble (cats rst) 8 && (Nat.ble (c + pC N.1) (pC X.2.1) && Nat.ble (s + pS N.1) (pS X.2.1)) with
          | true => natF (c + pC N.1) fun c1 => natF (s + pS N.1) fun s1 => wRecv virt (pO N.1) args h (cal μ N env args m h (fun env q m h => match q with
            | .inl (some x) => aB X T mt cal ret k env (pc + 3) r lv (x :: rst) m h c1 s1
            | .inl none => aB X T mt cal ret k env (pc + 3) r lv rst m h c1 s1
            | .inr e => ret env (wBack X.2.2 pc e) m h))
          | false => false)
        | none => false)
      (fun q => ret env q m h) := rfl
theorem aB_ok {θ : Nat → Int32} {L : Nat} {C : Nat → List Value → PH → (Rs → PH → Prop) → Prop} {M : PM} {hd : HD4} {Q : Rs → PH → Prop} {T : List (Nat × OPF)} {mt : List (List MEn)} {cal : CAL} {ret : RT} (hC : Cmono C) (hT : ∀ e ∈ T, SOK θ L C M hd Q e.1 e.2) (hcal : calOK θ C mt cal) (hret : RTOK θ ret Q) : ∀ (k : Nat) (env : EV) (pc : Nat) (rest : List (Nat × OPF)) (lv st : LW) (m : Nat) (h : HT) (c s : Nat), aB (L, M, hd) T mt cal ret k env pc rest lv st m h c s = true → (∀ e ∈ rest, SOK θ L C M hd Q e.1 e.2) → eR θ env → ∀ lv' st' h', lR θ lv lv' → A2 (vR θ) st st' → hR θ m h h' → Vx C (L, θ) M hd Q pc lv' st' h' c s := by
  intro k
  induction k with
  | zero => intro env pc rest lv st m h c s H; cases (show false = true from H)
  | succ k ih =>
    intro env pc rest lv st m h c s H hrest he lv' st' h' hlv hst hh
    have key : ∃ f r, SOK θ L C M hd Q pc f ∧ (∀ e ∈ r, SOK θ L C M hd Q e.1 e.2) ∧ f (L, M, hd) env lv st m h c s (fun pc lv st m h c s => aB (L, M, hd) T mt cal ret k env pc r lv st m h c s) (fun l => lAll (fun env => aB (L, M, hd) T mt cal ret k env pc rest lv st m h c s) l)
      (fun μ virt => match mget mt μ with
        | some N => tkr (pN N.1) st N.2.2.1 fun args rst => (match Nat.ble (cats rst) 8 && (Nat.ble (c + pC N.1) (pC M) && Nat.ble (s + pS N.1) (pS M)) with
          | true => natF (c + pC N.1) fun c1 => natF (s + pS N.1) fun s1 => wRecv virt (pO N.1) args h (cal μ N env args m h (fun env q m h => match q with
            | .inl (some x) => aB (L, M, hd) T mt cal ret k env (pc + 3) r lv (x :: rst) m h c1 s1
            | .inl none => aB (L, M, hd) T mt cal ret k env (pc + 3) r lv rst m h c1 s1
            | .inr e => ret env (wBack hd pc e) m h))
          | false => false)
        | none => false)
      (fun q => ret env q m h) = true := by
      rw [aB_succ] at H
      unfold ffch at H
      rcases ffnd_ok H with ⟨f, r, q1, q2, q3⟩ | q
      · exact ⟨f, r, hrest _ q1, fun e he => hrest e (q2 e he), q3⟩
      · rcases ffnd_ok q with ⟨f, r, q1, q2, q3⟩ | q
        · exact ⟨f, r, hT _ q1, fun e he => hT e (q2 e he), q3⟩
        · cases q
    obtain ⟨f, r, hf, hr, H⟩ := key
    refine Or.elim (hf env lv st m h c s _ _ _ _ lv' st' h' he hlv hst hh (fun pc2 lv2 st2 m2 h2 c2 s2 H2 lv2' st2' h2' g1 g2 g3 => ih env pc2 r lv2 st2 m2 h2 c2 s2 H2 hr he lv2' st2' h2' g1 g2 g3) ?_ (fun q H2 r hres => hret env q m h H2 he r h' hres hh) H) (fun ⟨l, hl, e, hel, hee⟩ => ih e pc rest lv st m h c s (lAll_ok hl e hel) hrest hee lv' st' h' hlv hst hh) (fun q => q)
    · intro μ virt H2
      try dsimp only at H2
      split at H2
      · rename_i N hN
        obtain ⟨g1, g2, g3⟩ := tkr_ok H2
        try dsimp only at g3
        split at g3
        · rename_i hb
          rw [Bool.and_eq_true, Bool.and_eq_true, Nat.ble_eq, Nat.ble_eq, Nat.ble_eq] at hb
          obtain ⟨b1, b2, b3⟩ := hb
          have g4 := natF_ok (natF_ok g3)
          obtain ⟨g5, g6⟩ := wRecv_ok hh g4
          obtain ⟨hM, hpad, hcall⟩ := hcal μ N _ _ _ _ _ hN g5
          have hA := (hst.take (pN N.1)).rev
          have hw : ∀ x ∈ (st.take (pN N.1)).reverse, w1 x = true := fun x hx => g2 x (List.mem_reverse.mp hx)
          unfold p_call
          rw [hM]
          refine ⟨by rw [hst.len]; exact g1, by rw [cats_ok (hst.drop (pN N.1))]; exact b1, b2, b3, ?_, ?_⟩
          · intro hv
            obtain ⟨a, r2, fs, e1, e2⟩ := g6 hv
            refine ⟨a, fs, ?_, e2⟩
            rw [List.getLast?_eq_head?_reverse]
            cases hrev : (st.take (pN N.1)).reverse with
            | nil =>
              rw [hrev] at e1
              have := hpad _ (by rw [List.nil_append] at e1; rw [e1]; exact List.mem_cons_self)
              cases this
            | cons x xs =>
              rw [hrev] at e1 hA
              obtain ⟨w, ws, e3, e4, -⟩ := hA
              cases e1
              rw [e3]
              rw [show w = .ref a from e4]
              rfl
          · refine hcall _ _ _ he (lR_args hA hw hpad) ?_ hh ?_
            · rw [sum1 (hA.cat1 hw), List.length_reverse, List.length_take, hst.len]; omega
            · intro env2 q2 m2 h2 H3 he2 r2 h2' hres2 hh2
              unfold p_back
              rcases q2 with (_ | x) | e
              · rcases r2 with w | e2
                · have hnil : w.toList = [] := hres2
                  cases w with
                  | some w => cases hnil
                  | none => exact ih _ _ _ _ _ _ _ _ _ H3 hr he2 _ _ _ hlv (hst.drop (pN N.1)) hh2
                · exact hres2.elim
              · rcases r2 with w | e2
                · exact ih _ _ _ _ _ _ _ _ _ H3 hr he2 _ _ _ hlv (A2.app (hst.drop (pN N.1)) hres2) hh2
                · exact hres2.elim
              · rcases r2 with w | e2
                · exact hres2.elim
                · obtain rfl : e2 = e := hres2
                  have H4 : ret env2 (wBack hd pc e2) m2 h2 = true := H3
                  unfold wBack at H4
                  simp only
                  split at H4
                  · rename_i z hz
                    try rw [hz]
                    exact hret _ _ _ _ H4 he2 _ _ (A2.one (kK _)) hh2
                  · rename_i hz
                    try rw [hz]
                    exact hret _ _ _ _ H4 he2 _ _ rfl hh2
        · cases g3
      · cases H2
def mtOK (θ : Nat → Int32) (L : Nat) (mt : List (List MEn)) : Prop := ∀ μ N, mget mt μ = some N → N.2.2.2 = [] ∨ (MT[μ]? = some N.1 ∧ N.2.1 = (if pK N.1 = 3 then hdOf μ else []) ∧ (∀ v ∈ N.2.2.1, v = aU) ∧ pN N.1 ≤ pL N.1 ∧ ∀ (n : Nat) (Q : Rs → PH → Prop), ∀ e ∈ N.2.2.2, SOK θ L (Ex (L, θ) (n + 4)) N.1 N.2.1 Q e.1 e.2)
theorem aM_ok {θ : Nat → Int32} {L fuel : Nat} {mt : List (List MEn)} (hmt : mtOK θ L mt) : ∀ n, calOK θ (Ex (L, θ) (n + 4)) mt (aM L fuel mt n) := by
  intro n
  induction n with
  | zero => intro μ N env args m h ret hN H; cases (show false = true from H)
  | succ n ih =>
    intro μ N env args m h ret hN H
    have H : aB (L, N.1, N.2.1) N.2.2.2 mt (aM L fuel mt n) ret fuel env 0 N.2.2.2 args [] m h 0 0 = true := H
    rcases hmt μ N hN with q | ⟨h1, h2, h3, h4, h5⟩
    · exfalso
      rw [q] at H
      cases fuel with
      | zero => cases (show false = true from H)
      | succ k => cases (show false = true from H)
    · refine ⟨h1, h3, fun Q args' h' he hlv hsum hh hret => ?_⟩
      rw [show n + 1 + 4 = n + 4 + 1 by omega]
      refine ⟨N.1, h1, by rw [hsum]; exact h4, ?_⟩
      rw [← h2]
      exact aB_ok (Ex.mono _ _) (h5 n Q) ih hret _ _ _ _ _ _ _ _ _ _ H (h5 n Q) he _ _ _ hlv rfl hh
end
section
/-! the careful evaluator: every state that keeps a heap of ranges; what is read gets a new symbol; both branches where it isn't known; loops by what holds at their heads -/
abbrev EW : Type := Nat × List (Int × Int)
abbrev MW : Type := List (Nat × AV × AV)
abbrev AS : Type := (Int × Int) ⊕ Nat
abbrev CS : Type := (Nat × Nat × List (Int × Int)) ⊕ (Nat ⊕ ((Nat × Nat) ⊕ (Nat × List AS)))
abbrev RS : Type := List (List Nat × CS)
abbrev GG : Type := Nat → EW → LW → LW → MW → Nat → Nat → Bool
abbrev GR : Type := EW → AQ → MW → Bool
abbrev WL : Type := List (Nat × Nat)
abbrev GX : Type := PM × HD4 × RS × WL
abbrev GPF : Type := GX → EW → LW → LW → MW → Nat → Nat → GG → (Nat → Bool → Bool) → (AQ → Bool) → Bool
noncomputable def eget (env : EW) (t : Nat) : Option (Int × Int) := match Nat.blt t env.1 with
  | true => lget env.2 (Nat.sub (Nat.sub env.1 1) t)
  | false => none
noncomputable def eset (env : EW) (t : Nat) (r : Int × Int) (k : EW → Bool) : Bool := match Nat.blt t env.1 with
  | true => lset env.2 (Nat.sub (Nat.sub env.1 1) t) r fun l => k (env.1, l)
  | false => false
def frs (env : EW) (lo hi : Int) (k : EW → AV → Bool) : Bool := iF lo fun lo => iF hi fun hi => natF (env.1 + 1) fun n => k (n, (lo, hi) :: env.2) (aY env.1 1 0)
noncomputable def gK (env : EW) (v : AV) (k : Int → Int → Bool) : Bool := match v with
  | .inl x => k x x
  | .inr (.inl (0, lo, hi)) => k lo hi
  | .inr (.inl (t + 1, a, b)) => (match eget env t with
    | some r => (match bLt a 0 with
      | false => iF (a * r.1 + b) fun x => iF (a * r.2 + b) fun y => k x y
      | true => iF (a * r.2 + b) fun x => iF (a * r.1 + b) fun y => k x y)
    | none => false)
  | .inr (.inr _) => false
noncomputable def rfn (env : EW) (v : AV) (lo hi : Int) (k : EW → Bool) : Bool := match v with
  | .inl x => (match bLe lo x && bLe x hi with
    | true => k env
    | false => true)
  | .inr (.inl (t + 1, 1, b)) => (match eget env t with
    | some r => iF (max r.1 (lo - b)) fun x => iF (min r.2 (hi - b)) fun y => (match bLe x y with
      | true => eset env t (x, y) k
      | false => true)
    | none => false)
  | .inr (.inl (t + 1, -1, b)) => (match eget env t with
    | some r => iF (max r.1 (b - hi)) fun x => iF (min r.2 (b - lo)) fun y => (match bLe x y with
      | true => eset env t (x, y) k
      | false => true)
    | none => false)
  | _ => k env
def ngC (c : ClassFile.Cond) : ClassFile.Cond := match c with
  | .eq => .ne
  | .ne => .eq
  | .lt => .ge
  | .ge => .lt
  | .gt => .le
  | .le => .gt
noncomputable def rfC (env : EW) (c : ClassFile.Cond) (x y : AV) (a b a' b' : Int) (k : EW → Bool) : Bool := match c with
  | .lt => rfn env x iLo (b' - 1) fun env => rfn env y (a + 1) iHi k
  | .ge => rfn env x a' iHi fun env => rfn env y iLo b k
  | .gt => rfn env x (a' + 1) iHi fun env => rfn env y iLo (b - 1) k
  | .le => rfn env x iLo b' fun env => rfn env y a iHi k
  | .eq => rfn env x a' b' fun env => rfn env y a b k
  | .ne => (match bEq a' b' with
    | true => (match bEq a a' with
      | true => rfn env x (a + 1) iHi k
      | false => (match bEq b a' with
        | true => rfn env x iLo (b - 1) k
        | false => k env))
    | false => k env)
noncomputable def gBr (env : EW) (c : ClassFile.Cond) (x y : AV) (t f : EW → Bool) : Bool := gK env x fun a b => gK env y fun a' b' => match cmpR c a b a' b' with
  | some true => t env
  | some false => f env
  | none => (match rfC env c x y a b a' b' t with
    | true => rfC env (ngC c) x y a b a' b' f
    | false => false)
noncomputable def gRng (env : EW) (lo hi : Int) (k : EW → AV → Bool) : Bool := match bEq lo hi && inI lo hi with
  | true => iF lo fun x => k env (.inl x)
  | false => (match inI lo hi with
    | true => frs env lo hi k
    | false => frs env iLo iHi k)
noncomputable def gLin (env : EW) (t : Nat) (a b : Int) (k : EW → AV → Bool) : Bool := gK env (aY t a b) fun lo hi => match inI lo hi with
  | true => iF a fun a => iF b fun b => k env (aY t a b)
  | false => frs env iLo iHi k
noncomputable def gAdd (env : EW) (x y : AV) (k : EW → AV → Bool) : Bool := match x, y with
  | .inl a, .inl b => kInt (a + b) fun v => k env v
  | .inr (.inl (t + 1, a, b)), .inl z => gLin env t a (b + z) k
  | .inl z, .inr (.inl (t + 1, a, b)) => gLin env t a (b + z) k
  | x, y => gK env x fun a b => gK env y fun a' b' => gRng env (a + a') (b + b') k
noncomputable def gSub (env : EW) (x y : AV) (k : EW → AV → Bool) : Bool := match x, y with
  | .inl a, .inl b => kInt (a - b) fun v => k env v
  | .inr (.inl (t + 1, a, b)), .inl z => gLin env t a (b - z) k
  | .inl z, .inr (.inl (t + 1, a, b)) => gLin env t (-a) (z - b) k
  | x, y => gK env x fun a b => gK env y fun a' b' => gRng env (a - b') (b - a') k
def mn4 (a b c d : Int) : Int := min (min a b) (min c d)
def mx4 (a b c d : Int) : Int := max (max a b) (max c d)
noncomputable def gMul (env : EW) (x y : AV) (k : EW → AV → Bool) : Bool := match x, y with
  | .inl a, .inl b => kInt (a * b) fun v => k env v
  | .inr (.inl (t + 1, a, b)), .inl z => gLin env t (a * z) (b * z) k
  | .inl z, .inr (.inl (t + 1, a, b)) => gLin env t (a * z) (b * z) k
  | x, y => gK env x fun a b => gK env y fun a' b' => gRng env (mn4 (a * a') (a * b') (b * a') (b * b')) (mx4 (a * a') (a * b') (b * a') (b * b')) k
noncomputable def gPos (env : EW) (y : AV) (k : Int → Bool) : Bool := gK env y fun a b => match bLt 0 a with
  | true => k b
  | false => false
noncomputable def gDiv (env : EW) (x y : AV) (k : EW → AV → Bool) : Bool := match x, y with
  | .inl a, .inl b => (match bEq b 0 with
    | true => false
    | false => iF (bin (· / ·) a b) fun z => k env (.inl z))
  | x, y => gPos env y fun _ => gK env x fun a b => gRng env (min a 0) (max b 0) k
noncomputable def gRem (env : EW) (x y : AV) (k : EW → AV → Bool) : Bool := match x, y with
  | .inl a, .inl b => (match bEq b 0 with
    | true => false
    | false => iF (bin (fun x y => x - x / y * y) a b) fun z => k env (.inl z))
  | x, y => gPos env y fun m => gK env x fun a b => (match bLt a 0 with
    | true => gRng env (1 - m) (m - 1) k
    | false => gRng env 0 (min (m - 1) b) k)
noncomputable def gAny (env : EW) (x y : AV) (f : Int32 → Int32 → Int32) (k : EW → AV → Bool) : Bool := gK env x fun a b => gK env y fun a' b' => match bEq a b && bEq a' b' with
  | true => iF (bin f a a') fun z => k env (.inl z)
  | false => frs env iLo iHi k
abbrev aC (e : Nat) : AV := .inr (.inr (.retAddr e))
noncomputable def kspec (rs : RS) (e : Nat) : Option (List Nat × CS) := lget rs (Nat.div e 65536)
def isOne (l : List Nat) : Bool := match l with
  | [_] => true
  | _ => false
noncomputable def kto (rs : RS) (e k : Nat) (c : Nat → Bool) : Bool := match lget rs k with
  | some q => (match isOne q.1 with
    | true => natF (k * 65536 + 65535) c
    | false => (match kspec rs e with
      | some p => (match Nat.beq p.1.length q.1.length with
        | true => natF (k * 65536 + Nat.mod e 65536) c
        | false => false)
      | none => false))
  | none => false
def aEq (x y : AV) : Bool := match x, y with
  | .inl a, .inl b => bEq a b
  | .inr (.inl (t, a, b)), .inr (.inl (u, c, d)) => Nat.beq t u && (!(Nat.beq t 0) && (bEq a c && bEq b d))
  | _, _ => false
noncomputable def mfind (m : MW) (e : Nat) (p : AV) (k : AV → Bool) (no : Bool) : Bool := List.rec no (fun f _ ih => match Nat.beq f.1 e && aEq f.2.1 p with
  | true => k f.2.2
  | false => ih) m
def isK (x : AV) : Bool := match x with
  | .inl _ => true
  | _ => false
noncomputable def mdrop (m : MW) (r : Nat) (p : AV) : (MW → Bool) → Bool := List.rec (fun k => k []) (fun f _ ih k => match Nat.beq (Nat.div f.1 65536) r && !(isK f.2.1 && (isK p && !(aEq f.2.1 p))) with
  | true => ih k
  | false => ih fun m => k (f :: m)) m
def wAllB (wr : WL) (k : Nat) : Bool := wr.any fun x => Nat.beq x.1 k && Nat.beq x.2 0
def wAll (wr : WL) (k : Nat) (b : Bool) : Bool := match wAllB wr k with
  | true => b
  | false => false
def wHas (wr : WL) (k f : Nat) (b : Bool) : Bool := match wr.any fun x => Nat.beq x.1 k && (Nat.beq x.2 0 || Nat.beq x.2 (f + 1)) with
  | true => b
  | false => false
def g_no : GPF := fun _ _ _ _ _ _ _ _ _ _ => false
def g_push (v : AV) (n : Nat) : GPF := fun _ env lv st m c s go _ _ => go n env lv (v :: st) m c s
noncomputable def g_iload (i n : Nat) : GPF := fun _ env lv st m c s go _ _ => match lget lv i with
  | some v => (match isNum v with
    | true => go n env lv (v :: st) m c s
    | false => false)
  | none => false
noncomputable def g_aload (i n : Nat) : GPF := fun _ env lv st m c s go _ _ => match lget lv i with
  | some (.inr (.inr (.retAddr e))) => go n env lv (aC e :: st) m c s
  | _ => false
noncomputable def g_istore (i n : Nat) : GPF := fun X env lv st m c s go _ _ => match st with
  | v :: r => (match isNum v && Nat.blt i (pL X.1) with
    | true => lset lv i v fun lv => go n env lv r m c s
    | false => false)
  | _ => false
noncomputable def g_astore (i n : Nat) : GPF := fun X env lv st m c s go _ _ => match st with
  | .inr (.inr (.retAddr e)) :: r => (match Nat.blt i (pL X.1) with
    | true => lset lv i (aC e) fun lv => go n env lv r m c s
    | false => false)
  | _ => false
noncomputable def g_iinc (i : Nat) (z : Int) (n : Nat) : GPF := fun X env lv st m c s go _ _ => match lget lv i with
  | some x => (match isNum x && Nat.blt i (pL X.1) with
    | true => gAdd env x (.inl z) fun env v => lset lv i v fun lv => go n env lv st m c s
    | false => false)
  | none => false
noncomputable def g_bin (f : EW → AV → AV → (EW → AV → Bool) → Bool) (n : Nat) : GPF := fun _ env lv st m c s go _ _ => match st with
  | y :: x :: r => f env x y fun env v => go n env lv (v :: r) m c s
  | _ => false
noncomputable def g_neg (n : Nat) : GPF := fun _ env lv st m c s go _ _ => match st with
  | x :: r => gSub env (.inl 0) x fun env v => go n env lv (v :: r) m c s
  | _ => false
noncomputable def g_i2l (n : Nat) : GPF := fun _ env lv st m c s go _ _ => match st with
  | x :: r => (match isNum x with
    | true => go n env lv (.inr (.inr (.double 0)) :: r) m c s
    | false => false)
  | _ => false
def g_dup (n : Nat) : GPF := fun _ env lv st m c s go _ _ => match st with
  | v :: r => (match w1 v with
    | true => go n env lv (v :: v :: r) m c s
    | false => false)
  | _ => false
def g_dup2 (n : Nat) : GPF := fun _ env lv st m c s go _ _ => match st with
  | v :: w :: r => (match w1 v && w1 w with
    | true => go n env lv (v :: w :: v :: w :: r) m c s
    | false => false)
  | _ => false
def g_pop (n : Nat) : GPF := fun _ env lv st m c s go _ _ => match st with
  | v :: r => (match w1 v with
    | true => go n env lv r m c s
    | false => false)
  | _ => false
def g_goto (t : Nat) : GPF := fun _ env lv st m c s go _ _ => go t env lv st m c s
noncomputable def g_if (cc : ClassFile.Cond) (t n : Nat) : GPF := fun _ env lv st m c s go _ _ => match st with
  | x :: r => gBr env cc x (.inl 0) (fun env => go t env lv r m c s) (fun env => go n env lv r m c s)
  | _ => false
noncomputable def g_icmp (cc : ClassFile.Cond) (t n : Nat) : GPF := fun _ env lv st m c s go _ _ => match st with
  | y :: x :: r => gBr env cc x y (fun env => go t env lv r m c s) (fun env => go n env lv r m c s)
  | _ => false
noncomputable def g_sw1 (env : EW) (x : AV) (go : Nat → EW → Bool) (ts : List Nat) : Int → Bool := List.rec (fun _ => true) (fun t _ ih j => match rfn env x j j (go t) with
  | true => iF (j + 1) ih
  | false => false) ts
noncomputable def g_sw (d : Nat) (lo hi : Int) (ts : List Nat) : GPF := fun _ env lv st m c s go _ _ => match st with
  | x :: r => gK env x fun _ _ => (match go d env lv r m c s with
    | true => g_sw1 env x (fun t env => go t env lv r m c s) ts lo
    | false => false)
  | _ => false
noncomputable def gIn (env : EW) (i : AV) (n : Nat) (k : Bool) : Bool := gK env i fun lo hi => match bLe 0 lo && bLt hi (.ofNat n) with
  | true => k
  | false => false
def resid (s : Nat) (i : AV) : Option Nat := match Nat.beq s 1 with
  | true => some 0
  | false => (match i with
    | .inl x => some (Nat.mod x.toNat s)
    | .inr (.inl (_ + 1, a, b)) => (match bEq (Int.emod a (.ofNat s)) 0 with
      | true => some (Int.emod b (.ofNat s)).toNat
      | false => none)
    | _ => none)
noncomputable def rsel (s : Nat) (rl : List (Int × Int)) (i : AV) (k : Int → Int → Bool) : Bool := match resid s i with
  | some q => (match lget rl q with
    | some r => k r.1 r.2
    | none => false)
  | none => false
noncomputable def rselR (s : Nat) (rl : List (Int × Int)) (i : AV) (k : Int → Int → Bool) : Bool := match resid s i with
  | some _ => rsel s rl i k
  | none => k iLo iHi
noncomputable def g_iald (n : Nat) : GPF := fun X env lv st m c s go _ _ => match st with
  | i :: .inr (.inr (.retAddr e)) :: r => (match kspec X.2.2.1 e with
    | some (_, .inl (z, sd, rl)) => gIn env i z (mfind m e i (fun v => go n env lv (v :: r) m c s) (rselR sd rl i fun lo hi => frs env lo hi fun env v => go n env lv (v :: r) ((e, i, v) :: m) c s))
    | _ => false)
  | _ => false
noncomputable def gSub2 (env : EW) (v : AV) (lo hi : Int) (k : Bool) : Bool := gK env v fun a b => match bLe lo a && bLe b hi with
  | true => k
  | false => false
noncomputable def g_iast (n : Nat) : GPF := fun X env lv st m c s go _ _ => match st with
  | v :: i :: .inr (.inr (.retAddr e)) :: r => (match kspec X.2.2.1 e with
    | some (_, .inl (z, sd, rl)) => gIn env i z (rsel sd rl i fun lo hi => gSub2 env v lo hi (wAll X.2.2.2 (Nat.div e 65536) (mdrop m (Nat.div e 65536) i fun m => go n env lv r ((e, i, v) :: m) c s)))
    | _ => false)
  | _ => false
noncomputable def g_last (n : Nat) : GPF := fun X env lv st m c s go _ _ => match st with
  | .inr (.inr (.double _)) :: i :: .inr (.inr (.retAddr e)) :: r => (match kspec X.2.2.1 e with
    | some (_, .inr (.inl z)) => gIn env i z (go n env lv r m c s)
    | _ => false)
  | _ => false
noncomputable def g_aald (n : Nat) : GPF := fun X env lv st m c s go _ _ => match st with
  | i :: .inr (.inr (.retAddr e)) :: r => (match kspec X.2.2.1 e with
    | some (_, .inr (.inr (.inl (_, k)))) => (match lget X.2.2.1 k with
      | some q => (match i with
        | .inr (.inl (t + 1, 1, 0)) => (match Nat.blt t 65536 with
          | true => gIn env i q.1.length (natF (k * 65536 + t) fun e => go n env lv (aC e :: r) m c s)
          | false => false)
        | i => (match Nat.blt env.1 65536 with
          | true => gIn env i q.1.length (gK env i fun lo hi => frs env lo hi fun env2 _ => natF (k * 65536 + env.1) fun e => go n env2 lv (aC e :: r) m c s)
          | false => false))
      | none => false)
    | _ => false)
  | _ => false
noncomputable def g_get (ci f n : Nat) : GPF := fun X env lv st m c s go _ _ => match st with
  | .inr (.inr (.retAddr e)) :: r => (match kspec X.2.2.1 e with
    | some (_, .inr (.inr (.inr (cj, fs)))) => (match Nat.beq cj ci with
      | true => (match lget fs f with
        | some (.inl (lo, hi)) => mfind m e (.inl (.ofNat f)) (fun v => go n env lv (v :: r) m c s) (frs env lo hi fun env v => go n env lv (v :: r) ((e, .inl (.ofNat f), v) :: m) c s)
        | some (.inr k) => kto X.2.2.1 e k fun e => go n env lv (aC e :: r) m c s
        | none => false)
      | false => false)
    | _ => false)
  | _ => false
noncomputable def g_put (ci f n : Nat) : GPF := fun X env lv st m c s go _ _ => match st with
  | v :: .inr (.inr (.retAddr e)) :: r => (match kspec X.2.2.1 e with
    | some (_, .inr (.inr (.inr (cj, fs)))) => (match Nat.beq cj ci with
      | true => (match lget fs f with
        | some (.inl (lo, hi)) => gSub2 env v lo hi (wHas X.2.2.2 (Nat.div e 65536) f (mdrop m (Nat.div e 65536) (.inl (.ofNat f)) fun m => go n env lv r ((e, .inl (.ofNat f), v) :: m) c s))
        | _ => false)
      | false => false)
    | _ => false)
  | _ => false
noncomputable def g_alen (n : Nat) : GPF := fun X env lv st m c s go _ _ => match st with
  | .inr (.inr (.retAddr e)) :: r => (match kspec X.2.2.1 e with
    | some (_, .inl (z, _, _)) => (match Nat.blt z 2147483648 with
      | true => go n env lv (.inl (.ofNat z) :: r) m c s
      | false => false)
    | _ => false)
  | _ => false
noncomputable def g_throw (x : Nat) : GPF := fun X _ _ st _ c s _ _ ret => match X.2.1 with
  | [] => (match Nat.ble (c + 1) (pC X.1) && (Nat.ble (s + 6) (pS X.1) && Nat.ble (cats st) 8) with
    | true => ret (.inr x)
    | false => false)
  | _ => false
def g_call (μ : Nat) (virt : Bool) : GPF := fun _ _ _ _ _ _ _ _ call _ => call μ virt
noncomputable def g_iret : GPF := fun X env _ st _ _ _ _ _ ret => match st with
  | [x] => (match pR X.1 with
    | some .int => (match isNum x with
      | true => ret (.inl (some x))
      | false => false)
    | some .boolean => gSub2 env x 0 1 (ret (.inl (some x)))
    | _ => false)
  | _ => false
def g_aret : GPF := fun X _ _ st _ _ _ _ _ ret => match st with
  | [.inr (.inr (.retAddr e))] => (match pR X.1 with
    | some (.object _) => ret (.inl (some (aC e)))
    | _ => false)
  | _ => false
def g_ret : GPF := fun X _ _ st _ _ _ _ _ ret => match st with
  | [] => (match pR X.1 with
    | none => ret (.inl none)
    | _ => false)
  | _ => false
noncomputable def g_copy (n : Nat) : GPF := fun X env lv st m c s go _ _ => match st with
  | z :: dp :: .inr (.inr (.retAddr e1)) :: sp :: .inr (.inr (.retAddr e0)) :: r => (match kspec X.2.2.1 e0 with
    | some (_, .inl (n0, 1, [(lo0, hi0)])) => (match kspec X.2.2.1 e1 with
      | some (_, .inl (n1, 1, [(lo1, hi1)])) => gK env z fun za zb => gK env dp fun da db => gK env sp fun sa sb => (match (bLe 0 za && (bLe 0 da && bLe 0 sa)) && ((bLe (sb + zb) (.ofNat n0) && bLe (db + zb) (.ofNat n1)) && ((bLe lo1 lo0 && bLe hi0 hi1) && Nat.ble (cats r) 8)) with
        | true => wAll X.2.2.2 (Nat.div e1 65536) (mdrop m (Nat.div e1 65536) aTop fun m => go n env lv r m c s)
        | false => false)
      | _ => false)
    | _ => false)
  | _ => false
def isL (v : AV) : Bool := match v with
  | .inr (.inr (.double _)) => true
  | _ => false
noncomputable def g_lload (i n : Nat) : GPF := fun _ env lv st m c s go _ _ => match lget lv i with
  | some v => (match isL v with
    | true => go n env lv (v :: st) m c s
    | false => false)
  | none => false
noncomputable def g_lbin (n : Nat) : GPF := fun _ env lv st m c s go _ _ => match st with
  | y :: x :: r => (match isL x && isL y with
    | true => go n env lv (x :: r) m c s
    | false => false)
  | _ => false
noncomputable def g_lshl (n : Nat) : GPF := fun _ env lv st m c s go _ _ => match st with
  | y :: x :: r => (match isL x && isNum y with
    | true => go n env lv (x :: r) m c s
    | false => false)
  | _ => false
noncomputable def g_lcmp (n : Nat) : GPF := fun _ env lv st m c s go _ _ => match st with
  | y :: x :: r => (match isL x && isL y with
    | true => frs env (-1) 1 fun env v => go n env lv (v :: r) m c s
    | false => false)
  | _ => false
noncomputable def g_lret : GPF := fun X _ _ st _ _ _ _ _ ret => match st with
  | [x] => (match pR X.1 with
    | some .long => (match isL x with
      | true => ret (.inl (some x))
      | false => false)
    | _ => false)
  | _ => false
noncomputable def noL (lv : LW) (i : Nat) (k : Bool) : Bool := match i with
  | 0 => k
  | j + 1 => (match lget lv j with
    | some v => (match isL v with
      | true => false
      | false => k)
    | none => k)
noncomputable def g_istore2 (i n : Nat) : GPF := fun X env lv st m c s go call ret => noL lv i (g_istore i n X env lv st m c s go call ret)
noncomputable def g_astore2 (i n : Nat) : GPF := fun X env lv st m c s go call ret => noL lv i (g_astore i n X env lv st m c s go call ret)
noncomputable def g_iinc2 (i : Nat) (z : Int) (n : Nat) : GPF := fun X env lv st m c s go call ret => noL lv i (g_iinc i z n X env lv st m c s go call ret)
noncomputable def g_lstore (i n : Nat) : GPF := fun X env lv st m c s go _ _ => match st with
  | v :: r => (match isL v && Nat.blt (i + 1) (pL X.1) with
    | true => noL lv i (lset lv i v fun lv => lset lv (i + 1) aU fun lv => go n env lv r m c s)
    | false => false)
  | _ => false
noncomputable def g_putb (ci f n : Nat) : GPF := fun X env lv st m c s go call ret => match st with
  | v :: r => gSub2 env v 0 1 (g_put ci f n X env lv (v :: r) m c s go call ret)
  | _ => false
def jG (pc : Nat) (z : Int) (f : Nat → GPF) : GPF := if 0 ≤ (pc : Int) + z then f ((pc : Int) + z).toNat else g_no
noncomputable def mkG (te : TE) : GPF := match te.2.1 with
  | .iconst z => g_push (.inl (Int32.ofInt z).toInt) (te.1 + 1)
  | .bipush z => g_push (.inl (Int8.ofInt z).toInt32.toInt) (te.1 + 2)
  | .sipush z => g_push (.inl (Int16.ofInt z).toInt32.toInt) (te.1 + 3)
  | .lconst _ => g_push (.inr (.inr (.double 0))) (te.1 + 1)
  | .ldc _ => (match KLs[te.2.2.1]? with
    | some q => if te.2.2.2 = 0 then g_push (.inl q.2.2.toInt) (te.1 + 2) else g_no
    | none => g_no)
  | .ldc_w _ => (match KLs[te.2.2.1]? with
    | some q => if te.2.2.2 = 0 then g_push (.inl q.2.2.toInt) (te.1 + 3) else g_no
    | none => g_no)
  | .iload i => g_iload i (te.1 + 2)
  | .iload_n i => g_iload i (te.1 + 1)
  | .lload i => g_lload i (te.1 + 2)
  | .aload i => g_aload i (te.1 + 2)
  | .aload_n i => g_aload i (te.1 + 1)
  | .istore i => g_istore2 i (te.1 + 2)
  | .istore_n i => g_istore2 i (te.1 + 1)
  | .lstore i => g_lstore i (te.1 + 2)
  | .astore i => g_astore2 i (te.1 + 2)
  | .astore_n i => g_astore2 i (te.1 + 1)
  | .iinc i z => if inI z z = true then g_iinc2 i z (te.1 + 3) else g_no
  | .iadd => g_bin gAdd (te.1 + 1)
  | .isub => g_bin gSub (te.1 + 1)
  | .imul => g_bin gMul (te.1 + 1)
  | .idiv => g_bin gDiv (te.1 + 1)
  | .irem => g_bin gRem (te.1 + 1)
  | .ineg => g_neg (te.1 + 1)
  | .ishl => g_bin (fun env x y => gAny env x y (fun x y => x <<< (y &&& 31))) (te.1 + 1)
  | .ishr => g_bin (fun env x y => gAny env x y (fun x y => x >>> (y &&& 31))) (te.1 + 1)
  | .iushr => g_bin (fun env x y => gAny env x y (fun x y => (x.toUInt32 >>> (y.toUInt32 &&& Int32.toUInt32 31)).toInt32)) (te.1 + 1)
  | .iand => g_bin (fun env x y => gAny env x y (· &&& ·)) (te.1 + 1)
  | .ior => g_bin (fun env x y => gAny env x y (· ||| ·)) (te.1 + 1)
  | .ixor => g_bin (fun env x y => gAny env x y (· ^^^ ·)) (te.1 + 1)
  | .i2l => g_i2l (te.1 + 1)
  | .lcmp => g_lcmp (te.1 + 1)
  | .lshl => g_lshl (te.1 + 1)
  | .lor => g_lbin (te.1 + 1)
  | .land => g_lbin (te.1 + 1)
  | .dup => g_dup (te.1 + 1)
  | .dup2 => g_dup2 (te.1 + 1)
  | .pop => g_pop (te.1 + 1)
  | .goto z => jG te.1 z g_goto
  | .ifCond cc z => jG te.1 z fun t => g_if cc t (te.1 + 3)
  | .if_icmp cc z => jG te.1 z fun t => g_icmp cc t (te.1 + 3)
  | .tableswitch d lo hi offs => if offs.toList.all (fun o => decide (0 ≤ (te.1 : Int) + o)) = true ∧ hi - lo + 1 = offs.size then jG te.1 d fun d => g_sw d lo hi (offs.toList.map fun o => ((te.1 : Int) + o).toNat) else g_no
  | .iaload => g_iald (te.1 + 1)
  | .iastore => g_iast (te.1 + 1)
  | .lastore => g_last (te.1 + 1)
  | .aaload => g_aald (te.1 + 1)
  | .arraylength => g_alen (te.1 + 1)
  | .getfield _ => if te.2.2.2 < fnum te.2.2.1 then g_get te.2.2.1 te.2.2.2 (te.1 + 3) else g_no
  | .putfield _ => if te.2.2.2 < fnum te.2.2.1 then (match ftyX te.2.2.1 te.2.2.2 with
    | .int => g_put te.2.2.1 te.2.2.2 (te.1 + 3)
    | .boolean => g_putb te.2.2.1 te.2.2.2 (te.1 + 3)
    | _ => g_no) else g_no
  | .new _ => if te.2.2.2 = 1 then (match XLs[te.2.2.1]? with
    | some x => g_throw x.2.2.1
    | none => g_no) else g_no
  | .invokevirtual _ => g_call te.2.2.1 true
  | .invokestatic _ => if te.2.2.2 = 7 then g_copy (te.1 + 3) else g_call te.2.2.1 false
  | .ireturn => g_iret
  | .lreturn => g_lret
  | .areturn => g_aret
  | .return_ => g_ret
  | _ => g_no
end
section
/-! the careful evaluator: what its pictures mean -/
def adR (rs : RS) (θ : Nat → Int32) (n e A : Nat) : Prop := ∃ q, rs[e / 65536]? = some q ∧ ((isOne q.1 = true ∧ q.1[0]? = some A) ∨ (isOne q.1 = false ∧ e % 65536 < n ∧ 0 ≤ (θ (e % 65536)).toInt ∧ q.1[(θ (e % 65536)).toInt.toNat]? = some A))
def asR (rs : RS) (i : Nat) (a : AS) (w : Value) : Prop := match a with
  | .inl (lo, hi) => ∃ y : Int32, w = .int y ∧ lo ≤ y.toInt ∧ y.toInt ≤ hi
  | .inr k => ∃ q A, rs[k]? = some q ∧ q.1[if isOne q.1 = true then 0 else i]? = some A ∧ w = .ref A
def csR (rs : RS) (i : Nat) (c : CS) (y : PE) : Prop := match c with
  | .inl (z, sd, rl) => ∃ g, y = .inl (0, z, .inl g) ∧ ∀ j, j < z → ∃ r, rl[j % sd]? = some r ∧ r.1 ≤ (g j).toInt ∧ (g j).toInt ≤ r.2
  | .inr (.inl z) => ∃ g, y = .inl (1, z, .inr (.inl g))
  | .inr (.inr (.inl (t, k))) => (t = 2 ∨ t = 3) ∧ ∃ q g, rs[k]? = some q ∧ isOne q.1 = false ∧ y = .inl (t, q.1.length, .inr (.inr (.inr (.inr g)))) ∧ ∀ (j A : Nat), q.1[j]? = some A → g j = some A
  | .inr (.inr (.inr (ci, fs))) => ∃ gs, y = .inr (ci, gs) ∧ gs.length = fs.length ∧ ∀ (f : Nat) (a : AS), fs[f]? = some a → ∃ w, gs[f]? = some w ∧ asR rs i a w
def HOK (rs : RS) (h : PH) : Prop := ∀ (k : Nat) (q : List Nat × CS) (i A : Nat), rs[k]? = some q → q.1[i]? = some A → ∃ y, h[A]? = some y ∧ csR rs i q.2 y
def DJ (rs : RS) : Prop := ∀ (k k' : Nat) (q q' : List Nat × CS) (i i' A : Nat), rs[k]? = some q → q.1[i]? = some A → rs[k']? = some q' → q'.1[i']? = some A → k = k' ∧ i = i'
def vG (rs : RS) (θ : Nat → Int32) (n : Nat) (a : AV) (w : Value) : Prop := match a with
  | .inl x => ∃ y : Int32, w = .int y ∧ y.toInt = x
  | .inr (.inl (0, lo, hi)) => ∃ y : Int32, w = .int y ∧ lo ≤ y.toInt ∧ y.toInt ≤ hi
  | .inr (.inl (t + 1, a, b)) => t < n ∧ ∃ y : Int32, w = .int y ∧ y.toInt = a * (θ t).toInt + b
  | .inr (.inr (.retAddr e)) => ∃ A, adR rs θ n e A ∧ w = .ref A
  | .inr (.inr (.double _)) => ∃ x : Int64, w = .long x
  | .inr (.inr v) => w = v
def plain1 (v : AV) : Bool := isNum v || (match v with
  | .inr (.inr (.retAddr _)) => true
  | .inr (.inr (.double _)) => true
  | .inr (.inr .null) => true
  | .inr (.inr (.int _)) => true
  | _ => false)
def lG (rs : RS) (θ : Nat → Int32) (n : Nat) (lv : LW) (lv' : LV) : Prop := ∀ i v, lv[i]? = some v → plain1 v = true ∧ (v = aU ∨ ∃ w, px_g lv' i = some w ∧ vG rs θ n v w)
def cellAt (h : PH) (A j : Nat) (w : Value) : Prop := (∃ z g, h[A]? = some (.inl (0, z, .inl g)) ∧ w = .int (g j)) ∨ ∃ ci gs, h[A]? = some (.inr (ci, gs)) ∧ gs[j]? = some w
def mG (rs : RS) (θ : Nat → Int32) (n : Nat) (m : MW) (h : PH) : Prop := ∀ f ∈ m, ∃ (A : Nat) (j : Int32) (w : Value), adR rs θ n f.1 A ∧ vG rs θ n f.2.1 (.int j) ∧ 0 ≤ j.toInt ∧ cellAt h A j.toInt.toNat w ∧ vG rs θ n f.2.2 w
def wIn (wr : WL) (k f : Nat) : Prop := ∃ x ∈ wr, x.1 = k ∧ (x.2 = 0 ∨ x.2 = f + 1)
def wrR (rs : RS) (wr : WL) (h0 h : PH) : Prop := ∀ (k : Nat) (q : List Nat × CS) (i A : Nat), rs[k]? = some q → q.1[i]? = some A → ∀ (f : Nat) (w : Value), ¬ wIn wr k f → cellAt h0 A f w → cellAt h A f w
def HW (rs : RS) (wr : WL) (h0 h : PH) : Prop := HOK rs h ∧ wrR rs wr h0 h
def Ext (θ : Nat → Int32) (n : Nat) (θ2 : Nat → Int32) (n2 : Nat) : Prop := n ≤ n2 ∧ ∀ t, t < n → θ2 t = θ t
section GR1
variable {rs : RS} {θ θ2 : Nat → Int32} {n n2 : Nat} {env : EW}
theorem Ext.rf : Ext θ n θ n := ⟨Nat.le_refl _, fun _ _ => rfl⟩
def th (θ : Nat → Int32) (n : Nat) (v : Int32) : Nat → Int32 := fun t => if t = n then v else θ t
end GR1
/-! division -/
section GR2
variable {rs : RS} {θ : Nat → Int32} {env : EW}
theorem nz_of {y : Int32} (h : y.toInt ≠ 0) : ¬ y = 0 := fun q => h (by rw [q]; decide)
theorem dv_toInt {x y : Int32} (hy : 0 < y.toInt) : (x / y).toInt = x.toInt.tdiv y.toInt := by
  have hx := i32_rng x
  rw [Int32.toInt_div]
  show (x.toInt.tdiv y.toInt).bmod 4294967296 = _
  have h1 : x.toInt.tdiv y.toInt ≤ 2147483647 ∧ -2147483648 ≤ x.toInt.tdiv y.toInt := by
    rcases Int.le_total 0 x.toInt with h | h
    · have e1 := Int.tdiv_le_self (a := x.toInt) y.toInt h
      have e2 := Int.tdiv_nonneg h (Int.le_of_lt hy)
      omega
    · have e0 : x.toInt.tdiv y.toInt = -((-x.toInt).tdiv y.toInt) := by rw [Int.neg_tdiv, Int.neg_neg]
      have e1 := Int.tdiv_le_self (a := -x.toInt) y.toInt (by omega)
      have e2 := Int.tdiv_nonneg (a := -x.toInt) (by omega) (Int.le_of_lt hy)
      omega
  exact bm h1.2 h1.1
end GR2
end
section
/-! the careful evaluator: every instruction -/
theorem pg_ne2 {lv : LV} {i j : Nat} {u w : Value} (hji : ¬ j = i) (h : px_g lv j = some u) (hu : j + 1 = i → u.category = 1) : px_g (px_s1 lv i w) j = some u := by
  have key : ∀ {lv : LV}, px_g lv j = some u → px_g (lv.filter (fun q => !(q.1 == i) && !(q.1 + 1 == i && q.2.category == 2))) j = some u := by
    intro lv
    induction lv with
    | nil => intro h; simp [px_g] at h
    | cons q lv ih =>
      intro h
      by_cases hq : q.1 = j
      · have e : q.2 = u := by
          simp only [px_g, List.find?, hq, beq_self_eq_true] at h
          simpa using h
        have hP : (!(q.1 == i) && !(q.1 + 1 == i && q.2.category == 2)) = true := by
          rw [e, hq]
          by_cases hji2 : j + 1 = i
          · rw [hu hji2]; simp [hji]
          · simp [hji, hji2]
        rw [List.filter_cons, if_pos hP]
        simp [px_g, List.find?, hq, e]
      · have h' : px_g lv j = some u := by
          simp only [px_g, List.find?] at h ⊢
          rw [show (q.1 == j) = false by simp [hq]] at h
          exact h
        have ih := ih h'
        rw [List.filter_cons]
        split
        · simp only [px_g, List.find?] at ih ⊢
          rw [show (q.1 == j) = false by simp [hq]]
          exact ih
        · exact ih
  have := key h
  unfold px_s1
  simp only [px_g, List.find?] at this ⊢
  rw [show (i == j) = false by simp; exact fun q => hji q.symm]
  exact this
theorem pg_self2 (lv : LV) (i : Nat) (w : Value) : px_g (px_s2 lv i w) i = some w := by simp [px_g, px_s2]
theorem pg_ne3 {lv : LV} {i j : Nat} {u w : Value} (hji : ¬ j = i) (hji1 : ¬ j = i + 1) (h : px_g lv j = some u) (hu : j + 1 = i → u.category = 1) : px_g (px_s2 lv i w) j = some u := by
  have key : ∀ {lv : LV}, px_g lv j = some u → px_g (lv.filter (fun q => !(q.1 == i) && (!(q.1 == i + 1) && !(q.1 + 1 == i && q.2.category == 2)))) j = some u := by
    intro lv
    induction lv with
    | nil => intro h; simp [px_g] at h
    | cons q lv ih =>
      intro h
      by_cases hq : q.1 = j
      · have e : q.2 = u := by
          simp only [px_g, List.find?, hq, beq_self_eq_true] at h
          simpa using h
        have hP : (!(q.1 == i) && (!(q.1 == i + 1) && !(q.1 + 1 == i && q.2.category == 2))) = true := by
          rw [e, hq]
          by_cases hji2 : j + 1 = i
          · rw [hu hji2]; simp [hji, hji1]
          · simp [hji, hji1, hji2]
        rw [List.filter_cons, if_pos hP]
        simp [px_g, List.find?, hq, e]
      · have h' : px_g lv j = some u := by
          simp only [px_g, List.find?] at h ⊢
          rw [show (q.1 == j) = false by simp [hq]] at h
          exact h
        have ih := ih h'
        rw [List.filter_cons]
        split
        · simp only [px_g, List.find?] at ih ⊢
          rw [show (q.1 == j) = false by simp [hq]]
          exact ih
        · exact ih
  have := key h
  unfold px_s2
  simp only [px_g, List.find?] at this ⊢
  rw [show (i == j) = false by simp; exact fun q => hji q.symm]
  exact this
section GO1
variable {rs : RS} {θ : Nat → Int32} {n : Nat}
theorem vG.cat1 {a : AV} {w : Value} (h : vG rs θ n a w) (hp : plain1 a = true) (hl : isL a = false) : w.category = 1 := by
  rcases a with x | ⟨_ | t, r⟩ | v
  · obtain ⟨y, rfl, -⟩ := h; rfl
  · obtain ⟨y, rfl, -⟩ := h; rfl
  · obtain ⟨-, y, rfl, -⟩ := h; rfl
  · cases v
    case retAddr e => obtain ⟨A, -, rfl⟩ := h; rfl
    case double z => cases hl
    case null => rw [show w = .null from h]; rfl
    case int x => rw [show w = .int x from h]; rfl
    all_goals cases hp
theorem lG.set {lv : LW} {lv' : LV} (h : lG rs θ n lv lv') {i : Nat} {v : AV} {w : Value} (hp : plain1 v = true) (hv : vG rs θ n v w) (hn : ∀ j u, j + 1 = i → lv[j]? = some u → isL u = false) : lG rs θ n (lv.set i v) (px_s1 lv' i w) := by
  intro j u hu
  by_cases hij : i = j
  · subst hij
    rw [List.getElem?_set] at hu
    simp only [if_true] at hu
    split at hu
    · cases hu; exact ⟨hp, Or.inr ⟨w, pg_self _ _ _, hv⟩⟩
    · cases hu
  · rw [List.getElem?_set_ne hij] at hu
    obtain ⟨hpu, hq⟩ := h j u hu
    refine ⟨hpu, ?_⟩
    rcases hq with q | ⟨w2, h1, h2⟩
    · exact Or.inl q
    · exact Or.inr ⟨w2, pg_ne2 (fun q => hij q.symm) h1 (fun q => h2.cat1 hpu (hn j u q hu)), h2⟩
/-! cells -/
theorem adR.get {e A : Nat} (H : adR rs θ n e A) : ∃ q i, rs[e / 65536]? = some q ∧ q.1[i]? = some A ∧ (isOne q.1 = true → i = 0) := by
  obtain ⟨q, h1, h2⟩ := H
  rcases h2 with ⟨h2, h3⟩ | ⟨h2, -, -, h3⟩
  · exact ⟨q, 0, h1, h3, fun _ => rfl⟩
  · exact ⟨q, _, h1, h3, fun h => by rw [h2] at h; cases h⟩
theorem HOK.set {h : PH} (hd : DJ rs) (hh : HOK rs h) {k : Nat} {q : List Nat × CS} {i A : Nat} {y : PE} (h1 : rs[k]? = some q) (h2 : q.1[i]? = some A) (hy : csR rs i q.2 y) : HOK rs (h.set A y) := by
  intro k' q' i' A' h1' h2'
  by_cases e : A = A'
  · subst e
    obtain ⟨rfl, rfl⟩ := hd _ _ _ _ _ _ _ h1 h2 h1' h2'
    cases h1.symm.trans h1'
    obtain ⟨y0, g1, -⟩ := hh _ _ _ _ h1 h2
    exact ⟨y, List.getElem?_set_self (List.getElem?_eq_some_iff.mp g1).1, hy⟩
  · obtain ⟨y0, g1, g2⟩ := hh _ _ _ _ h1' h2'
    exact ⟨y0, by rw [List.getElem?_set_ne e]; exact g1, g2⟩
theorem adR.one {e A B : Nat} (h1 : adR rs θ n e A) (h2 : adR rs θ n e B) : A = B := by
  obtain ⟨q, a1, a2⟩ := h1
  obtain ⟨q2, b1, b2⟩ := h2
  cases a1.symm.trans b1
  rcases a2 with ⟨a2, a3⟩ | ⟨a2, -, -, a3⟩ <;> rcases b2 with ⟨b2, b3⟩ | ⟨b2, -, -, b3⟩
  · exact Option.some.inj (a3.symm.trans b3)
  · rw [a2] at b2; cases b2
  · rw [a2] at b2; cases b2
  · exact Option.some.inj (a3.symm.trans b3)
theorem HW.set {h0 h : PH} {wr : WL} (hd : DJ rs) (hh : HW rs wr h0 h) {k : Nat} {q : List Nat × CS} {i A : Nat} {y : PE} (h1 : rs[k]? = some q) (h2 : q.1[i]? = some A) (hy : csR rs i q.2 y) (hw : ∀ f, ¬ wIn wr k f → ∀ w, cellAt h A f w → cellAt (h.set A y) A f w) : HW rs wr h0 (h.set A y) := by
  refine ⟨hh.1.set hd h1 h2 hy, ?_⟩
  intro k' q' i' A' h1' h2' f w hf hc
  have h3 := hh.2 k' q' i' A' h1' h2' f w hf hc
  by_cases e : A = A'
  · subst e
    obtain ⟨rfl, rfl⟩ := hd _ _ _ _ _ _ _ h1 h2 h1' h2'
    exact hw f hf w h3
  · rcases h3 with ⟨z, g, a1, a2⟩ | ⟨ci, gs, a1, a2⟩
    · exact Or.inl ⟨z, g, by rw [List.getElem?_set_ne e]; exact a1, a2⟩
    · exact Or.inr ⟨ci, gs, by rw [List.getElem?_set_ne e]; exact a1, a2⟩
end GO1
end
section
/-! the careful evaluator: rows, objects, ends -/
section GOPH
variable {n0 : Nat} {θ0 : Nat → Int32} {C : Nat → List Value → PH → (Rs → PH → Prop) → Prop} {S : Nat × (Nat → Int32)} {M : PM} {hd : HD4} {rs : RS} {wr : WL} {h0 : PH} {Q : Rs → PH → Prop} {K : Kt} {pc ta tb : Nat}
theorem mG.cons {θ : Nat → Int32} {n e A : Nat} {p v : AV} {j : Int32} {w : Value} {m : MW} {h : PH} (H : mG rs θ n m h) (h1 : adR rs θ n e A) (h2 : vG rs θ n p (.int j)) (h3 : 0 ≤ j.toInt) (h4 : cellAt h A j.toInt.toNat w) (h5 : vG rs θ n v w) : mG rs θ n ((e, p, v) :: m) h := by
  intro f hf
  rcases List.mem_cons.mp hf with rfl | hf
  · exact ⟨A, j, w, h1, h2, h3, h4, h5⟩
  · exact H f hf
end GOPH
end
section
/-! the careful evaluator: what holds at a place, and how a state is seen to keep it -/
abbrev GA : Type := EW × LW × MW × List (Nat × Nat × Nat) × (Int × List (Nat × Int))
/-! sums -/
end
section
/-! the careful evaluator: calls, by what methods keep -/
def wLe (wr2 wr : WL) : Bool := wr2.all fun x => wr.any fun y => Nat.beq y.1 x.1 && (Nat.beq y.2 0 || Nat.beq y.2 x.2)
section GCALL
variable {rs : RS} {θ : Nat → Int32} {env : EW} {n : Nat} {wr wr2 : WL} {h0 h h2 : PH}
theorem wLe_ok (H : wLe wr2 wr = true) {k f : Nat} (h : wIn wr2 k f) : wIn wr k f := by
  obtain ⟨x, hx, h1, h2⟩ := h
  unfold wLe at H
  rw [List.all_eq_true] at H
  have := H x hx
  rw [List.any_eq_true] at this
  obtain ⟨y, hy, q⟩ := this
  rw [Bool.and_eq_true, Bool.or_eq_true, beq_iff, beq_iff, beq_iff] at q
  exact ⟨y, hy, q.1.trans h1, by omega⟩
theorem HW.tr (H : wLe wr2 wr = true) (a : HW rs wr h0 h) (b : HW rs wr2 h h2) : HW rs wr h0 h2 :=
  ⟨b.1, fun k q i A h1 h2 f w hw hc => b.2 k q i A h1 h2 f w (fun p => hw (wLe_ok H p)) (a.2 k q i A h1 h2 f w hw hc)⟩
end GCALL
end
section
/-! the careful evaluator: the run, whole -/
abbrev CALF : Type := GX → GR → Nat → EW → LW → MW → Nat → Nat → Nat → Bool → (EW → LW → MW → Nat → Nat → Bool) → Bool
abbrev GT : Type := List (Nat × (GPF ⊕ List GA))
section GRUN2
variable {n0 : Nat} {θ0 : Nat → Int32} {C : Nat → List Value → PH → (Rs → PH → Prop) → Prop} {S : Nat × (Nat → Int32)} {M : PM} {hd : HD4} {rs : RS} {wr : WL} {h0 : PH} {Q : Rs → PH → Prop} {K : Kt} {cf : CALF} {ret : GR} {T : GT} {arr : GA → EW → LW → LW → MW → Nat → Nat → Bool}
def TOK (M : PM) (T : GT) : Prop := ∀ e ∈ T, ∀ f, e.2 = .inl f → ∃ te, te.1 = e.1 ∧ (pT M).find? (fun x => x.1 == te.1) = some te ∧ f = mkG te
abbrev GI : Type := PM × HD4 × LW × GT
def ITOK (IT : List (Nat × GI)) : Prop := ∀ x ∈ IT, MT[x.1]? = some x.2.1 ∧ x.2.2.1 = (if pK x.2.1 = 3 then hdOf x.1 else []) ∧ (∀ v ∈ x.2.2.2.1, v = aU) ∧ pN x.2.1 ≤ pL x.2.1 ∧ TOK x.2.1 x.2.2.2.2 ∧ ∀ pc l, ¬ (pc, .inr l) ∈ x.2.2.2.2
end GRUN2
end
section
/-! the careful evaluator: a method keeps what is said of it -/
section GMETH2
variable {C : Nat → List Value → PH → (Rs → PH → Prop) → Prop} {S : Nat × (Nat → Int32)} {M : PM} {hd : HD4} {rs : RS} {wr : WL} {h0 : PH} {Q : Rs → PH → Prop} {cf : CALF} {ret : GR} {T : GT}
def HLOK (M : PM) (T : GT) (HL : List (Nat × GA × GPF)) : Prop := (∀ pc l, (pc, .inr l) ∈ T → ∀ A ∈ l, ∃ f, (pc, A, f) ∈ HL) ∧ ∀ x ∈ HL, ∃ te, te.1 = x.1 ∧ (pT M).find? (fun y => y.1 == te.1) = some te ∧ x.2.2 = mkG te
end GMETH2
end
section
/-! the careful evaluator: tables of functions are those of methods -/
def tInc : List TE → Bool
  | [] => true
  | [_] => true
  | a :: b :: r => Nat.blt a.1 b.1 && tInc (b :: r)
theorem tInc.lt {a : TE} : ∀ {r : List TE}, tInc (a :: r) = true → ∀ e ∈ r, a.1 < e.1
  | [], _, e, h => by cases h
  | b :: r, h, e, he => by
    simp only [tInc, Bool.and_eq_true, blt_iff] at h
    rcases List.mem_cons.mp he with rfl | h2
    · exact h.1
    · exact Nat.lt_trans h.1 (tInc.lt h.2 e h2)
theorem tInc.tail {a : TE} : ∀ {r : List TE}, tInc (a :: r) = true → tInc r = true
  | [], _ => rfl
  | b :: r, h => by simp only [tInc, Bool.and_eq_true] at h; exact h.2
theorem tInc.find : ∀ {l : List TE} {e : TE}, tInc l = true → e ∈ l → l.find? (fun q => q.1 == e.1) = some e
  | a :: r, e, h, he => by
    rcases List.mem_cons.mp he with rfl | h2
    · simp
    · have h3 := tInc.lt h e h2
      rw [List.find?_cons_of_neg (by simp; omega)]
      exact tInc.find (tInc.tail h) h2
noncomputable def mkT (hs : List (Nat × List GA)) (te : TE) : Nat × (GPF ⊕ List GA) := (te.1, match hs.find? (fun q => q.1 == te.1) with
  | some q => .inr q.2
  | none => .inl (mkG te))
noncomputable def mkH (hs : List (Nat × List GA)) (te : TE) : List (Nat × GA × GPF) := match hs.find? (fun q => q.1 == te.1) with
  | some q => q.2.map fun A => (te.1, A, mkG te)
  | none => []
theorem TOK.of {M : PM} {T : GT} {hs : List (Nat × List GA)} (ht : tInc (pT M) = true) (hT : T = (pT M).map (mkT hs)) : TOK M T := by
  intro e he f hf
  rw [hT] at he
  obtain ⟨te, h1, rfl⟩ := List.mem_map.mp he
  refine ⟨te, rfl, tInc.find ht h1, ?_⟩
  unfold mkT at hf
  simp only at hf
  split at hf
  · cases hf
  · cases hf; rfl
theorem HLOK.of {M : PM} {T : GT} {hs : List (Nat × List GA)} {HL : List (Nat × GA × GPF)} (ht : tInc (pT M) = true) (hT : T = (pT M).map (mkT hs)) (hH : HL = (pT M).flatMap (mkH hs)) : HLOK M T HL := by
  refine ⟨fun pc l hl A hA => ?_, fun x hx => ?_⟩
  · rw [hT] at hl
    obtain ⟨te, h1, h2⟩ := List.mem_map.mp hl
    unfold mkT at h2
    split at h2
    · rename_i q hq
      cases h2
      refine ⟨mkG te, ?_⟩
      rw [hH]
      refine List.mem_flatMap.mpr ⟨te, h1, ?_⟩
      unfold mkH
      rw [hq]
      exact List.mem_map.mpr ⟨A, hA, rfl⟩
    · cases h2
  · rw [hH] at hx
    obtain ⟨te, h1, h2⟩ := List.mem_flatMap.mp hx
    unfold mkH at h2
    split at h2
    · obtain ⟨A, -, rfl⟩ := List.mem_map.mp h2
      exact ⟨te, rfl, tInc.find ht h1, rfl⟩
    · cases h2
def isU (v : AV) : Bool := match v with
  | .inr (.inr .null) => true
  | _ => false
theorem isU_ok {v : AV} (h : isU v = true) : v = aU := by
  unfold isU at h
  split at h
  · rfl
  · cases h
theorem ITOK.nil : ITOK [] := fun x hx => by cases hx
theorem ITOK.cons {μ : Nat} {N : GI} {IT : List (Nat × GI)} (h1 : MT[μ]? = some N.1) (h2 : N.2.1 = (if pK N.1 = 3 then hdOf μ else [])) (h3 : N.2.2.1.all isU = true) (h4 : Nat.ble (pN N.1) (pL N.1) = true) (ht : tInc (pT N.1) = true) (hT : N.2.2.2 = (pT N.1).map (mkT [])) (h : ITOK IT) : ITOK ((μ, N) :: IT) := by
  intro x hx
  rcases List.mem_cons.mp hx with rfl | hx
  · refine ⟨h1, h2, fun v hv => isU_ok (List.all_eq_true.mp h3 v hv), Nat.le_of_ble_eq_true h4, TOK.of ht hT, fun pc l hA => ?_⟩
    have hA : (pc, Sum.inr l) ∈ N.2.2.2 := hA
    rw [hT] at hA
    obtain ⟨te, -, h5⟩ := List.mem_map.mp hA
    cases h5
  · exact h x hx
theorem DJ.of : ∀ {rs : RS}, (rs.flatMap (fun q => q.1)).Nodup → DJ rs
  | [], _ => fun k k' q q' i i' A h1 => by simp at h1
  | p :: rs, hn => by
    rw [List.flatMap_cons, List.nodup_append] at hn
    obtain ⟨n1, n2, n3⟩ := hn
    have ih := DJ.of n2
    have inr : ∀ {k i A : Nat} {q : List Nat × CS}, rs[k]? = some q → q.1[i]? = some A → A ∈ rs.flatMap (fun q => q.1) := fun {k i A q} a b => List.mem_flatMap.mpr ⟨q, List.mem_of_getElem? a, List.mem_of_getElem? b⟩
    intro k k' q q' i i' A h1 h2 h3 h4
    cases k with
    | zero =>
      cases k' with
      | zero =>
        simp at h1 h3
        subst h1
        subst h3
        refine ⟨rfl, ?_⟩
        exact (List.getElem?_inj (List.getElem?_eq_some_iff.mp h2).1 n1).mp (h2.trans h4.symm)
      | succ k' =>
        simp at h1
        subst h1
        exact absurd rfl (n3 A (List.mem_of_getElem? h2) A (inr (by simpa using h3) h4))
    | succ k =>
      cases k' with
      | zero =>
        simp at h3
        subst h3
        exact absurd rfl (n3 A (List.mem_of_getElem? h4) A (inr (by simpa using h1) h2))
      | succ k' =>
        obtain ⟨a, b⟩ := ih k k' q q' i i' A (by simpa using h1) h2 (by simpa using h3) h4
        exact ⟨by omega, b⟩
end
section
/-! the machine by hand: numbers are Int, a heap is a memory of numbers (address, place) of a known shape; Wx: a body from a place on, with locals that are known or not -/
abbrev WV : Type := Int ⊕ Nat
abbrev MM : Type := Nat → Nat → Int
def InI (x : Int) : Prop := -2147483648 ≤ x ∧ x ≤ 2147483647
def wv : WV → Value
  | .inl x => .int (Int32.ofInt x)
  | .inr a => .ref a
def vOK : WV → Prop
  | .inl x => InI x
  | .inr _ => True
theorem wv_cat (v : WV) : (wv v).category = 1 := by cases v <;> rfl
theorem wi {x : Int} (h : InI x) : (Int32.ofInt x).toInt = x := by
  rw [Int32.toInt_ofInt]; exact bm h.1 h.2
theorem wiI (x : Int32) : InI x.toInt := i32_rng x
abbrev SH : Type := Nat ⊕ (Nat × List (Option Nat))
def shR (s : SH) (m : Nat → Int) (y : PE) : Prop := match s with
  | .inl n => ∃ g : Nat → Int32, y = .inl (0, n, .inl g) ∧ ∀ i, m i = (g i).toInt
  | .inr (ci, fs) => ∃ gs, y = .inr (ci, gs) ∧ gs.length = fs.length ∧ ∀ i, match fs[i]? with
    | some none => ∃ z : Int32, gs[i]? = some (.int z) ∧ m i = z.toInt
    | some (some A) => gs[i]? = some (.ref A)
    | none => True
def shA (A : Nat) : Option SH := match A with
  | 0 => some (.inr (9, [some 1, some 9, some 14, some 19, some 21, some 37, some 129, some 134, some 139, some 141, none, none]))
  | 1 => some (.inr (0, [none, some 2, some 3, some 4, some 5, some 6, some 7, some 8]))
  | 2 => some (.inl 8)
  | 3 => some (.inl 32)
  | 4 => some (.inl 8)
  | 5 => some (.inl 6)
  | 6 => some (.inl 6)
  | 7 => some (.inl 6)
  | 8 => some (.inl 3)
  | 9 => some (.inr (7, [none, some 10, some 11, some 12, some 13, none, none, none]))
  | 10 => some (.inl 64)
  | 11 => some (.inl 64)
  | 12 => some (.inl 64)
  | 13 => some (.inl 64)
  | 14 => some (.inr (7, [none, some 15, some 16, some 17, some 18, none, none, none]))
  | 15 => some (.inl 64)
  | 16 => some (.inl 64)
  | 17 => some (.inl 64)
  | 18 => some (.inl 64)
  | 19 => some (.inr (5, [none, none, some 20]))
  | 20 => some (.inl 64)
  | 21 => some (.inr (6, [none, none, none, none, none, some 22, some 23, some 24, some 25, some 26, some 27, some 28, some 29, some 30, some 31, some 32, some 33, some 34, some 35, some 36]))
  | 22 => some (.inl 8)
  | 23 => some (.inl 8)
  | 24 => some (.inl 8)
  | 25 => some (.inl 3)
  | 26 => some (.inl 3)
  | 27 => some (.inl 32)
  | 28 => some (.inl 12)
  | 29 => some (.inl 32)
  | 30 => some (.inl 64)
  | 31 => some (.inl 512)
  | 32 => some (.inl 8)
  | 33 => some (.inl 8)
  | 34 => some (.inl 8)
  | 35 => some (.inl 8)
  | 36 => some (.inl 8)
  | 38 => some (.inr (1, [none, none, none, none, none, none, none, none, some 39, some 40, some 41, some 42, some 43, some 44]))
  | 39 => some (.inl 8)
  | 40 => some (.inl 8)
  | 41 => some (.inl 8)
  | 42 => some (.inl 8)
  | 43 => some (.inl 8)
  | 44 => some (.inl 8)
  | 45 => some (.inr (1, [none, none, none, none, none, none, none, none, some 46, some 47, some 48, some 49, some 50, some 51]))
  | 46 => some (.inl 8)
  | 47 => some (.inl 8)
  | 48 => some (.inl 8)
  | 49 => some (.inl 8)
  | 50 => some (.inl 8)
  | 51 => some (.inl 8)
  | 52 => some (.inr (1, [none, none, none, none, none, none, none, none, some 53, some 54, some 55, some 56, some 57, some 58]))
  | 53 => some (.inl 8)
  | 54 => some (.inl 8)
  | 55 => some (.inl 8)
  | 56 => some (.inl 8)
  | 57 => some (.inl 8)
  | 58 => some (.inl 8)
  | 59 => some (.inr (1, [none, none, none, none, none, none, none, none, some 60, some 61, some 62, some 63, some 64, some 65]))
  | 60 => some (.inl 8)
  | 61 => some (.inl 8)
  | 62 => some (.inl 8)
  | 63 => some (.inl 8)
  | 64 => some (.inl 8)
  | 65 => some (.inl 8)
  | 66 => some (.inr (1, [none, none, none, none, none, none, none, none, some 67, some 68, some 69, some 70, some 71, some 72]))
  | 67 => some (.inl 8)
  | 68 => some (.inl 8)
  | 69 => some (.inl 8)
  | 70 => some (.inl 8)
  | 71 => some (.inl 8)
  | 72 => some (.inl 8)
  | 73 => some (.inr (1, [none, none, none, none, none, none, none, none, some 74, some 75, some 76, some 77, some 78, some 79]))
  | 74 => some (.inl 8)
  | 75 => some (.inl 8)
  | 76 => some (.inl 8)
  | 77 => some (.inl 8)
  | 78 => some (.inl 8)
  | 79 => some (.inl 8)
  | 80 => some (.inr (1, [none, none, none, none, none, none, none, none, some 81, some 82, some 83, some 84, some 85, some 86]))
  | 81 => some (.inl 8)
  | 82 => some (.inl 8)
  | 83 => some (.inl 8)
  | 84 => some (.inl 8)
  | 85 => some (.inl 8)
  | 86 => some (.inl 8)
  | 87 => some (.inr (1, [none, none, none, none, none, none, none, none, some 88, some 89, some 90, some 91, some 92, some 93]))
  | 88 => some (.inl 8)
  | 89 => some (.inl 8)
  | 90 => some (.inl 8)
  | 91 => some (.inl 8)
  | 92 => some (.inl 8)
  | 93 => some (.inl 8)
  | 94 => some (.inr (1, [none, none, none, none, none, none, none, none, some 95, some 96, some 97, some 98, some 99, some 100]))
  | 95 => some (.inl 8)
  | 96 => some (.inl 8)
  | 97 => some (.inl 8)
  | 98 => some (.inl 8)
  | 99 => some (.inl 8)
  | 100 => some (.inl 8)
  | 101 => some (.inr (1, [none, none, none, none, none, none, none, none, some 102, some 103, some 104, some 105, some 106, some 107]))
  | 102 => some (.inl 8)
  | 103 => some (.inl 8)
  | 104 => some (.inl 8)
  | 105 => some (.inl 8)
  | 106 => some (.inl 8)
  | 107 => some (.inl 8)
  | 108 => some (.inr (1, [none, none, none, none, none, none, none, none, some 109, some 110, some 111, some 112, some 113, some 114]))
  | 109 => some (.inl 8)
  | 110 => some (.inl 8)
  | 111 => some (.inl 8)
  | 112 => some (.inl 8)
  | 113 => some (.inl 8)
  | 114 => some (.inl 8)
  | 115 => some (.inr (1, [none, none, none, none, none, none, none, none, some 116, some 117, some 118, some 119, some 120, some 121]))
  | 116 => some (.inl 8)
  | 117 => some (.inl 8)
  | 118 => some (.inl 8)
  | 119 => some (.inl 8)
  | 120 => some (.inl 8)
  | 121 => some (.inl 8)
  | 122 => some (.inr (1, [none, none, none, none, none, none, none, none, some 123, some 124, some 125, some 126, some 127, some 128]))
  | 123 => some (.inl 8)
  | 124 => some (.inl 8)
  | 125 => some (.inl 8)
  | 126 => some (.inl 8)
  | 127 => some (.inl 8)
  | 128 => some (.inl 8)
  | 129 => some (.inr (2, [none, none, none, none, some 130, some 131, some 132, some 133]))
  | 130 => some (.inl 8)
  | 131 => some (.inl 8)
  | 132 => some (.inl 12)
  | 133 => some (.inl 8)
  | 134 => some (.inr (4, [some 135, some 138]))
  | 136 => some (.inl 64)
  | 137 => some (.inl 64)
  | 138 => some (.inl 320)
  | 139 => some (.inr (8, [some 140]))
  | 140 => some (.inl 8)
  | 141 => some (.inr (3, [some 142, none, none]))
  | 142 => some (.inl 1024)
  | 143 => some (.inr (10, [none, none, some 144, some 145, some 146, some 147, some 148, some 149, some 150, some 151, some 152, some 153, none, some 154, some 155, some 156, some 157, some 158, none, some 159, some 160, some 161, some 162, some 163, some 164, none, some 165, some 166, some 167, some 168, some 169, none, none, none, some 170, some 171, some 172]))
  | 144 => some (.inl 8)
  | 145 => some (.inl 8)
  | 146 => some (.inl 8)
  | 147 => some (.inl 8)
  | 148 => some (.inl 8)
  | 149 => some (.inl 8)
  | 150 => some (.inl 6)
  | 151 => some (.inl 6)
  | 152 => some (.inl 6)
  | 153 => some (.inl 3)
  | 154 => some (.inl 48)
  | 155 => some (.inl 48)
  | 156 => some (.inl 48)
  | 157 => some (.inl 48)
  | 158 => some (.inl 64)
  | 159 => some (.inl 36)
  | 160 => some (.inl 8)
  | 161 => some (.inl 8)
  | 162 => some (.inl 64)
  | 163 => some (.inl 8)
  | 164 => some (.inl 8)
  | 165 => some (.inl 128)
  | 166 => some (.inl 640)
  | 167 => some (.inl 328)
  | 168 => some (.inl 8)
  | 169 => some (.inl 8)
  | 170 => some (.inl 9)
  | 171 => some (.inl 8)
  | 172 => some (.inl 8)
  | _ => none
def RH (h0 h : PH) (mem : MM) : Prop := (∀ A, shA A = none → h[A]? = h0[A]?) ∧ ∀ A s, shA A = some s → ∃ y, h[A]? = some y ∧ shR s (mem A) y
def upm (mem : MM) (A i : Nat) (x : Int) : MM := fun B j => if B = A ∧ j = i then x else mem B j
theorem upm_eq {mem : MM} {A i : Nat} {x : Int} : upm mem A i x A i = x := if_pos ⟨rfl, rfl⟩
theorem upm_ne {mem : MM} {A i B j : Nat} {x : Int} (h : ¬ (B = A ∧ j = i)) : upm mem A i x B j = mem B j := if_neg h
theorem RH.row {h0 h : PH} {mem : MM} (H : RH h0 h mem) {A n : Nat} (hA : shA A = some (.inl n)) : ∃ g : Nat → Int32, h[A]? = some (.inl (0, n, .inl g)) ∧ ∀ i, mem A i = (g i).toInt := by
  obtain ⟨y, h1, g, rfl, h2⟩ := H.2 A _ hA
  exact ⟨g, h1, h2⟩
theorem RH.rowI {h0 h : PH} {mem : MM} (H : RH h0 h mem) {A n : Nat} (hA : shA A = some (.inl n)) (i : Nat) : InI (mem A i) := by
  obtain ⟨g, -, h2⟩ := H.row hA
  rw [h2]; exact wiI _
theorem RH.obj {h0 h : PH} {mem : MM} (H : RH h0 h mem) {A ci : Nat} {fs : List (Option Nat)} (hA : shA A = some (.inr (ci, fs))) : ∃ gs, h[A]? = some (.inr (ci, gs)) ∧ gs.length = fs.length ∧ ∀ i, match fs[i]? with
    | some none => ∃ z : Int32, gs[i]? = some (.int z) ∧ mem A i = z.toInt
    | some (some A) => gs[i]? = some (.ref A)
    | none => True := by
  obtain ⟨y, h1, gs, rfl, h2⟩ := H.2 A _ hA
  exact ⟨gs, h1, h2⟩
theorem RH.fldI {h0 h : PH} {mem : MM} (H : RH h0 h mem) {A ci f : Nat} {fs : List (Option Nat)} (hA : shA A = some (.inr (ci, fs))) (hf : fs[f]? = some none) : InI (mem A f) := by
  obtain ⟨gs, -, -, h2⟩ := H.obj hA
  have := h2 f
  rw [hf] at this
  obtain ⟨z, -, e⟩ := this
  rw [e]; exact wiI _
theorem RH.setRow {h0 h : PH} {mem : MM} (H : RH h0 h mem) {A n i : Nat} {g : Nat → Int32} {x : Int32} (hA : shA A = some (.inl n)) (hg : h[A]? = some (.inl (0, n, .inl g))) : RH h0 (h.set A (.inl (0, n, .inl (upd g i x)))) (upm mem A i x.toInt) := by
  obtain ⟨g2, e1, e2⟩ := H.row hA
  rw [hg] at e1
  cases e1
  have hl := (List.getElem?_eq_some_iff.mp hg).1
  refine ⟨fun B hB => by
    rw [List.getElem?_set_ne (fun q => by rw [q, hB] at hA; cases hA)]
    exact H.1 B hB, ?_⟩
  intro B s hB
  by_cases hAB : A = B
  · subst hAB
    rw [hA] at hB
    cases hB
    refine ⟨_, List.getElem?_set_self hl, upd g i x, rfl, fun j => ?_⟩
    show upm mem A i x.toInt A j = _
    unfold upm upd
    by_cases hj : j = i
    · rw [if_pos ⟨rfl, hj⟩, if_pos hj]
    · rw [if_neg (fun q => hj q.2), if_neg hj]; exact e2 j
  · obtain ⟨y, h1, h2⟩ := H.2 B s hB
    refine ⟨y, by rw [List.getElem?_set_ne hAB]; exact h1, ?_⟩
    have : upm mem A i x.toInt B = mem B := by
      funext j
      exact upm_ne (fun q => hAB q.1.symm)
    rw [this]; exact h2
theorem RH.setObj {h0 h : PH} {mem : MM} (H : RH h0 h mem) {A ci f : Nat} {fs : List (Option Nat)} {gs : List Value} {x : Int32} (hA : shA A = some (.inr (ci, fs))) (hf : fs[f]? = some none) (hg : h[A]? = some (.inr (ci, gs))) : RH h0 (h.set A (.inr (ci, gs.set f (.int x)))) (upm mem A f x.toInt) := by
  obtain ⟨g2, e1, e2, e3⟩ := H.obj hA
  rw [hg] at e1
  cases e1
  have hl := (List.getElem?_eq_some_iff.mp hg).1
  have hfl : f < gs.length := by rw [e2]; exact (List.getElem?_eq_some_iff.mp hf).1
  refine ⟨fun B hB => by
    rw [List.getElem?_set_ne (fun q => by rw [q, hB] at hA; cases hA)]
    exact H.1 B hB, ?_⟩
  intro B s hB
  by_cases hAB : A = B
  · subst hAB
    rw [hA] at hB
    cases hB
    refine ⟨_, List.getElem?_set_self hl, gs.set f (.int x), rfl, by rw [List.length_set]; exact e2, fun j => ?_⟩
    by_cases hj : f = j
    · subst hj
      rw [hf]
      exact ⟨x, List.getElem?_set_self hfl, upm_eq⟩
    · have := e3 j
      rw [List.getElem?_set_ne hj, show upm mem A f x.toInt A j = mem A j from upm_ne (fun q => hj q.2.symm)]
      exact this
  · obtain ⟨y, h1, h2⟩ := H.2 B s hB
    refine ⟨y, by rw [List.getElem?_set_ne hAB]; exact h1, ?_⟩
    have : upm mem A f x.toInt B = mem B := by
      funext j
      exact upm_ne (fun q => hAB q.1.symm)
    rw [this]; exact h2
def LkW (lv : LV) (L : List (Option WV)) : Prop := ∀ i v, L[i]? = some (some v) → px_g lv i = some (wv v) ∧ vOK v
abbrev WK : Type := Option Int → MM → Prop
def QK (h0 : PH) (K : WK) : Rs → PH → Prop := fun r h => ∃ (x : Option Int) (mem : MM), r = .inl (x.map fun y => .int (Int32.ofInt y)) ∧ (∀ y, x = some y → InI y) ∧ RH h0 h mem ∧ K x mem
abbrev CXW : Type := Nat → List Value → PH → (Rs → PH → Prop) → Prop
def Wx (C : CXW) (S : Nat × (Nat → Int32)) (M : PM) (K : WK) (pc : Nat) (L : List (Option WV)) (st : List WV) (mem : MM) : Prop := ∀ (h0 : PH) (lv : LV) (h : PH), LkW lv L → (∀ v ∈ st, vOK v) → RH h0 h mem → Vx C S M [] (QK h0 K) pc lv (st.map wv) h 0 0
def CW (C : CXW) (μ : Nat) (args : List WV) (mem : MM) (K : WK) : Prop := (∀ v ∈ args, vOK v) → ∀ h0 h, RH h0 h mem → C μ (args.map wv) h (QK h0 K)
def CWI (C : CXW) (μ : Nat) (args : List WV) (mem : MM) (K : Int → MM → Prop) : Prop := CW C μ args mem fun r m => ∃ y, r = some y ∧ K y m
def CWV (C : CXW) (μ : Nat) (args : List WV) (mem : MM) (K : MM → Prop) : Prop := CW C μ args mem fun r m => r = none ∧ K m
theorem CW.mono {C : CXW} (hC : Cmono C) {μ : Nat} {args : List WV} {mem : MM} {K K' : WK} (h : ∀ r m, K r m → K' r m) (H : CW C μ args mem K) : CW C μ args mem K' := fun h1 h0 h2 h3 => hC _ _ _ _ _ (fun r _ ⟨x, m, e1, e2, e3, e4⟩ => ⟨x, m, e1, e2, e3, h _ _ e4⟩) (H h1 h0 h2 h3)
theorem CWI.mono {C : CXW} (hC : Cmono C) {μ : Nat} {args : List WV} {mem : MM} {K K' : Int → MM → Prop} (h : ∀ r m, K r m → K' r m) (H : CWI C μ args mem K) : CWI C μ args mem K' := CW.mono hC (fun _ _ ⟨y, e, q⟩ => ⟨y, e, h _ _ q⟩) H
theorem CWV.mono {C : CXW} (hC : Cmono C) {μ : Nat} {args : List WV} {mem : MM} {K K' : MM → Prop} (h : ∀ m, K m → K' m) (H : CWV C μ args mem K) : CWV C μ args mem K' := CW.mono hC (fun _ _ ⟨e, q⟩ => ⟨e, h _ q⟩) H
section WX
variable {C : CXW} {S : Nat × (Nat → Int32)} {M : PM} {K : WK} {pc : Nat} {L : List (Option WV)} {st : List WV} {mem : MM}
theorem Wx.go (hC : Cmono C) {te : TE} (ht : (pT M).find? (fun e => e.1 == pc) = some te) (H : ∀ (h0 : PH) (lv : LV) (h : PH), LkW lv L → (∀ v ∈ st, vOK v) → RH h0 h mem → pmI C S M [] (QK h0 K) (Vx C S M [] (QK h0 K)) te lv (st.map wv) h 0 0) : Wx C S M K pc L st mem := fun h0 lv h h1 h2 h3 => Vx.go hC ht (H h0 lv h h1 h2 h3)
theorem stc {v : WV} (hv : vOK v) (hs : ∀ u ∈ st, vOK u) : ∀ u ∈ v :: st, vOK u := by
  intro u hu
  rcases List.mem_cons.mp hu with rfl | hu
  · exact hv
  · exact hs u hu
theorem LkW.set {lv : LV} (h : LkW lv L) {i : Nat} {v : WV} (hv : vOK v) : LkW (px_s1 lv i (wv v)) (L.set i (some v)) := by
  intro j u hu
  by_cases hij : i = j
  · subst hij
    rw [List.getElem?_set] at hu
    simp only [if_true] at hu
    split at hu
    · cases hu; exact ⟨pg_self _ _ _, hv⟩
    · cases hu
  · rw [List.getElem?_set_ne hij] at hu
    obtain ⟨h1, h2⟩ := h j u hu
    exact ⟨pg_ne (fun q => hij q.symm) h1 (wv_cat u), h2⟩
/-! pushes -/
theorem Wx.iconst (hC : Cmono C) {z : Int} {a b : Nat} (ht : (pT M).find? (fun e => e.1 == pc) = some (pc, .iconst z, a, b)) (hz : inI z z = true) (H : Wx C S M K (pc + 1) L (.inl z :: st) mem) : Wx C S M K pc L st mem :=
  Wx.go hC ht fun h0 lv h h1 h2 h3 => H h0 lv h h1 (stc (inI_iff.mp hz) h2) h3
theorem Wx.bipush (hC : Cmono C) {z : Int} {a b : Nat} (ht : (pT M).find? (fun e => e.1 == pc) = some (pc, .bipush z, a, b)) (hz : inI z z = true) (e : (Int8.ofInt z).toInt32 = Int32.ofInt z) (H : Wx C S M K (pc + 2) L (.inl z :: st) mem) : Wx C S M K pc L st mem :=
  Wx.go hC ht fun h0 lv h h1 h2 h3 => by
    have := H h0 lv h h1 (stc (inI_iff.mp hz) h2) h3
    show Vx C S M [] (QK h0 K) (pc + 2) lv (.int (Int8.ofInt z).toInt32 :: st.map wv) h 0 0
    rw [e]; exact this
theorem Wx.sipush (hC : Cmono C) {z : Int} {a b : Nat} (ht : (pT M).find? (fun e => e.1 == pc) = some (pc, .sipush z, a, b)) (hz : inI z z = true) (e : (Int16.ofInt z).toInt32 = Int32.ofInt z) (H : Wx C S M K (pc + 3) L (.inl z :: st) mem) : Wx C S M K pc L st mem :=
  Wx.go hC ht fun h0 lv h h1 h2 h3 => by
    have := H h0 lv h h1 (stc (inI_iff.mp hz) h2) h3
    show Vx C S M [] (QK h0 K) (pc + 3) lv (.int (Int16.ofInt z).toInt32 :: st.map wv) h 0 0
    rw [e]; exact this
theorem Wx.iload (hC : Cmono C) {i a b : Nat} {x : Int} (ht : (pT M).find? (fun e => e.1 == pc) = some (pc, .iload i, a, b)) (hl : L[i]? = some (some (.inl x))) (H : Wx C S M K (pc + 2) L (.inl x :: st) mem) : Wx C S M K pc L st mem :=
  Wx.go hC ht fun h0 lv h h1 h2 h3 => ⟨_, (h1 i _ hl).1, H h0 lv h h1 (stc (h1 i _ hl).2 h2) h3⟩
theorem Wx.iload_n (hC : Cmono C) {i : Fin 4} {a b : Nat} {x : Int} (ht : (pT M).find? (fun e => e.1 == pc) = some (pc, .iload_n i, a, b)) (hl : L[i.val]? = some (some (.inl x))) (H : Wx C S M K (pc + 1) L (.inl x :: st) mem) : Wx C S M K pc L st mem :=
  Wx.go hC ht fun h0 lv h h1 h2 h3 => ⟨_, (h1 i _ hl).1, H h0 lv h h1 (stc (h1 i _ hl).2 h2) h3⟩
theorem Wx.aload (hC : Cmono C) {i a b A : Nat} (ht : (pT M).find? (fun e => e.1 == pc) = some (pc, .aload i, a, b)) (hl : L[i]? = some (some (.inr A))) (H : Wx C S M K (pc + 2) L (.inr A :: st) mem) : Wx C S M K pc L st mem :=
  Wx.go hC ht fun h0 lv h h1 h2 h3 => ⟨_, (h1 i _ hl).1, ⟨A, Or.inl rfl⟩, H h0 lv h h1 (stc trivial h2) h3⟩
theorem Wx.aload_n (hC : Cmono C) {i : Fin 4} {a b A : Nat} (ht : (pT M).find? (fun e => e.1 == pc) = some (pc, .aload_n i, a, b)) (hl : L[i.val]? = some (some (.inr A))) (H : Wx C S M K (pc + 1) L (.inr A :: st) mem) : Wx C S M K pc L st mem :=
  Wx.go hC ht fun h0 lv h h1 h2 h3 => ⟨_, (h1 i _ hl).1, ⟨A, Or.inl rfl⟩, H h0 lv h h1 (stc trivial h2) h3⟩
theorem Wx.istore (hC : Cmono C) {i a b : Nat} {x : Int} (ht : (pT M).find? (fun e => e.1 == pc) = some (pc, .istore i, a, b)) (hi : Nat.blt i (pL M) = true) (H : Wx C S M K (pc + 2) (L.set i (some (.inl x))) st mem) : Wx C S M K pc L (.inl x :: st) mem :=
  Wx.go hC ht fun h0 lv h h1 h2 h3 => ⟨blt_iff.mp hi, H h0 _ h (h1.set (h2 _ List.mem_cons_self)) (fun u hu => h2 u (List.mem_cons_of_mem _ hu)) h3⟩
theorem Wx.istore_n (hC : Cmono C) {i : Fin 4} {a b : Nat} {x : Int} (ht : (pT M).find? (fun e => e.1 == pc) = some (pc, .istore_n i, a, b)) (hi : Nat.blt i.val (pL M) = true) (H : Wx C S M K (pc + 1) (L.set i.val (some (.inl x))) st mem) : Wx C S M K pc L (.inl x :: st) mem :=
  Wx.go hC ht fun h0 lv h h1 h2 h3 => ⟨blt_iff.mp hi, H h0 _ h (h1.set (h2 _ List.mem_cons_self)) (fun u hu => h2 u (List.mem_cons_of_mem _ hu)) h3⟩
theorem Wx.iinc (hC : Cmono C) {i a b : Nat} {z x : Int} (ht : (pT M).find? (fun e => e.1 == pc) = some (pc, .iinc i z, a, b)) (hi : Nat.blt i (pL M) = true) (hl : L[i]? = some (some (.inl x))) (hr : InI (x + z)) (H : Wx C S M K (pc + 3) (L.set i (some (.inl (x + z)))) st mem) : Wx C S M K pc L st mem :=
  Wx.go hC ht fun h0 lv h h1 h2 h3 => ⟨blt_iff.mp hi, _, (h1 i _ hl).1, by
    have := H h0 _ h (h1.set (i := i) (v := .inl (x + z)) hr) h2 h3
    rw [show wv (.inl (x + z)) = .int (Int32.ofInt x + Int32.ofInt z) from by rw [← Int32.ofInt_add]; rfl] at this
    exact this⟩
theorem Wx.iadd (hC : Cmono C) {a b : Nat} {x y : Int} (ht : (pT M).find? (fun e => e.1 == pc) = some (pc, .iadd, a, b)) (hr : InI (x + y)) (H : Wx C S M K (pc + 1) L (.inl (x + y) :: st) mem) : Wx C S M K pc L (.inl y :: .inl x :: st) mem :=
  Wx.go hC ht fun h0 lv h h1 h2 h3 => by
    have := H h0 lv h h1 (stc hr (fun u hu => h2 u (List.mem_cons_of_mem _ (List.mem_cons_of_mem _ hu)))) h3
    rw [List.map_cons, show wv (.inl (x + y)) = .int (Int32.ofInt x + Int32.ofInt y) from by rw [← Int32.ofInt_add]; rfl] at this
    exact this
theorem Wx.iaddW (hC : Cmono C) {a b : Nat} {x y : Int} (ht : (pT M).find? (fun e => e.1 == pc) = some (pc, .iadd, a, b)) (H : ∀ z, InI z → (InI (x + y) → z = x + y) → Wx C S M K (pc + 1) L (.inl z :: st) mem) : Wx C S M K pc L (.inl y :: .inl x :: st) mem :=
  Wx.go hC ht fun h0 lv h h1 h2 h3 => by
    have hx := wi (h2 _ (List.mem_cons_of_mem _ List.mem_cons_self))
    have hy := wi (h2 _ List.mem_cons_self)
    have := H (Int32.ofInt x + Int32.ofInt y).toInt (wiI _) (fun q => by rw [← Int32.ofInt_add, wi q]) h0 lv h h1 (stc (wiI _) (fun u hu => h2 u (List.mem_cons_of_mem _ (List.mem_cons_of_mem _ hu)))) h3
    rw [List.map_cons, show wv (.inl (Int32.ofInt x + Int32.ofInt y).toInt) = .int (Int32.ofInt x + Int32.ofInt y) from by show Value.int (Int32.ofInt _) = _; rw [Int32.ofInt_toInt]] at this
    exact this
theorem Wx.isub (hC : Cmono C) {a b : Nat} {x y : Int} (ht : (pT M).find? (fun e => e.1 == pc) = some (pc, .isub, a, b)) (hr : InI (x - y)) (H : Wx C S M K (pc + 1) L (.inl (x - y) :: st) mem) : Wx C S M K pc L (.inl y :: .inl x :: st) mem :=
  Wx.go hC ht fun h0 lv h h1 h2 h3 => by
    have := H h0 lv h h1 (stc hr (fun u hu => h2 u (List.mem_cons_of_mem _ (List.mem_cons_of_mem _ hu)))) h3
    rw [List.map_cons, show wv (.inl (x - y)) = .int (Int32.ofInt x - Int32.ofInt y) from by rw [← Int32.ofInt_sub]; rfl] at this
    exact this
theorem Wx.imul (hC : Cmono C) {a b : Nat} {x y : Int} (ht : (pT M).find? (fun e => e.1 == pc) = some (pc, .imul, a, b)) (hr : InI (x * y)) (H : Wx C S M K (pc + 1) L (.inl (x * y) :: st) mem) : Wx C S M K pc L (.inl y :: .inl x :: st) mem :=
  Wx.go hC ht fun h0 lv h h1 h2 h3 => by
    have := H h0 lv h h1 (stc hr (fun u hu => h2 u (List.mem_cons_of_mem _ (List.mem_cons_of_mem _ hu)))) h3
    rw [List.map_cons, show wv (.inl (x * y)) = .int (Int32.ofInt x * Int32.ofInt y) from by rw [← Int32.ofInt_mul]; rfl] at this
    exact this
theorem Wx.ineg (hC : Cmono C) {a b : Nat} {x : Int} (ht : (pT M).find? (fun e => e.1 == pc) = some (pc, .ineg, a, b)) (hr : InI (-x)) (H : Wx C S M K (pc + 1) L (.inl (-x) :: st) mem) : Wx C S M K pc L (.inl x :: st) mem :=
  Wx.go hC ht fun h0 lv h h1 h2 h3 => by
    have := H h0 lv h h1 (stc hr (fun u hu => h2 u (List.mem_cons_of_mem _ hu))) h3
    rw [List.map_cons, show wv (.inl (-x)) = .int (-Int32.ofInt x) from by rw [← Int32.ofInt_neg]; rfl] at this
    exact this
theorem ofI_eq {x : Int32} {y : Int} (h : x.toInt = y) : x = Int32.ofInt y := by rw [← h, Int32.ofInt_toInt]
theorem Wx.idiv (hC : Cmono C) {a b : Nat} {x y : Int} (ht : (pT M).find? (fun e => e.1 == pc) = some (pc, .idiv, a, b)) (hy : 0 < y) (H : Wx C S M K (pc + 1) L (.inl (x.tdiv y) :: st) mem) : Wx C S M K pc L (.inl y :: .inl x :: st) mem :=
  Wx.go hC ht fun h0 lv h h1 h2 h3 => by
    have hy1 := wi (h2 _ List.mem_cons_self)
    have hx1 := wi (h2 _ (List.mem_cons_of_mem _ List.mem_cons_self))
    have e := dv_toInt (x := Int32.ofInt x) (y := Int32.ofInt y) (by rw [hy1]; exact hy)
    rw [hx1, hy1] at e
    have hr : InI (x.tdiv y) := by rw [← e]; exact wiI _
    have := H h0 lv h h1 (stc hr (fun u hu => h2 u (List.mem_cons_of_mem _ (List.mem_cons_of_mem _ hu)))) h3
    rw [List.map_cons, show wv (.inl (x.tdiv y)) = .int (Int32.ofInt x / Int32.ofInt y) from by rw [ofI_eq e]; rfl] at this
    exact ⟨nz_of (by rw [hy1]; omega), this⟩
theorem Wx.irem (hC : Cmono C) {a b : Nat} {x y : Int} (ht : (pT M).find? (fun e => e.1 == pc) = some (pc, .irem, a, b)) (hy : 0 < y) (H : Wx C S M K (pc + 1) L (.inl (x.tmod y) :: st) mem) : Wx C S M K pc L (.inl y :: .inl x :: st) mem :=
  Wx.go hC ht fun h0 lv h h1 h2 h3 => by
    have hy1 := wi (h2 _ List.mem_cons_self)
    have hx1 := wi (h2 _ (List.mem_cons_of_mem _ List.mem_cons_self))
    have e := dv_toInt (x := Int32.ofInt x) (y := Int32.ofInt y) (by rw [hy1]; exact hy)
    rw [hx1, hy1] at e
    have e2 : Int32.ofInt x - Int32.ofInt x / Int32.ofInt y * Int32.ofInt y = Int32.ofInt (x.tmod y) := by
      rw [ofI_eq e, ← Int32.ofInt_mul, ← Int32.ofInt_sub, Int.tmod_def, Int.mul_comm]
    have hr : InI (x.tmod y) := by
      have a1 : InI y := h2 _ List.mem_cons_self
      have a2 : InI x := h2 _ (List.mem_cons_of_mem _ List.mem_cons_self)
      have l1 := Int.tmod_lt_of_pos x hy
      have l2 : -y < x.tmod y := by
        rcases Int.le_total 0 x with h | h
        · have := Int.tmod_nonneg y h; omega
        · have := Int.tmod_lt_of_pos (-x) hy
          rw [Int.neg_tmod] at this; omega
      unfold InI at a1 ⊢
      omega
    have := H h0 lv h h1 (stc hr (fun u hu => h2 u (List.mem_cons_of_mem _ (List.mem_cons_of_mem _ hu)))) h3
    rw [List.map_cons, show wv (.inl (x.tmod y)) = .int (Int32.ofInt x - Int32.ofInt x / Int32.ofInt y * Int32.ofInt y) from by rw [e2]; rfl] at this
    exact ⟨nz_of (by rw [hy1]; omega), this⟩
theorem Wx.bits (hC : Cmono C) {ins : Instr} {a b : Nat} {x y : Int} {f : Int32 → Int32 → Int32} (ht : (pT M).find? (fun e => e.1 == pc) = some (pc, ins, a, b)) (hi : ∀ h0 lv r h, pmI C S M [] (QK h0 K) (Vx C S M [] (QK h0 K)) (pc, ins, a, b) lv (.int (Int32.ofInt y) :: .int (Int32.ofInt x) :: r) h 0 0 ↔ Vx C S M [] (QK h0 K) (pc + 1) lv (.int (f (Int32.ofInt x) (Int32.ofInt y)) :: r) h 0 0) (H : ∀ z, z = (f (Int32.ofInt x) (Int32.ofInt y)).toInt → InI z → Wx C S M K (pc + 1) L (.inl z :: st) mem) : Wx C S M K pc L (.inl y :: .inl x :: st) mem :=
  Wx.go hC ht fun h0 lv h h1 h2 h3 => by
    have := H _ rfl (wiI _) h0 lv h h1 (stc (wiI _) (fun u hu => h2 u (List.mem_cons_of_mem _ (List.mem_cons_of_mem _ hu)))) h3
    rw [List.map_cons, show wv (.inl (f (Int32.ofInt x) (Int32.ofInt y)).toInt) = .int (f (Int32.ofInt x) (Int32.ofInt y)) from by show Value.int (Int32.ofInt _) = _; rw [Int32.ofInt_toInt]] at this
    exact (hi h0 lv _ h).mpr this
theorem Wx.dup (hC : Cmono C) {a b : Nat} {v : WV} (ht : (pT M).find? (fun e => e.1 == pc) = some (pc, .dup, a, b)) (H : Wx C S M K (pc + 1) L (v :: v :: st) mem) : Wx C S M K pc L (v :: st) mem :=
  Wx.go hC ht fun h0 lv h h1 h2 h3 => ⟨wv v, st.map wv, rfl, wv_cat v, H h0 lv h h1 (stc (h2 _ List.mem_cons_self) h2) h3⟩
theorem Wx.dup2 (hC : Cmono C) {a b : Nat} {v w : WV} (ht : (pT M).find? (fun e => e.1 == pc) = some (pc, .dup2, a, b)) (H : Wx C S M K (pc + 1) L (v :: w :: v :: w :: st) mem) : Wx C S M K pc L (v :: w :: st) mem :=
  Wx.go hC ht fun h0 lv h h1 h2 h3 => ⟨wv v, wv w, st.map wv, rfl, wv_cat v, wv_cat w, H h0 lv h h1 (stc (h2 _ List.mem_cons_self) (stc (h2 _ (List.mem_cons_of_mem _ List.mem_cons_self)) h2)) h3⟩
theorem Wx.goto (hC : Cmono C) {a b t : Nat} {z : Int} (ht : (pT M).find? (fun e => e.1 == pc) = some (pc, .goto z, a, b)) (hz : (pc : Int) + z = t) (H : Wx C S M K t L st mem) : Wx C S M K pc L st mem :=
  Wx.go hC ht fun h0 lv h h1 h2 h3 => ⟨by show 0 ≤ (pc : Int) + z; omega, by
    show Vx C S M [] (QK h0 K) ((pc : Int) + z).toNat _ _ _ _ _
    rw [show ((pc : Int) + z).toNat = t by omega]; exact H h0 lv h h1 h2 h3⟩
theorem Wx.ifc (hC : Cmono C) {cc : ClassFile.Cond} {a b t : Nat} {z x : Int} (ht : (pT M).find? (fun e => e.1 == pc) = some (pc, .ifCond cc z, a, b)) (hz : (pc : Int) + z = t) (H1 : ccZ cc x 0 → Wx C S M K t L st mem) (H2 : ¬ ccZ cc x 0 → Wx C S M K (pc + 3) L st mem) : Wx C S M K pc L (.inl x :: st) mem :=
  Wx.go hC ht fun h0 lv h h1 h2 h3 => by
    have hx := wi (h2 _ List.mem_cons_self)
    have hst : ∀ u ∈ st, vOK u := fun u hu => h2 u (List.mem_cons_of_mem _ hu)
    have e : ccI cc (Int32.ofInt x) 0 ↔ ccZ cc x 0 := by rw [ccI_iff, hx]; exact Iff.rfl
    refine ⟨by show 0 ≤ (pc : Int) + z; omega, fun q => ?_, fun q => ?_⟩
    · show Vx C S M [] (QK h0 K) ((pc : Int) + z).toNat _ _ _ _ _
      rw [show ((pc : Int) + z).toNat = t by omega]; exact H1 (e.mp q) h0 lv h h1 hst h3
    · exact H2 (fun w => q (e.mpr w)) h0 lv h h1 hst h3
theorem Wx.icmp (hC : Cmono C) {cc : ClassFile.Cond} {a b t : Nat} {z x y : Int} (ht : (pT M).find? (fun e => e.1 == pc) = some (pc, .if_icmp cc z, a, b)) (hz : (pc : Int) + z = t) (H1 : ccZ cc x y → Wx C S M K t L st mem) (H2 : ¬ ccZ cc x y → Wx C S M K (pc + 3) L st mem) : Wx C S M K pc L (.inl y :: .inl x :: st) mem :=
  Wx.go hC ht fun h0 lv h h1 h2 h3 => by
    have hy := wi (h2 _ List.mem_cons_self)
    have hx := wi (h2 _ (List.mem_cons_of_mem _ List.mem_cons_self))
    have hst : ∀ u ∈ st, vOK u := fun u hu => h2 u (List.mem_cons_of_mem _ (List.mem_cons_of_mem _ hu))
    have e : ccI cc (Int32.ofInt x) (Int32.ofInt y) ↔ ccZ cc x y := by rw [ccI_iff, hx, hy]
    refine ⟨by show 0 ≤ (pc : Int) + z; omega, fun q => ?_, fun q => ?_⟩
    · show Vx C S M [] (QK h0 K) ((pc : Int) + z).toNat _ _ _ _ _
      rw [show ((pc : Int) + z).toNat = t by omega]; exact H1 (e.mp q) h0 lv h h1 hst h3
    · exact H2 (fun w => q (e.mpr w)) h0 lv h h1 hst h3
theorem clampN {i : Int} (h : InI i) (h0 : 0 ≤ i) : (Int32.ofInt i).toNatClampNeg = i.toNat := by
  rw [show (Int32.ofInt i).toNatClampNeg = (Int32.ofInt i).toInt.toNat from rfl, wi h]
theorem Wx.iald (hC : Cmono C) {a b A n : Nat} {i : Int} (ht : (pT M).find? (fun e => e.1 == pc) = some (pc, .iaload, a, b)) (hA : shA A = some (.inl n)) (hi : 0 ≤ i ∧ i < n) (H : ∀ v, v = mem A i.toNat → InI v → Wx C S M K (pc + 1) L (.inl v :: st) mem) : Wx C S M K pc L (.inl i :: .inr A :: st) mem :=
  Wx.go hC ht fun h0 lv h h1 h2 h3 => by
    obtain ⟨g, e1, e2⟩ := h3.row hA
    have hI : InI i := h2 _ List.mem_cons_self
    have hv : InI (mem A i.toNat) := h3.rowI hA _
    show p_iald S h (.int (Int32.ofInt i) :: .ref A :: st.map wv) fun st => Vx C S M [] (QK h0 K) (pc + 1) lv st h 0 0
    refine iald_mk e1 (vp_in_iff.mpr (by rw [wi hI]; exact hi)) ?_
    rw [clampN hI hi.1, show g i.toNat = Int32.ofInt (mem A i.toNat) from ofI_eq (e2 _).symm]
    exact H _ rfl hv h0 lv h h1 (stc hv (fun u hu => h2 u (List.mem_cons_of_mem _ (List.mem_cons_of_mem _ hu)))) h3
theorem Wx.iast (hC : Cmono C) {a b A n : Nat} {i x : Int} (ht : (pT M).find? (fun e => e.1 == pc) = some (pc, .iastore, a, b)) (hA : shA A = some (.inl n)) (hi : 0 ≤ i ∧ i < n) (H : Wx C S M K (pc + 1) L st (upm mem A i.toNat x)) : Wx C S M K pc L (.inl x :: .inl i :: .inr A :: st) mem :=
  Wx.go hC ht fun h0 lv h h1 h2 h3 => by
    obtain ⟨g, e1, e2⟩ := h3.row hA
    have hx : InI x := h2 _ List.mem_cons_self
    have hI : InI i := h2 _ (List.mem_cons_of_mem _ List.mem_cons_self)
    show p_iast h (.int (Int32.ofInt x) :: .int (Int32.ofInt i) :: .ref A :: st.map wv) fun st h => Vx C S M [] (QK h0 K) (pc + 1) lv st h 0 0
    refine iast_mk e1 (vp_in_iff.mpr (by rw [wi hI]; exact hi)) ?_
    have := h3.setRow (i := i.toNat) (x := Int32.ofInt x) hA e1
    rw [wi hx] at this
    rw [clampN hI hi.1]
    exact H h0 lv _ h1 (fun u hu => h2 u (List.mem_cons_of_mem _ (List.mem_cons_of_mem _ (List.mem_cons_of_mem _ hu)))) this
theorem Wx.getI (hC : Cmono C) {p A ci f : Nat} {fs : List (Option Nat)} (ht : (pT M).find? (fun e => e.1 == pc) = some (pc, .getfield p, ci, f)) (hA : shA A = some (.inr (ci, fs))) (hf : fs[f]? = some none) (hn : Nat.blt f (fnum ci) = true) (H : ∀ v, v = mem A f → InI v → Wx C S M K (pc + 3) L (.inl v :: st) mem) : Wx C S M K pc L (.inr A :: st) mem :=
  Wx.go hC ht fun h0 lv h h1 h2 h3 => by
    obtain ⟨gs, e1, -, e2⟩ := h3.obj hA
    have e3 := e2 f
    rw [hf] at e3
    obtain ⟨z, e4, e5⟩ := e3
    have hv : InI (mem A f) := h3.fldI hA hf
    show p_get h ci f (.ref A :: st.map wv) fun st => Vx C S M [] (QK h0 K) (pc + 3) lv st h 0 0
    refine get_mk (v := .int z) e1 (blt_iff.mp hn) e4 ?_
    rw [show z = Int32.ofInt (mem A f) from ofI_eq e5.symm]
    exact H _ rfl hv h0 lv h h1 (stc hv (fun u hu => h2 u (List.mem_cons_of_mem _ hu))) h3
theorem Wx.getR (hC : Cmono C) {p A B ci f : Nat} {fs : List (Option Nat)} (ht : (pT M).find? (fun e => e.1 == pc) = some (pc, .getfield p, ci, f)) (hA : shA A = some (.inr (ci, fs))) (hf : fs[f]? = some (some B)) (hn : Nat.blt f (fnum ci) = true) (H : Wx C S M K (pc + 3) L (.inr B :: st) mem) : Wx C S M K pc L (.inr A :: st) mem :=
  Wx.go hC ht fun h0 lv h h1 h2 h3 => by
    obtain ⟨gs, e1, -, e2⟩ := h3.obj hA
    have e3 := e2 f
    rw [hf] at e3
    show p_get h ci f (.ref A :: st.map wv) fun st => Vx C S M [] (QK h0 K) (pc + 3) lv st h 0 0
    exact get_mk (v := .ref B) e1 (blt_iff.mp hn) e3 (H h0 lv h h1 (stc trivial (fun u hu => h2 u (List.mem_cons_of_mem _ hu))) h3)
theorem Wx.putI (hC : Cmono C) {p A ci f : Nat} {fs : List (Option Nat)} {x : Int} (ht : (pT M).find? (fun e => e.1 == pc) = some (pc, .putfield p, ci, f)) (hA : shA A = some (.inr (ci, fs))) (hf : fs[f]? = some none) (hn : Nat.blt f (fnum ci) = true) (hy : ftyX ci f = .int) (H : Wx C S M K (pc + 3) L st (upm mem A f x)) : Wx C S M K pc L (.inl x :: .inr A :: st) mem :=
  Wx.go hC ht fun h0 lv h h1 h2 h3 => by
    obtain ⟨gs, e1, e0, e2⟩ := h3.obj hA
    have hx : InI x := h2 _ List.mem_cons_self
    have hfl : f < gs.length := by rw [e0]; exact (List.getElem?_eq_some_iff.mp hf).1
    show p_put h ci f (.int (Int32.ofInt x) :: .ref A :: st.map wv) fun st h => Vx C S M [] (QK h0 K) (pc + 3) lv st h 0 0
    refine put_mk e1 (blt_iff.mp hn) hfl (by rw [hy]; rfl) (by rw [hy]; rfl) ?_
    have := h3.setObj (x := Int32.ofInt x) hA hf e1
    rw [wi hx] at this
    exact H h0 lv _ h1 (fun u hu => h2 u (List.mem_cons_of_mem _ (List.mem_cons_of_mem _ hu))) this
/-! ends -/
theorem Wx.ireturn (hC : Cmono C) {a b : Nat} {x : Int} (ht : (pT M).find? (fun e => e.1 == pc) = some (pc, .ireturn, a, b)) (hR : pR M = some .int) (H : InI x → K (some x) mem) : Wx C S M K pc L [.inl x] mem :=
  Wx.go hC ht fun h0 lv h h1 h2 h3 => ⟨_, rfl, ⟨_, hR, rfl⟩, some x, mem, rfl, fun y hy => by cases hy; exact h2 _ List.mem_cons_self, h3, H (h2 _ List.mem_cons_self)⟩
theorem Wx.bret (hC : Cmono C) {a b : Nat} {x : Int} (ht : (pT M).find? (fun e => e.1 == pc) = some (pc, .ireturn, a, b)) (hR : pR M = some .boolean) (hx : x = 0 ∨ x = 1) (H : K (some x) mem) : Wx C S M K pc L [.inl x] mem :=
  Wx.go hC ht fun h0 lv h h1 h2 h3 => ⟨_, rfl, ⟨_, hR, by rcases hx with rfl | rfl <;> rfl⟩, some x, mem, rfl, fun y hy => by cases hy; exact h2 _ List.mem_cons_self, h3, H⟩
theorem Wx.vret (hC : Cmono C) {a b : Nat} (ht : (pT M).find? (fun e => e.1 == pc) = some (pc, .return_, a, b)) (hR : pR M = none) (H : K none mem) : Wx C S M K pc L [] mem :=
  Wx.go hC ht fun h0 lv h h1 h2 h3 => ⟨rfl, hR, none, mem, rfl, (fun y hy => by cases hy), h3, H⟩
/-! calls -/
theorem cats1 : ∀ (l : List WV), ((l.map wv).map Value.category).sum = l.length
  | [] => rfl
  | v :: l => by rw [List.map_cons, List.map_cons, List.sum_cons, wv_cat, cats1 l, List.length_cons]; omega
theorem Wx.call (hC : Cmono C) {N : PM} {μ : Nat} {virt : Bool} {args rest : List WV} (hN : MT[μ]? = some N) (hl : args.length = pN N) (hr : Nat.ble rest.length 8 = true) (hc : pC N = 0) (hs : pS N = 0) (hv : virt = true → ∃ A ci fs, args[0]? = some (.inr A) ∧ shA A = some (.inr (ci, fs)) ∧ ci = pO N) {K2 : WK} (H : CW C μ args mem K2) (Hk : ∀ r m, K2 r m → (∀ y, r = some y → InI y) → Wx C S M K (pc + 3) L ((r.map Sum.inl).toList ++ rest) m) {h0 : PH} {lv : LV} {h : PH} (h1 : LkW lv L) (h2 : ∀ v ∈ args.reverse ++ rest, vOK v) (h3 : RH h0 h mem) : p_call C M [] (QK h0 K) (Vx C S M [] (QK h0 K)) pc μ virt lv ((args.reverse ++ rest).map wv) h 0 0 := by
  unfold p_call
  rw [hN]
  have el : (args.reverse.map wv).length = pN N := by simp [hl]
  have e1 : ((args.reverse ++ rest).map wv).take (pN N) = args.reverse.map wv := by rw [List.map_append, ← el, List.take_left]
  have e2 : ((args.reverse ++ rest).map wv).drop (pN N) = rest.map wv := by rw [List.map_append, ← el, List.drop_left]
  simp only [e1, e2]
  refine ⟨by simp [hl], by rw [cats1]; exact Nat.le_of_ble_eq_true hr, by omega, by omega, ?_, ?_⟩
  · intro q
    obtain ⟨A, ci, fs, g1, g2, g3⟩ := hv q
    obtain ⟨gs, g4, -⟩ := h3.obj g2
    refine ⟨A, gs, ?_, by rw [← g3]; exact g4⟩
    rw [List.getLast?_eq_head?_reverse, ← List.map_reverse, List.reverse_reverse, List.head?_eq_getElem?, List.getElem?_map, g1]
    rfl
  · rw [← List.map_reverse, List.reverse_reverse]
    refine hC _ _ _ _ _ ?_ (H (fun v hv => h2 v (List.mem_append_left _ (List.mem_reverse.mpr hv))) h0 h h3)
    rintro r h' ⟨x, m, rfl, k2, k3, k4⟩
    show Vx C S M [] (QK h0 K) (pc + 3) lv _ h' (0 + pC N) (0 + pS N)
    rw [hc, hs]
    have := Hk x m k4 k2 h0 lv h' h1 (fun u hu => ?_) k3
    · cases x with
      | none => exact this
      | some y => exact this
    · rcases List.mem_append.mp hu with hu | hu
      · cases x with
        | none => cases hu
        | some y =>
          have : u = .inl y := by simpa using hu
          subst this
          exact k2 y rfl
      · exact h2 u (List.mem_append_right _ hu)
theorem Wx.virtI (hC : Cmono C) {p μ b ci A : Nat} {N : PM} {args rest : List WV} {fs : List (Option Nat)} (ht : (pT M).find? (fun e => e.1 == pc) = some (pc, .invokevirtual p, μ, b)) (hN : MT[μ]? = some N) (hst : st = args.reverse ++ rest) (hl : args.length = pN N) (hr : Nat.ble rest.length 8 = true) (hc : pC N = 0) (hs : pS N = 0) (ha : args[0]? = some (.inr A)) (hA : shA A = some (.inr (ci, fs))) (ho : ci = pO N) (H : CWI C μ args mem fun y m => InI y → Wx C S M K (pc + 3) L (.inl y :: rest) m) : Wx C S M K pc L st mem := by
  subst hst
  exact Wx.go hC ht fun h0 lv h h1 h2 h3 => Wx.call hC hN hl hr hc hs (fun _ => ⟨A, ci, fs, ha, hA, ho⟩) H (fun r m ⟨y, e, q⟩ hy => by subst e; exact q (hy y rfl)) h1 h2 h3
theorem Wx.virtV (hC : Cmono C) {p μ b ci A : Nat} {N : PM} {args rest : List WV} {fs : List (Option Nat)} (ht : (pT M).find? (fun e => e.1 == pc) = some (pc, .invokevirtual p, μ, b)) (hN : MT[μ]? = some N) (hst : st = args.reverse ++ rest) (hl : args.length = pN N) (hr : Nat.ble rest.length 8 = true) (hc : pC N = 0) (hs : pS N = 0) (ha : args[0]? = some (.inr A)) (hA : shA A = some (.inr (ci, fs))) (ho : ci = pO N) (H : CWV C μ args mem fun m => Wx C S M K (pc + 3) L rest m) : Wx C S M K pc L st mem := by
  subst hst
  exact Wx.go hC ht fun h0 lv h h1 h2 h3 => Wx.call hC hN hl hr hc hs (fun _ => ⟨A, ci, fs, ha, hA, ho⟩) H (fun r m ⟨e, q⟩ _ => by subst e; exact q) h1 h2 h3
theorem Wx.statI (hC : Cmono C) {p μ b : Nat} {N : PM} {args rest : List WV} (ht : (pT M).find? (fun e => e.1 == pc) = some (pc, .invokestatic p, μ, b)) (hb : b ≠ 7) (hN : MT[μ]? = some N) (hst : st = args.reverse ++ rest) (hl : args.length = pN N) (hr : Nat.ble rest.length 8 = true) (hc : pC N = 0) (hs : pS N = 0) (H : CWI C μ args mem fun y m => InI y → Wx C S M K (pc + 3) L (.inl y :: rest) m) : Wx C S M K pc L st mem := by
  subst hst
  exact Wx.go hC ht fun h0 lv h h1 h2 h3 => Or.inr ⟨hb, Wx.call hC hN hl hr hc hs (fun q => by cases q) H (fun r m ⟨y, e, q⟩ hy => by subst e; exact q (hy y rfl)) h1 h2 h3⟩
end WX
def subL : List (Option WV) → List (Option WV) → Prop
  | [], _ => True
  | none :: a, _ :: c => subL a c
  | some v :: a, w :: c => w = some v ∧ subL a c
  | none :: a, [] => subL a []
  | some _ :: _, [] => False
theorem subL.at : ∀ {a b : List (Option WV)} {i : Nat} {v : WV}, subL a b → a[i]? = some (some v) → b[i]? = some (some v)
  | [], _, i, v, _, h => by simp at h
  | none :: a, _ :: c, 0, v, _, h => by simp at h
  | none :: a, _ :: c, i + 1, v, H, h => by simpa using subL.at (a := a) (b := c) (i := i) H (by simpa using h)
  | some u :: a, w :: c, 0, v, H, h => by
    have e : u = v := by simpa using h
    subst e
    simpa using H.1
  | some u :: a, w :: c, i + 1, v, H, h => by simpa using subL.at (a := a) (b := c) (i := i) H.2 (by simpa using h)
  | none :: a, [], 0, v, _, h => by simp at h
  | none :: a, [], i + 1, v, H, h => by have := subL.at (a := a) (b := []) (i := i) H (by simpa using h); simp at this
  | some _ :: _, [], i, v, H, h => H.elim
theorem Wx.weak {C : CXW} {S : Nat × (Nat → Int32)} {M : PM} {K : WK} {pc : Nat} {L' L : List (Option WV)} {st : List WV} {mem : MM} (h : subL L' L) (H : Wx C S M K pc L' st mem) : Wx C S M K pc L st mem := fun h0 lv hh h1 h2 h3 => H h0 lv hh (fun i v hv => h1 i v (h.at hv)) h2 h3
theorem CW.of {S : Nat × (Nat → Int32)} {n μ : Nat} {M : PM} {args : List WV} {mem : MM} {K : WK} (hM : MT[μ]? = some M) (hk : (pK M == 3) = false) (hl : Nat.ble args.length (pL M) = true) {k : Nat} (H : Wx (Ex S n) S M K 0 (args.map some ++ List.replicate k none) [] mem) : CW (Ex S (n + 1)) μ args mem K := by
  intro ha h0 h hh
  refine ⟨M, hM, by rw [cats1]; exact Nat.le_of_ble_eq_true hl, ?_⟩
  rw [if_neg (by simpa using hk)]
  refine H h0 _ h ?_ (fun v hv => by cases hv) hh
  intro i v hv
  have hv : (args.map some)[i]? = some (some v) := by
    rw [List.getElem?_append] at hv
    split at hv
    · exact hv
    · rw [List.getElem?_replicate] at hv
      split at hv <;> cases hv
  rw [List.getElem?_map] at hv
  cases hv2 : args[i]? with
  | none => rw [hv2] at hv; cases hv
  | some u =>
    rw [hv2] at hv
    have hv : u = v := by cases hv; rfl
    subst hv
    refine ⟨?_, ha _ (List.mem_of_getElem? hv2)⟩
    have := pg_args (l := args.map wv) (k := 0) (i := i) (w := wv u) (fun w hw => by obtain ⟨z, -, rfl⟩ := List.mem_map.mp hw; exact wv_cat z) (by rw [List.getElem?_map, hv2]; rfl)
    rwa [Nat.zero_add] at this
end

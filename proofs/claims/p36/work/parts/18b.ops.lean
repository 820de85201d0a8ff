/-! instructions that see the heap, calls and ends -/
theorem gAll_ok {f : Nat → Bool} : ∀ {l : List Nat}, gAll f l = true → ∀ t ∈ l, f t = true
  | [], _, t, ht => by cases ht
  | e :: l, h, t, ht => by
    have h : (match f e with | true => gAll f l | false => false) = true := h
    split at h
    · rename_i q
      rcases List.mem_cons.mp ht with rfl | ht
      · exact q
      · exact gAll_ok h t ht
    · cases h
section OPT
variable {θ : Nat → Int32} {L : Nat} {C : Nat → List Value → PH → (Rs → PH → Prop) → Prop} {M : PM} {hd : HD4} {Q : Rs → PH → Prop} {K : Kt} {pc ta tb : Nat}
theorem k_sw {d lo hi : Int} {offs : Array Int} (h1 : offs.toList.all (fun o => decide (0 ≤ (pc : Int) + o)) = true) (h2 : hi - lo + 1 = offs.size) (h0 : 0 ≤ (pc : Int) + d) : POK θ L C M hd Q K (o_sw ((pc : Int) + d).toNat lo hi (offs.toList.map fun o => ((pc : Int) + o).toNat)) (pc, .tableswitch d lo hi offs, ta, tb) := by
  intro env lv st m h c s go cut call ret lv' st' h' he hlv hst hh hgo hcall hret H
  have hoff : ∀ {x : Int}, ¬ x < lo → ¬ hi < x → ∃ off, offs[(x - lo).toNat]? = some off ∧ 0 ≤ (pc : Int) + off ∧ ((pc : Int) + off).toNat ∈ offs.toList.map (fun o => ((pc : Int) + o).toNat) ∧ (offs.toList.map fun o => ((pc : Int) + o).toNat)[(x - lo).toNat]? = some ((pc : Int) + off).toNat := by
    intro x q1 q2
    have hlt : (x - lo).toNat < offs.size := by omega
    refine ⟨offs[(x - lo).toNat], Array.getElem?_eq_getElem hlt, ?_, ?_, ?_⟩
    · have := List.all_eq_true.mp h1 offs[(x - lo).toNat] (by simp)
      simpa using this
    · exact List.mem_map_of_mem (f := fun o => ((pc : Int) + o).toNat) (by simp)
    · rw [List.getElem?_map, Array.getElem?_toList, Array.getElem?_eq_getElem hlt]; rfl
  unfold o_sw at H
  split at H
  · obtain ⟨w, r', rfl, hx, hr⟩ := hst
    obtain ⟨xv, a, b, rfl, a1, a2, H⟩ := rK_ok he hx H
    split at H
    · rename_i q
      rw [Bool.or_eq_true, bLt_iff, bLt_iff] at q
      exact Or.inr ⟨fun _ => ⟨h0, hgo _ _ _ _ _ _ _ H _ _ _ hlv hr hh⟩, fun q1 q2 => by exfalso; omega⟩
    · rename_i q
      rcases lin_ok he hx H with ⟨xv2, p, e, hp, H⟩ | H
      · cases e
        obtain ⟨t, pa, pb⟩ := p
        split at H
        · rename_i e1
          have e1 : t = 0 := e1
          subst e1
          have e2 : xv.toInt = pb := hp.1
          split at H
          · rename_i q5
            rw [Bool.or_eq_true, bLt_iff, bLt_iff] at q5; dsimp only at q5
            exact Or.inr ⟨fun _ => ⟨h0, hgo _ _ _ _ _ _ _ H _ _ _ hlv hr hh⟩, fun q1 q2 => by exfalso; omega⟩
          · rename_i q5
            rw [Bool.or_eq_false_iff, bLt_no, bLt_no] at q5; dsimp only at q5
            rw [lget_eq] at H
            split at H
            · rename_i tt htt
              refine Or.inr ⟨fun q3 => by exfalso; omega, fun q1 q2 => ?_⟩
              obtain ⟨off, g1, g2, g3, g4⟩ := hoff q1 q2
              rw [e2] at g4
              have e3 : tt = ((pc : Int) + off).toNat := Option.some.inj (htt.symm.trans g4)
              rw [e3] at H
              exact ⟨off, g1, g2, hgo _ _ _ _ _ _ _ H _ _ _ hlv hr hh⟩
            · cases H
        · split at H
          · exact Or.inl (cutLe_ok he H)
          · split at H
            · exact Or.inl (cutLe_ok he H)
            · exact Or.inl (cutAll_ok he H)
      · split at H
        · rename_i hgd
          refine Or.inr ⟨fun _ => ⟨h0, hgo _ _ _ _ _ _ _ hgd _ _ _ hlv hr hh⟩, fun q1 q2 => ?_⟩
          obtain ⟨off, g1, g2, g3, g4⟩ := hoff q1 q2
          exact ⟨off, g1, g2, hgo _ _ _ _ _ _ _ (gAll_ok H _ g3) _ _ _ hlv hr hh⟩
        · cases H
  · cases H
theorem k_iald : POK θ L C M hd Q K (o_iald (pc + 1)) (pc, .iaload, ta, tb) := by
  intro env lv st m h c s go cut call ret lv' st' h' he hlv hst hh hgo hcall hret H
  unfold o_iald at H
  split at H
  · rename_i i a r
    obtain ⟨w, _, rfl, hi, w2, r', rfl, hx, hr⟩ := hst
    obtain rfl : w2 = .ref a := hx
    split at H
    · rename_i l hl
      obtain ⟨y, hy, hc⟩ := hh.at hl (by intro q; cases q)
      obtain ⟨g, rfl, hg⟩ := c_0 hc
      obtain ⟨iv, rfl, q⟩ := wRead_ok he hi H
      rcases q with ⟨j, x, v, hj, hx, H, hxv⟩ | q
      · split at H
        · rename_i hn
          have hjl : j < l.length := (List.getElem?_eq_some_iff.mp hx).1
          refine Or.inr (iald_mk (S := (L, θ)) (k := fun st => K (pc + 1) lv' st h' c s) hy (vin hj hjl) (hgo _ _ _ _ _ _ _ H _ _ _ hlv ⟨_, _, rfl, ?_, hr⟩ hh))
          rw [idx_of hj]
          exact hxv _ (hg _ _ hx)
        · cases H
      · exact Or.inl q
    · cases H
  · rename_i i a r
    obtain ⟨w, _, rfl, hi, w2, r', rfl, hx, hr⟩ := hst
    obtain rfl : w2 = .retAddr a := hx
    obtain ⟨iv, rfl, q⟩ := wIdx_ok he hi H
    rcases q with ⟨j, hj, H⟩ | q
    · split at H
      · rename_i hjL
        rw [blt_iff] at hjL
        refine Or.inr ⟨vin hj hjL, hgo _ _ _ _ _ _ _ H _ _ _ hlv ⟨_, _, rfl, ⟨_, rfl, ?_⟩, hr⟩ hh⟩
        rw [idx_of hj, Int.one_mul, Int.add_zero]
      · cases H
    · exact Or.inl q
  · cases H
theorem k_lald : POK θ L C M hd Q K (o_lald (pc + 1)) (pc, .laload, ta, tb) := by
  intro env lv st m h c s go cut call ret lv' st' h' he hlv hst hh hgo hcall hret H
  unfold o_lald at H
  split at H
  · rename_i i a r
    obtain ⟨w, _, rfl, hi, w2, r', rfl, hx, hr⟩ := hst
    obtain rfl : w2 = .ref a := hx
    split at H
    · rename_i l hl
      obtain ⟨y, hy, hc⟩ := hh.at hl (by intro q; cases q)
      obtain ⟨g, rfl, hg⟩ := c_1 hc
      obtain ⟨iv, rfl, q⟩ := wIdx_ok he hi H
      rcases q with ⟨j, hj, H⟩ | q
      · rw [lget_eq] at H
        split at H
        · rename_i v hv
          have hjl : j < l.length := (List.getElem?_eq_some_iff.mp hv).1
          refine Or.inr (lald_mk (k := fun st => K (pc + 1) lv' st h' c s) hy (vin hj hjl) (hgo _ _ _ _ _ _ _ H _ _ _ hlv ⟨_, _, rfl, ?_, hr⟩ hh))
          rw [idx_of hj]
          exact hg _ _ hv
        · cases H
      · exact Or.inl q
    · cases H
  · cases H
theorem k_aald : POK θ L C M hd Q K (o_aald (pc + 1)) (pc, .aaload, ta, tb) := by
  intro env lv st m h c s go cut call ret lv' st' h' he hlv hst hh hgo hcall hret H
  unfold o_aald at H
  split at H
  · rename_i i a r
    obtain ⟨w, _, rfl, hi, w2, r', rfl, hx, hr⟩ := hst
    obtain rfl : w2 = .ref a := hx
    split at H
    · rename_i l hl
      obtain ⟨y, hy, hc⟩ := hh.at hl (by intro q; cases q)
      obtain ⟨g, rfl, hg⟩ := c_2 hc
      obtain ⟨iv, rfl, q⟩ := wIdx_ok he hi H
      rcases q with ⟨j, hj, H⟩ | q
      · rw [lget_eq] at H
        split at H
        · rename_i x hv
          have hjl : j < l.length := (List.getElem?_eq_some_iff.mp hv).1
          exact Or.inr (aald_mk (k := fun st => K (pc + 1) lv' st h' c s) hy (Or.inl rfl) (vin hj hjl) (by rw [idx_of hj]; exact rf_some (hg _ _ hv)) (hgo _ _ _ _ _ _ _ H _ _ _ hlv ⟨_, _, rfl, rfl, hr⟩ hh))
        · cases H
      · exact Or.inl q
    · rename_i l hl
      obtain ⟨y, hy, hc⟩ := hh.at hl (by intro q; cases q)
      obtain ⟨g, rfl, hg⟩ := c_3 hc
      obtain ⟨iv, rfl, q⟩ := wIdx_ok he hi H
      rcases q with ⟨j, hj, H⟩ | q
      · rw [lget_eq] at H
        split at H
        · rename_i x hv
          have hjl : j < l.length := (List.getElem?_eq_some_iff.mp hv).1
          exact Or.inr (aald_mk (k := fun st => K (pc + 1) lv' st h' c s) hy (Or.inr rfl) (vin hj hjl) (by rw [idx_of hj]; exact rf_some (hg _ _ hv)) (hgo _ _ _ _ _ _ _ H _ _ _ hlv ⟨_, _, rfl, rfl, hr⟩ hh))
        · cases H
      · exact Or.inl q
    · cases H
  · cases H
theorem k_iast : POK θ L C M hd Q K (o_iast (pc + 1)) (pc, .iastore, ta, tb) := by
  intro env lv st m h c s go cut call ret lv' st' h' he hlv hst hh hgo hcall hret H
  unfold o_iast at H
  split at H
  · rename_i x i a r
    obtain ⟨w0, _, rfl, hv, w, _, rfl, hi, w2, r', rfl, hx, hr⟩ := hst
    obtain rfl : w2 = .ref a := hx
    split at H
    · rename_i hn
      obtain ⟨xv, rfl⟩ := isNum_ok hn hv
      split at H
      · rename_i l hl
        obtain ⟨y, hy, hc⟩ := hh.at hl (by intro q; cases q)
        obtain ⟨g, rfl, hg⟩ := c_0 hc
        obtain ⟨iv, rfl, q⟩ := wIdx_ok he hi H
        rcases q with ⟨j, hj, H⟩ | q
        · obtain ⟨hjl, H⟩ := lset_ok H
          obtain ⟨h2, H, -, hs⟩ := hset_ok H
          refine Or.inr (iast_mk (k := fun st h => K (pc + 1) lv' st h c s) hy (vin hj hjl) (hgo _ _ _ _ _ _ _ H _ _ _ hlv hr ?_))
          rw [idx_of hj]
          exact hh.set hy hs (c_set0 hg hv)
        · exact Or.inl q
      · cases H
    · cases H
  · cases H
theorem k_last : POK θ L C M hd Q K (o_last (pc + 1)) (pc, .lastore, ta, tb) := by
  intro env lv st m h c s go cut call ret lv' st' h' he hlv hst hh hgo hcall hret H
  unfold o_last at H
  split at H
  · rename_i x i a r
    obtain ⟨w0, _, rfl, hv, w, _, rfl, hi, w2, r', rfl, hx, hr⟩ := hst
    obtain rfl : w2 = .ref a := hx
    obtain rfl : w0 = .long x := hv
    split at H
    · rename_i l hl
      obtain ⟨y, hy, hc⟩ := hh.at hl (by intro q; cases q)
      obtain ⟨g, rfl, hg⟩ := c_1 hc
      obtain ⟨iv, rfl, q⟩ := wIdx_ok he hi H
      rcases q with ⟨j, hj, H⟩ | q
      · obtain ⟨hjl, H⟩ := lset_ok H
        obtain ⟨h2, H, -, hs⟩ := hset_ok H
        refine Or.inr (last_mk (k := fun st h => K (pc + 1) lv' st h c s) hy (vin hj hjl) (hgo _ _ _ _ _ _ _ H _ _ _ hlv hr ?_))
        rw [idx_of hj]
        exact hh.set hy hs (c_set1 hg (show vR θ (.inr (.inr (.long x))) (.long x) from rfl))
      · exact Or.inl q
    · cases H
  · rename_i x i a r
    obtain ⟨w0, _, rfl, hv, w, _, rfl, hi, w2, r', rfl, hx, hr⟩ := hst
    obtain rfl : w2 = .ref a := hx
    have hv0 := hv
    obtain ⟨xv, rfl, -⟩ := hv
    split at H
    · rename_i l hl
      obtain ⟨y, hy, hc⟩ := hh.at hl (by intro q; cases q)
      obtain ⟨g, rfl, hg⟩ := c_1 hc
      obtain ⟨iv, rfl, q⟩ := wIdx_ok he hi H
      rcases q with ⟨j, hj, H⟩ | q
      · obtain ⟨hjl, H⟩ := lset_ok H
        obtain ⟨h2, H, -, hs⟩ := hset_ok H
        refine Or.inr (last_mk (k := fun st h => K (pc + 1) lv' st h c s) hy (vin hj hjl) (hgo _ _ _ _ _ _ _ H _ _ _ hlv hr ?_))
        rw [idx_of hj]
        exact hh.set hy hs (c_set1 hg hv0)
      · exact Or.inl q
    · cases H
  · cases H
theorem k_aast : POK θ L C M hd Q K (o_aast (pc + 1)) (pc, .aastore, ta, tb) := by
  intro env lv st m h c s go cut call ret lv' st' h' he hlv hst hh hgo hcall hret H
  unfold o_aast at H
  split at H
  · rename_i v i a r
    obtain ⟨w0, _, rfl, hv, w, _, rfl, hi, w2, r', rfl, hx, hr⟩ := hst
    obtain rfl : w2 = .ref a := hx
    obtain rfl : w0 = .ref v := hv
    split at H
    · rename_i l hl
      split at H
      · rename_i fs hf
        obtain ⟨y, hy, hc⟩ := hh.at hl (by intro q; cases q)
        obtain ⟨g, rfl, hg⟩ := c_2 hc
        obtain ⟨y2, hy2, hc2⟩ := hh.at hf (by intro q; cases q)
        obtain ⟨gs, rfl, hgs⟩ := c_o hc2
        obtain ⟨iv, rfl, q⟩ := wIdx_ok he hi H
        rcases q with ⟨j, hj, H⟩ | q
        · obtain ⟨hjl, H⟩ := lset_ok H
          obtain ⟨h2, H, -, hs⟩ := hset_ok H
          refine Or.inr (aast_mk (k := fun st h => K (pc + 1) lv' st h c s) hy hy2 (vin hj hjl) (hgo _ _ _ _ _ _ _ H _ _ _ hlv hr ?_))
          rw [idx_of hj]
          exact hh.set hy hs (c_set2 hg)
        · exact Or.inl q
      · cases H
    · cases H
  · cases H
theorem ofNat_R {n : Nat} (h : n < 2147483648) : vR θ (.inl (.ofNat n)) (.int (Int32.ofNat n)) := ⟨_, rfl, Int32.toInt_ofNat_of_lt (by omega)⟩
theorem k_alen : POK θ L C M hd Q K (o_alen (pc + 1)) (pc, .arraylength, ta, tb) := by
  intro env lv st m h c s go cut call ret lv' st' h' he hlv hst hh hgo hcall hret H
  unfold o_alen at H
  split at H
  · rename_i a r
    obtain ⟨w, r', rfl, hx, hr⟩ := hst
    obtain rfl : w = .ref a := hx
    split at H
    · rename_i t l hl
      split at H
      · rename_i hn
        rw [Bool.and_eq_true, blt_iff, blt_iff] at hn
        obtain ⟨y, hy, hc⟩ := hh.at hl (by intro q; cases q; omega)
        have key : ∃ x : vp_A, y = .inl (t, x) ∧ x.1 = l.length := by
          rcases t with _ | _ | _ | _ | t
          · obtain ⟨g, rfl, hg⟩ := c_0 hc; exact ⟨_, rfl, rfl⟩
          · obtain ⟨g, rfl, hg⟩ := c_1 hc; exact ⟨_, rfl, rfl⟩
          · obtain ⟨g, rfl, hg⟩ := c_2 hc; exact ⟨_, rfl, rfl⟩
          · obtain ⟨g, rfl, hg⟩ := c_3 hc; exact ⟨_, rfl, rfl⟩
          · exfalso; omega
        obtain ⟨x, rfl, hx⟩ := key
        have H := natF_ok H
        refine Or.inr (alen_mk (S := (L, θ)) (k := fun st => K (pc + 1) lv' st h' c s) hy hn.1 (hgo _ _ _ _ _ _ _ H _ _ _ hlv ⟨_, _, rfl, ?_, hr⟩ hh))
        rw [hx]
        exact ofNat_R hn.2
      · cases H
    · cases H
  · rename_i a r
    obtain ⟨w, r', rfl, hx, hr⟩ := hst
    obtain rfl : w = .retAddr a := hx
    split at H
    · rename_i hn
      rw [blt_iff] at hn
      exact Or.inr (hgo _ _ _ _ _ _ _ H _ _ _ hlv ⟨_, _, rfl, ofNat_R hn, hr⟩ hh)
    · cases H
  · cases H
theorem k_get {i : Nat} (hf : tb < fnum ta) : POK θ L C M hd Q K (o_get ta tb (pc + 3)) (pc, .getfield i, ta, tb) := by
  intro env lv st m h c s go cut call ret lv' st' h' he hlv hst hh hgo hcall hret H
  unfold o_get at H
  split at H
  · rename_i a r
    obtain ⟨w, r', rfl, hx, hr⟩ := hst
    obtain rfl : w = .ref a := hx
    split at H
    · rename_i cj fs hl
      split at H
      · rename_i hn
        rw [beq_iff] at hn
        subst hn
        obtain ⟨y, hy, hc⟩ := hh.at hl (by intro q; cases q)
        obtain ⟨gs, rfl, hgs⟩ := c_o hc
        rw [lget_eq] at H
        split at H
        · rename_i v hv
          obtain ⟨w, hw, hvw⟩ := hgs.get hv
          exact Or.inr (get_mk (k := fun st => K (pc + 3) lv' st h' c s) hy hf hw (hgo _ _ _ _ _ _ _ H _ _ _ hlv ⟨_, _, rfl, hvw, hr⟩ hh))
        · cases H
      · cases H
    · cases H
  · cases H
theorem k_put {i ty : Nat} (hf : tb < fnum ta) (hty : ∀ (v : AV) (w : Value), vR θ v w → okTy ty v = true → narrow (ftyX ta tb) w = w ∧ fits (ftyX ta tb) w = true) : POK θ L C M hd Q K (o_put ta tb ty (pc + 3)) (pc, .putfield i, ta, tb) := by
  intro env lv st m h c s go cut call ret lv' st' h' he hlv hst hh hgo hcall hret H
  unfold o_put at H
  split at H
  · rename_i v a r
    obtain ⟨w0, _, rfl, hv, w, r', rfl, hx, hr⟩ := hst
    obtain rfl : w = .ref a := hx
    split at H
    · rename_i cj fs hl
      split at H
      · rename_i hn
        rw [Bool.and_eq_true, beq_iff] at hn
        obtain ⟨rfl, hn⟩ := hn
        obtain ⟨y, hy, hc⟩ := hh.at hl (by intro q; cases q)
        obtain ⟨gs, rfl, hgs⟩ := c_o hc
        obtain ⟨g1, g2⟩ := hty v w0 hv hn
        obtain ⟨hfl, H⟩ := lset_ok H
        obtain ⟨h2, H, -, hs⟩ := hset_ok H
        exact Or.inr (put_mk (k := fun st h => K (pc + 3) lv' st h c s) hy hf (by rw [hgs.len]; exact hfl) g1 g2 (hgo _ _ _ _ _ _ _ H _ _ _ hlv hr (hh.set hy hs ⟨rfl, A2.set hv hgs⟩)))
      · cases H
    · cases H
  · cases H
theorem wNew_ok {X : CX9} {n : Nat} {lv r : LW} {m : Nat} {h : HT} {c s z : Nat} {v : AE} {go : GO} {h' : PH} {y : PE} (hh : hR θ m h h') (hc : cR θ v y) (H : wNew X n lv r m h c s z v go = true) : c + 1 ≤ pC X.2.1 ∧ s + z ≤ pS X.2.1 ∧ ∃ h2, go n lv (.inr (.inr (.ref m)) :: r) (m + 1) h2 (c + 1) (s + z) = true ∧ hR θ (m + 1) h2 (h' ++ [y]) := by
  unfold wNew at H
  split at H
  · rename_i hn
    rw [Bool.and_eq_true, Nat.ble_eq, Nat.ble_eq] at hn
    have H := natF_ok (natF_ok (natF_ok H))
    obtain ⟨h2, H, -, hs⟩ := hset_ok H
    exact ⟨hn.1, hn.2, h2, H, hh.push hs hc⟩
  · cases H
theorem nat_R {x : Int32} {z : Nat} (h : x.toInt = Int.ofNat z) : ¬ x < 0 ∧ x.toNatClampNeg = z := by
  refine ⟨fun q => ?_, idx_of h⟩
  rw [Int32.lt_iff_toInt_lt] at q
  have : (0 : Int32).toInt = 0 := by decide
  have h' : x.toInt = (z : Int) := h
  omega
theorem k_newi : POK θ L C M hd Q K (o_newi (pc + 2)) (pc, .newarray .int, ta, tb) := by
  intro env lv st m h c s go cut call ret lv' st' h' he hlv hst hh hgo hcall hret H
  unfold o_newi at H
  split at H
  · obtain ⟨w, r', rfl, ⟨xv, rfl, hx⟩, hr⟩ := hst
    obtain ⟨g1, g2⟩ := nat_R hx
    split at H
    · rename_i hn
      rw [Nat.ble_eq] at hn
      obtain ⟨q1, q2, h2, H, hh2⟩ := wNew_ok hh (rep_0 _) (repF_ok H)
      refine Or.inr ⟨g1, by rw [g2]; exact hn, q1, by rw [g2]; exact q2, Or.inl ⟨rfl, ?_⟩⟩
      rw [g2, hh.1]
      exact hgo _ _ _ _ _ _ _ H _ _ _ hlv ⟨_, _, rfl, rfl, hr⟩ hh2
    · cases H
  · cases H
theorem k_newl : POK θ L C M hd Q K (o_newl (pc + 2)) (pc, .newarray .long, ta, tb) := by
  intro env lv st m h c s go cut call ret lv' st' h' he hlv hst hh hgo hcall hret H
  unfold o_newl at H
  split at H
  · obtain ⟨w, r', rfl, ⟨xv, rfl, hx⟩, hr⟩ := hst
    obtain ⟨g1, g2⟩ := nat_R hx
    split at H
    · rename_i hn
      rw [Nat.ble_eq] at hn
      obtain ⟨q1, q2, h2, H, hh2⟩ := wNew_ok hh (rep_1 _) (repF_ok H)
      refine Or.inr ⟨g1, by rw [g2]; exact hn, q1, by rw [g2]; exact q2, Or.inr ⟨rfl, ?_⟩⟩
      rw [g2, hh.1]
      exact hgo _ _ _ _ _ _ _ H _ _ _ hlv ⟨_, _, rfl, rfl, hr⟩ hh2
    · cases H
  · cases H
theorem k_newr {i : Nat} : POK θ L C M hd Q K (o_newr (pc + 3)) (pc, .anewarray i, ta, tb) := by
  intro env lv st m h c s go cut call ret lv' st' h' he hlv hst hh hgo hcall hret H
  unfold o_newr at H
  split at H
  · obtain ⟨w, r', rfl, ⟨xv, rfl, hx⟩, hr⟩ := hst
    obtain ⟨g1, g2⟩ := nat_R hx
    split at H
    · rename_i hn
      rw [Nat.ble_eq] at hn
      obtain ⟨q1, q2, h2, H, hh2⟩ := wNew_ok hh (rep_2 _) (repF_ok H)
      refine Or.inr ⟨g1, by rw [g2]; exact hn, q1, by rw [g2]; exact q2, ?_⟩
      rw [g2, hh.1]
      exact hgo _ _ _ _ _ _ _ H _ _ _ hlv ⟨_, _, rfl, rfl, hr⟩ hh2
    · cases H
  · cases H
theorem k_new2 {i d : Nat} : POK θ L C M hd Q K (o_new2 (pc + 4)) (pc, .multianewarray i d, ta, tb) := by
  intro env lv st m h c s go cut call ret lv' st' h' he hlv hst hh hgo hcall hret H
  unfold o_new2 at H
  split at H
  · obtain ⟨w, _, rfl, ⟨xv, rfl, hx⟩, w2, r', rfl, ⟨yv, rfl, hy⟩, hr⟩ := hst
    obtain ⟨g1, g2⟩ := nat_R hx
    obtain ⟨g3, g4⟩ := nat_R hy
    split at H
    · rename_i hn
      rw [Bool.and_eq_true, Bool.and_eq_true, Bool.and_eq_true, Nat.ble_eq, Nat.ble_eq, Nat.ble_eq, Nat.ble_eq] at hn
      obtain ⟨n1, n2, n3, n4⟩ := hn
      have H := repF_ok (refsF_ok H)
      obtain ⟨h2, H, -, hs⟩ := hset_ok H
      obtain ⟨h3, H, hh3⟩ := rowsF_ok (rep_0 _) H (hh.push hs (rep_3 _ _))
      have H := natF_ok (natF_ok (natF_ok H))
      refine Or.inr ⟨g3, g1, by rw [g4]; exact n2, by rw [g2]; exact n1, ?_⟩
      show _ ∧ _ ∧ _
      rw [g2, g4, hh.1]
      exact ⟨n3, n4, hgo _ _ _ _ _ _ _ H _ _ _ hlv ⟨_, _, rfl, rfl, hr⟩ hh3⟩
    · cases H
  · cases H
theorem k_new {i : Nat} (h0 : tb = 0) (hd0 : (dflt ta).all noD = true) : POK θ L C M hd Q K (o_new ta (fnum ta) (dW ta) (pc + 3)) (pc, .new i, ta, tb) := by
  intro env lv st m h c s go cut call ret lv' st' h' he hlv hst hh hgo hcall hret H
  unfold o_new at H
  obtain ⟨q1, q2, h2, H, hh2⟩ := wNew_ok hh (y := .inr (ta, dflt ta)) (show cR θ (.inr (ta, dW ta)) (.inr (ta, dflt ta)) from ⟨rfl, dflt_R ta hd0⟩) H
  refine Or.inr (Or.inl ⟨h0, q1, q2, ?_⟩)
  rw [hh.1]
  exact hgo _ _ _ _ _ _ _ H _ _ _ hlv ⟨_, _, rfl, rfl, hst⟩ hh2
theorem k_throw {i : Nat} {x : Nat × Nat × Nat × Nat × Nat × Nat} (h1 : tb = 1) (hx : XLs[ta]? = some x) : POK θ L C M hd Q K (o_throw x.2.2.1) (pc, .new i, ta, tb) := by
  intro env lv st m h c s go cut call ret lv' st' h' he hlv hst hh hgo hcall hret H
  unfold o_throw at H
  split at H
  · rename_i hhd
    split at H
    · rename_i hn
      rw [Bool.and_eq_true, Bool.and_eq_true, Nat.ble_eq, Nat.ble_eq, Nat.ble_eq] at hn
      exact Or.inr (Or.inr ⟨h1, hhd, hn.1, hn.2.1, by rw [cats_ok hst]; exact hn.2.2, x, hx, hret _ H _ rfl⟩)
    · cases H
  · cases H
theorem k_copy {i : Nat} (h7 : tb = 7) : POK θ L C M hd Q K (o_copy (pc + 3)) (pc, .invokestatic i, ta, tb) := by
  intro env lv st m h c s go cut call ret lv' st' h' he hlv hst hh hgo hcall hret H
  unfold o_copy at H
  split at H
  · rename_i z dp a1 sp a0 r
    obtain ⟨_, _, rfl, ⟨nv, rfl, hn⟩, _, _, rfl, ⟨dv, rfl, hdv⟩, w1, _, rfl, e1, _, _, rfl, ⟨sv, rfl, hs⟩, w0, r', rfl, e0, hr⟩ := hst
    obtain rfl : w1 = .ref a1 := e1
    obtain rfl : w0 = .ref a0 := e0
    obtain ⟨n1, n2⟩ := nat_R hn
    obtain ⟨d1, d2⟩ := nat_R hdv
    obtain ⟨s1, s2⟩ := nat_R hs
    split at H
    · rename_i l0 hl0
      split at H
      · rename_i l1 hl1
        obtain ⟨y0, hy0, hc0⟩ := hh.at hl0 (by intro q; cases q)
        obtain ⟨f, rfl, hf⟩ := c_0 hc0
        obtain ⟨y1, hy1, hc1⟩ := hh.at hl1 (by intro q; cases q)
        obtain ⟨g, rfl, hg⟩ := c_0 hc1
        split at H
        · rename_i hb
          rw [Bool.and_eq_true, Bool.and_eq_true, Nat.ble_eq, Nat.ble_eq, Nat.ble_eq] at hb
          obtain ⟨h2, H, -, hs2⟩ := hset_ok H
          refine Or.inr (Or.inl ⟨h7, copy_mk (k := fun st h => (st.map Value.category).sum ≤ 8 ∧ K (pc + 3) lv' st h c s) hy0 hy1 s1 d1 n1 (by rw [s2, n2]; exact hb.1) (by rw [d2, n2]; exact hb.2.1) ⟨by rw [cats_ok hr]; exact hb.2.2, ?_⟩⟩)
          rw [n2, d2, s2]
          exact hgo _ _ _ _ _ _ _ H _ _ _ hlv hr (hh.set hy1 hs2 (cpy_R hf hg hb.1 hb.2.1))
        · cases H
      · cases H
    · cases H
  · cases H
theorem k_obj {i : Nat} (h6 : tb = 6) : POK θ L C M hd Q K (o_obj (pc + 3)) (pc, .invokespecial i, ta, tb) := by
  intro env lv st m h c s go cut call ret lv' st' h' he hlv hst hh hgo hcall hret H
  unfold o_obj at H
  split at H
  · rename_i a r
    obtain ⟨w, r', rfl, hx, hr⟩ := hst
    obtain rfl : w = .ref a := hx
    split at H
    · rename_i hn
      rw [Nat.ble_eq] at hn
      exact Or.inr (Or.inl ⟨h6, by rw [cats_ok hr]; exact hn, hgo _ _ _ _ _ _ _ H _ _ _ hlv hr hh⟩)
    · cases H
  · cases H
theorem k_iret : POK θ L C M hd Q K o_iret (pc, .ireturn, ta, tb) := by
  intro env lv st m h c s go cut call ret lv' st' h' he hlv hst hh hgo hcall hret H
  unfold o_iret at H
  split at H
  · obtain ⟨w, r', rfl, hx, hr⟩ := hst
    cases (show r' = [] from hr)
    split at H
    · rename_i hR
      split at H
      · rename_i hn
        obtain ⟨xv, rfl⟩ := isNum_ok hn hx
        exact Or.inr ⟨xv, rfl, ⟨_, hR, rfl⟩, hret _ H _ (A2.one hx)⟩
      · cases H
    · rename_i hR
      rcases lin_ok he hx H with ⟨xv, p, rfl, hp, H⟩ | H
      · split at H
        · rename_i hn
          obtain ⟨t, a, b⟩ := p
          rw [Bool.and_eq_true, Bool.or_eq_true, beq_iff, bEq_iff, bEq_iff] at hn
          obtain ⟨e, hn⟩ := hn
          have e : t = 0 := e
          subst e
          have e2 : xv.toInt = b := hp.1
          have hb : xv = 0 ∨ xv = 1 := by
            rcases hn with q | q
            · left; apply toInt_inj; rw [e2]; exact q
            · right; apply toInt_inj; rw [e2]; exact q
          exact Or.inr ⟨xv, rfl, ⟨_, hR, by rcases hb with rfl | rfl <;> rfl⟩, hret _ H _ (A2.one ⟨xv, rfl, e2⟩)⟩
        · cases H
      · cases H
    · cases H
  · cases H
theorem k_aret : POK θ L C M hd Q K o_aret (pc, .areturn, ta, tb) := by
  intro env lv st m h c s go cut call ret lv' st' h' he hlv hst hh hgo hcall hret H
  unfold o_aret at H
  split at H
  · rename_i a
    obtain ⟨w, r', rfl, hx, hr⟩ := hst
    obtain rfl : w = .ref a := hx
    cases (show r' = [] from hr)
    split at H
    · rename_i hR
      exact Or.inr ⟨_, rfl, ⟨_, hR⟩, hret _ H _ (A2.one rfl)⟩
    · cases H
  · cases H
theorem k_ret : POK θ L C M hd Q K o_ret (pc, .return_, ta, tb) := by
  intro env lv st m h c s go cut call ret lv' st' h' he hlv hst hh hgo hcall hret H
  unfold o_ret at H
  split at H
  · cases (show st' = [] from hst)
    split at H
    · rename_i hR
      exact Or.inr ⟨rfl, hR, hret _ H _ rfl⟩
    · cases H
  · cases H
end OPT
section MKO
variable {θ : Nat → Int32} {L : Nat} {C : Nat → List Value → PH → (Rs → PH → Prop) → Prop} {M : PM} {hd : HD4} {Q : Rs → PH → Prop} {K : Kt}
theorem kK (x : Int32) : vR θ (.inl x.toInt) (.int x) := ⟨x, rfl, rfl⟩
theorem bool_put {ty : FieldType} (hty : ty = .boolean) {v : AV} {w : Value} (hv : vR θ v w) (h : isBit v = true) : narrow ty w = w ∧ fits ty w = true := by
  subst hty
  unfold isBit at h
  split at h
  · obtain ⟨y, rfl, e⟩ := hv
    rw [Bool.or_eq_true, bEq_iff, bEq_iff] at h
    have hb : y = 0 ∨ y = 1 := by
      rcases h with q | q
      · left; apply toInt_inj; rw [e]; exact q
      · right; apply toInt_inj; rw [e]; exact q
    rcases hb with rfl | rfl <;> exact ⟨rfl, rfl⟩
  · cases h
theorem ref_put {ty : FieldType} (hty : (∃ x, ty = .object x) ∨ (∃ x, ty = .array x)) {v : AV} {w : Value} (hv : vR θ v w) (h : isRf v = true) : narrow ty w = w ∧ fits ty w = true := by
  unfold isRf at h
  split at h
  · rename_i a
    obtain rfl : w = .ref a := hv
    rcases hty with ⟨x, rfl⟩ | ⟨x, rfl⟩ <;> exact ⟨rfl, rfl⟩
  · cases h
set_option maxHeartbeats 1000000 in
theorem mkO_ok (te : TE) : POK θ L C M hd Q K (mkO te) te := by
  obtain ⟨pc, ins, ta, tb⟩ := te
  unfold mkO
  dsimp only
  split
  · exact k_push (kK _) (fun _ _ _ _ _ q => q)
  · exact k_push (kK _) (fun _ _ _ _ _ q => q)
  · exact k_push (kK _) (fun _ _ _ _ _ q => q)
  · rename_i n
    exact k_push (w := .long (Int64.ofNat n)) (show vR θ (.inr (.inr (.long (Int64.ofNat n)))) (.long (Int64.ofNat n)) from rfl) (fun _ _ _ _ _ q => q)
  · split
    · rename_i q hq
      split
      · rename_i h0
        exact k_push (kK q.2.2) (fun _ _ _ _ _ w => ⟨q, hq, h0, w⟩)
      · exact k_no
    · exact k_no
  · split
    · rename_i q hq
      split
      · rename_i h0
        exact k_push (kK q.2.2) (fun _ _ _ _ _ w => ⟨q, hq, h0, w⟩)
      · exact k_no
    · exact k_no
  · exact k_iload (fun _ _ _ _ _ q => q)
  · exact k_iload (fun _ _ _ _ _ q => q)
  · exact k_aload (fun _ _ _ _ _ q => q)
  · exact k_aload (fun _ _ _ _ _ q => q)
  · exact k_istore (fun _ _ _ _ _ q => q)
  · exact k_istore (fun _ _ _ _ _ q => q)
  · exact k_astore (fun _ _ _ _ _ q => q)
  · exact k_astore (fun _ _ _ _ _ q => q)
  · split
    · rename_i hz
      exact k_iinc hz
    · exact k_no
  · exact k_iadd
  · exact k_isub
  · exact k_imul
  · exact k_idiv
  · exact k_irem
  · exact k_ineg
  · exact k_any (fun _ _ _ _ _ _ _ q => q)
  · exact k_any (fun _ _ _ _ _ _ _ q => q)
  · exact k_any (fun _ _ _ _ _ _ _ q => q)
  · exact k_any (fun _ _ _ _ _ _ _ q => q)
  · exact k_any (fun _ _ _ _ _ _ _ q => q)
  · exact k_i2l
  · exact k_lcmp
  · exact k_dup
  · exact k_dup2
  · exact k_pop
  · unfold jT
    split
    · rename_i h0; exact k_goto h0
    · exact k_no
  · unfold jT
    split
    · rename_i h0; exact k_if h0
    · exact k_no
  · unfold jT
    split
    · rename_i h0; exact k_icmp h0
    · exact k_no
  · split
    · rename_i h1
      unfold jT
      split
      · rename_i h0; exact k_sw h1.1 h1.2 h0
      · exact k_no
    · exact k_no
  · exact k_iald
  · exact k_iast
  · exact k_lald
  · exact k_last
  · exact k_aald
  · exact k_aast
  · exact k_alen
  · split
    · rename_i hf; exact k_get hf
    · exact k_no
  · split
    · rename_i hf
      split
      · rename_i hty
        refine k_put hf (fun v w hv hn => ?_)
        obtain ⟨y, rfl⟩ := isNum_ok hn hv
        rw [hty]; exact ⟨rfl, rfl⟩
      · rename_i hty
        exact k_put hf (fun v w hv hn => bool_put hty hv hn)
      · rename_i x hty
        exact k_put hf (fun v w hv hn => ref_put (Or.inl ⟨_, hty⟩) hv hn)
      · rename_i x hty
        exact k_put hf (fun v w hv hn => ref_put (Or.inr ⟨_, hty⟩) hv hn)
      · exact k_no
    · exact k_no
  · exact k_newi
  · exact k_newl
  · exact k_newr
  · exact k_new2
  · split
    · rename_i h0; exact k_new h0.1 h0.2
    · split
      · rename_i h1
        split
        · rename_i x hx; exact k_throw h1 hx
        · exact k_no
      · exact k_no
  · intro env lv st m h c s go cut call ret lv' st' h' he hlv hst hh hgo hcall hret H
    exact Or.inr (hcall _ _ H)
  · split
    · rename_i h7; exact k_copy h7
    · rename_i h7
      intro env lv st m h c s go cut call ret lv' st' h' he hlv hst hh hgo hcall hret H
      exact Or.inr (Or.inr ⟨h7, hcall _ _ H⟩)
  · split
    · rename_i h6; exact k_obj h6
    · split
      · rename_i h9
        intro env lv st m h c s go cut call ret lv' st' h' he hlv hst hh hgo hcall hret H
        exact Or.inr (Or.inr ⟨h9, hcall _ _ H⟩)
      · exact k_no
  · exact k_iret
  · exact k_aret
  · exact k_ret
  · exact k_no
end MKO

section
def xct (e : Nat) : Nat := match e with
  | 0 => 13
  | 1 => 15
  | 2 => 32
  | 3 => 44
  | _ => 0
theorem xct_ok : ∀ e, e < 4 → Cond.classLink RL (xct e) (xnm.getD e "") ∈ lw_tbl
  | 0, _ => in_t3 (List.mem_of_getElem? (i := 63) rfl)
  | 1, _ => in_t3 (List.mem_of_getElem? (i := 64) rfl)
  | 2, _ => in_t3 (List.mem_of_getElem? (i := 195) rfl)
  | 3, _ => in_t4 (List.mem_of_getElem? (i := 10) rfl)
  | n + 4, h => absurd h (by omega)
theorem xcs_ok : ∀ e, e < 4 → Cond.castable (xnm.getD e "") (xnm.getD e "") ∈ lw_tbl
  | 0, _ => in_t3 (List.mem_of_getElem? (i := 74) rfl)
  | 1, _ => in_t3 (List.mem_of_getElem? (i := 147) rfl)
  | 2, _ => in_t3 (List.mem_of_getElem? (i := 206) rfl)
  | 3, _ => in_t4 (List.mem_of_getElem? (i := 20) rfl)
  | n + 4, h => absurd h (by omega)
def hkOK (cc : ByteArray) (nL : Nat) (r : (Nat × Nat × Nat × Int) × Nat × Nat) : Bool :=
  decide (r.1.2.2.1 < 4) && r.2.2 == xct r.1.2.2.1 && ((List.range 16).any (fun k => dcd cc r.2.1 (.astore k) 2 && decide (k < nL) && dcd cc (r.2.1 + 2) (.iconst r.1.2.2.2) 1 && dcd cc (r.2.1 + 3) .ireturn 1) || ([0, 1, 2, 3] : List (Fin 4)).any (fun k => dcd cc r.2.1 (.astore_n k) 1 && decide ((k : Nat) < nL) && dcd cc (r.2.1 + 1) (.iconst r.1.2.2.2) 1 && dcd cc (r.2.1 + 2) .ireturn 1))
noncomputable def hqOK (q : Nat × List ((Nat × Nat × Nat × Int) × Nat × Nat)) : Bool := match MT[q.1]? with
  | some M => q.2.all (hkOK (pB M) (pL M)) && decide (pR M = some .int) && decide (pO M = 11)
  | none => false
set_option maxRecDepth 100000 in
theorem HDq_ok : HDq.all hqOK = true := by decide +kernel
theorem nw_on {w : Cond} (h : nwOK w = true) : w.onTables = true := by
  cases w <;> first | rfl | (exact absurd h (by simp [nwOK]))
section FN2
variable {p : Program} {l : Launch} {e : Env} {R : Room} {s : State} {m : MethodId} {args : Array Value} {below : List Frame} {meth : Method} {c : Code} {D : va_G} {cy : Nat → ClassId} {b : Option Nat} {S : Nat × (Nat → Int32)} {M : PM} {ws0 : va_W} {n : Nat}
theorem xc_of {Q : Rs → PH → Prop} {E : String} {x : Nat} {h : PH} {ws : va_W} {H : Heap} {locs : List Loc} (hI : INV D cy (va_A ws0 s.heap.size) b s ws0 h ws H locs) (hxe : xnm[x]? = some E) (hq : Q (.inr x) h) (t : State) (h1 : H.size ≤ t.heap.size) (h2 : ∀ q : Nat, q < H.size → t.heap[q]? = H[q]?) : XcP D cy b ws0 s.heap.size Q E s t := by
  obtain ⟨hex, hrE, hP, hD, hS⟩ := hI
  exact ⟨⟨x, h, ws, hxe, hq, hex, hrE, hP.kept (fun k q hk => h2 q.1 (hP k q hk).lt), hD⟩, Nat.le_trans hS.1 h1, fun q q1 q2 => (h2 q (Nat.lt_of_lt_of_le q1 hS.1)).trans (hS.2.1 q q1 q2)⟩
theorem hx_plain {Q : Rs → PH → Prop} (hlocks : meth.locks = false) (htab : ∀ x ∈ c.exceptionTable.toList, False) :
    HXt p l e R s m args below meth c D cy (va_A ws0 s.heap.size) b M ws0 (vx_MQ below (QcP D cy b ws0 s.heap.size Q) (XcP D cy b ws0 s.heap.size Q) args s (pC M) (pS M) (va_A ws0 s.heap.size)) [] Q := by
  intro E ce q9 x pc ls rest lv' h ws H locs cells slots hxe hsome hnone hl hI hce hcv hcf hcl hsl
  exact vx_out (fun y hy => (htab y hy).elim) hlocks hce hcv hcf (fun t ht _ => xc_of hI hxe (hnone rfl) t (by rw [ht]; exact Nat.le_refl _) (fun q _ => by rw [ht])) hI.2.2.2.2.2.2 hcl hsl
theorem hn_of {Q : Rs → PH → Prop} {hd : List (Nat × Nat × Nat × Int)} (hc : CX p l R s m args meth c D cy (va_A ws0 s.heap.size) b S M n) (hlocks : meth.locks = false) (htab : pO M = 9 → ∀ x ∈ c.exceptionTable.toList, False) :
    HNt p l e R s m args below meth c D cy (va_A ws0 s.heap.size) b M ws0 (vx_MQ below (QcP D cy b ws0 s.heap.size Q) (XcP D cy b ws0 s.heap.size Q) args s (pC M) (pS M) (va_A ws0 s.heap.size)) hd Q := by
  obtain ⟨hx, hb, hmax, hown, hts, hXK, hA, hini, hRc, hRs, hRf, hRl, htr⟩ := hc
  intro i a pc x ls rest lv' h ws H locs cells slots hdg hxok hxl h0 hq hsum hl hI hcl hsl
  simp only [xok, hxl, Bool.and_eq_true, beq_iff_eq, decide_eq_true_eq, dcd] at hxok
  obtain ⟨⟨⟨⟨⟨⟨ho, hi⟩, hic⟩, hx4⟩, ho9⟩, hd3⟩, hrest⟩ := hxok
  have htab := htab ho9
  have hownE : cnm.getD (pO M) "" = RX9 := by rw [ho9]; rfl
  rw [hownE] at hown
  have hE : xnm[x.2.2.1]? = some (xnm.getD x.2.2.1 "") := by
    rw [List.getD, List.getElem?_eq_getElem (show x.2.2.1 < xnm.length from hx4)]; rfl
  have hmem := List.mem_of_getElem? hxl
  have hk : (Cond.classLink RX9 i (xnm.getD x.2.2.1 "")).before args s = true := by
    have h1 := XL_ok x hmem
    have e1 : xlW x = Cond.classLink RX9 i (xnm.getD x.2.2.1 "") := by
      unfold xlW
      rw [ho, hownE, hi]
    rw [e1] at h1
    exact hts _ (TBL_of h1)
  have hini2 : (Cond.initialized (xnm.getD x.2.2.1 "")).before args s = true := hts _ (TBL_of (INx_ok _ (List.mem_of_getElem? hE)))
  obtain ⟨tx, sa, hstr⟩ := hXK.2.2.2.2.2.1 x hmem
  have hxw := xw_all x.2.2.1 hx4
  have hat : ∀ w ∈ (Bundle.ownAtomsX RX9 (xic x.2.2.1) (xnm.getD x.2.2.1 "") (xix x.2.2.1) (xrx x.2.2.1) xup).filter vx_no, w.before args s = true ∧ vx_ot w = true := by
    intro w hw
    obtain ⟨h1, h2⟩ := List.mem_filter.mp hw
    obtain ⟨h3, h4⟩ := hxw w h1 h2
    simp only [gwOK, Bool.or_eq_true] at h4
    rcases h4 with h4 | h4
    · exact ⟨hts _ (TBL_of ⟨h3, h4⟩), by simp [vx_ot, h4]⟩
    · exact ⟨va_Nw.use (nw_on h4) (hXK.2.1 w h3 h4), by simp [vx_ot, nw_on h4]⟩
  have hgood : ∀ w ∈ Cond.classLink RX9 i (xnm.getD x.2.2.1 "") :: Cond.initialized (xnm.getD x.2.2.1 "") :: (Bundle.ownAtomsX RX9 (xic x.2.2.1) (xnm.getD x.2.2.1 "") (xix x.2.2.1) (xrx x.2.2.1) xup).filter vx_no, vx_ot w = true := by
    intro w hw
    rcases List.mem_cons.mp hw with rfl | hw
    · rfl
    · rcases List.mem_cons.mp hw with rfl | hw
      · rfl
      · exact (hat w hw).2
  have hXc : ∀ t : State, s.vm.Alike t.vm → H.size ≤ t.heap.size → (∀ q : Nat, q < H.size → t.heap[q]? = H[q]?) → XcP D cy b ws0 s.heap.size Q (xnm.getD x.2.2.1 "") s t := fun t _ g1 g2 => xc_of hI hE hq t g1 g2
  have hS := hI.2.2.2.2
  by_cases hw : x.2.2.2.1 = 1
  · rw [if_pos hw] at hrest
    simp only [Bool.and_eq_true, decide_eq_true_eq] at hrest
    obtain ⟨⟨hd4, hd7⟩, hd10⟩ := hrest
    rw [hic] at hd7
    exact nx_throwSW hx hb htr (xd0 _ hx4) (xd1 _ hx4) (xd2 _ hx4) (xd5 _ hx4) hown (xfit _ hx4) xfit2 hk hini2 hstr (fun w hw => (hat w hw).1) hgood hXK.2.2.2.2.1.1 hXK.2.2.2.2.1.2 hS (hl.1.trans hmax.symm) hdg hd3 hd4 hd7 hd10 (fun y hy => (htab y hy).elim) (by show 2 + 3 < _; omega) (by show _ + (13 * (2 + 1) + 43) ≤ _; omega) (Nat.le_trans hcl hRc) (Nat.le_trans hsl hRs) hlocks hXc hS.2.2 hcl hsl
  · rw [if_neg hw] at hrest
    simp only [Bool.and_eq_true, decide_eq_true_eq] at hrest
    obtain ⟨⟨hd4, hd6⟩, hd9⟩ := hrest
    rw [hic] at hd6
    exact nx_throwS hx hb htr (xd0 _ hx4) (xd1 _ hx4) (xd2 _ hx4) (xd5 _ hx4) hown (xfit _ hx4) xfit2 hk hini2 hstr (fun w hw => (hat w hw).1) hgood hXK.2.2.2.2.1.1 hXK.2.2.2.2.1.2 hS (hl.1.trans hmax.symm) hdg hd3 hd4 hd6 hd9 (fun y hy => (htab y hy).elim) (by show 2 + 3 < _; omega) (by show _ + (13 * (2 + 1) + 43) ≤ _; omega) (Nat.le_trans hcl hRc) (Nat.le_trans hsl hRs) hlocks hXc hS.2.2 hcl hsl
def ent (r : (Nat × Nat × Nat × Int) × Nat × Nat) : ExceptionTableEntry := ⟨r.1.1, r.1.2.1, r.2.1, r.2.2⟩
theorem hx_wrap {Q : Rs → PH → Prop} {rows : List ((Nat × Nat × Nat × Int) × Nat × Nat)} (hc : CX p l R s m args meth c D cy (va_A ws0 s.heap.size) b S M n) (hlocks : meth.locks = false) (hret : meth.sig.returnType = pR M) (hO : pO M = 11) (hri : pR M = some .int) (hrows : ∀ r ∈ rows, hkOK (pB M) (pL M) r = true) (htab : c.exceptionTable.toList = rows.map ent) :
    HXt p l e R s m args below meth c D cy (va_A ws0 s.heap.size) b M ws0 (vx_MQ below (QcP D cy b ws0 s.heap.size Q) (XcP D cy b ws0 s.heap.size Q) args s (pC M) (pS M) (va_A ws0 s.heap.size)) (rows.map Prod.fst) Q := by
  have hRR := hr_of (e := e) (below := below) (Q := Q) (ws0 := ws0) hc hret hlocks
  obtain ⟨hx, hb, hmax, hown, hts, hXK, hA, hini, hRc, hRs, hRf, hRl, htr⟩ := hc
  have hownE : cnm.getD (pO M) "" = RL := by rw [hO]; rfl
  rw [hownE] at hown
  intro E ce q9 x pc ls rest lv' h ws H locs cells slots hxe hsome hnone hl hI hce hcv hcf hcl hsl
  have hxlt : x < 4 := (List.getElem?_eq_some_iff.mp hxe).1
  have hEe : ∀ y, y < 4 → xnm[y]? = some (xnm.getD y "") := fun y hy => by
    rw [List.getD, List.getElem?_eq_getElem (show y < xnm.length from hy)]; rfl
  have hE : E = xnm.getD x "" := Option.some.inj (hxe.symm.trans (hEe x hxlt))
  have hpass : ∀ r ∈ rows, (decide (r.1.1 ≤ pc) && decide (pc < r.1.2.1) && r.1.2.2.1 == x) = false → covers (ent r) pc = false ∨ ((ent r).catchType ≠ 0 ∧ ∃ nm : String, (Cond.classLink RL (ent r).catchType nm).before args s = true ∧ va_Nc E nm s) := by
    intro r hr hno
    have hk := hrows r hr
    simp only [hkOK, Bool.and_eq_true, decide_eq_true_eq, beq_iff_eq] at hk
    obtain ⟨⟨h4, hct⟩, -⟩ := hk
    by_cases hcv2 : covers (ent r) pc = true
    · right
      have hne : r.1.2.2.1 ≠ x := by
        intro q
        have h9 : (decide (r.1.1 ≤ pc) && decide (pc < r.1.2.1)) = true := hcv2
        rw [h9, q] at hno
        simp at hno
      refine ⟨?_, xnm.getD r.1.2.2.1 "", ?_, ?_⟩
      · show r.2.2 ≠ 0
        rw [hct]
        exact (by decide : ∀ y, y < 4 → xct y ≠ 0) _ h4
      · show (Cond.classLink RL r.2.2 _).before args s = true
        rw [hct]
        exact hts _ (TBL_of ⟨xct_ok _ h4, rfl⟩)
      · exact hXK.2.2.2.2.2.2.2 x _ E _ hxe (hEe _ h4) (fun q => hne q.symm)
    · left; simpa using hcv2
  cases hpc : p_catch (rows.map Prod.fst) pc x with
  | none =>
    have hall : ∀ r ∈ rows, (decide (r.1.1 ≤ pc) && decide (pc < r.1.2.1) && r.1.2.2.1 == x) = false := by
      intro r hr
      simp only [p_catch, Option.map_eq_none_iff, List.find?_eq_none] at hpc
      have h9 := hpc r.1 (List.mem_map_of_mem hr)
      simpa using h9
    refine vx_outP hown hlocks (fun z hz => ?_) hce hcv hcf (fun t ht _ => xc_of hI hxe (hnone hpc) t (by rw [ht]; exact Nat.le_refl _) (fun q _ => by rw [ht])) hI.2.2.2.2.2.2 hcl hsl
    rw [htab] at hz
    obtain ⟨r, hr, rfl⟩ := List.mem_map.mp hz
    exact hpass r hr (hall r hr)
  | some z =>
    have hQ := hsome z hpc
    simp only [p_catch, Option.map_eq_some_iff] at hpc
    obtain ⟨q, hq, rfl⟩ := hpc
    rw [List.find?_map, Option.map_eq_some_iff] at hq
    obtain ⟨r, hr, rfl⟩ := hq
    rw [List.find?_eq_some_iff_append] at hr
    obtain ⟨hyes, pre, suf, hsplit, hno⟩ := hr
    have hyes : (decide (r.1.1 ≤ pc) && decide (pc < r.1.2.1) && r.1.2.2.1 == x) = true := hyes
    have hrm : r ∈ rows := by rw [hsplit]; simp
    have hk := hrows r hrm
    simp only [hkOK, Bool.and_eq_true, decide_eq_true_eq, beq_iff_eq] at hk
    obtain ⟨⟨h4, hct⟩, hcode⟩ := hk
    simp only [Bool.and_eq_true, beq_iff_eq] at hyes
    obtain ⟨hcov, hxx⟩ := hyes
    refine vx_catch (own := RL) (name := xnm.getD r.1.2.2.1 "") (E := E) hown (pre.map ent) (ent r) (suf.map ent) (by rw [htab, hsplit]; simp) (fun z hz => ?_) (by show (decide (r.1.1 ≤ pc) && decide (pc < r.1.2.1)) = true; rw [hcov.1, hcov.2]; rfl) ?_ ?_ ?_ hce hcv hcf ?_
    · obtain ⟨r', hr', rfl⟩ := List.mem_map.mp hz
      refine hpass r' (by rw [hsplit]; simp [hr']) ?_
      have h9 : (!(decide (r'.1.1 ≤ pc) && decide (pc < r'.1.2.1) && r'.1.2.2.1 == x)) = true := hno r' hr'
      rwa [Bool.not_eq_true'] at h9
    · show r.2.2 ≠ 0
      rw [hct]
      exact (by decide : ∀ y, y < 4 → xct y ≠ 0) _ h4
    · show (Cond.classLink RL r.2.2 _).before args s = true
      rw [hct]
      exact hts _ (TBL_of ⟨xct_ok _ h4, rfl⟩)
    · rw [hE, hxx]
      exact va_Nw.use rfl (hXK.2.1 _ (xcs_ok x hxlt) rfl)
    · have hret9 : ∀ (pc9 : Nat) (ls9 : Array Slot), decode (pB M) pc9 = .ok (.ireturn, 1) → W p l e R s m args below meth c H locs cells slots (vx_MQ below (QcP D cy b ws0 s.heap.size Q) (XcP D cy b ws0 s.heap.size Q) args s (pC M) (pS M) (va_A ws0 s.heap.size)) (F0 m pc9 ls9 [.int (Int32.ofInt r.1.2.2.2)]) := fun pc9 ls9 hd9 =>
        hRR .ireturn pc9 ls9 (some (.int (Int32.ofInt r.1.2.2.2))) (some (.int (Int32.ofInt r.1.2.2.2))) h ws H locs cells slots hd9 ⟨.int, hri, vp_nar_int _⟩ hQ ⟨_, _, rfl, rfl, rfl⟩ hI hcl hsl
      rw [Bool.or_eq_true, List.any_eq_true, List.any_eq_true] at hcode
      rcases hcode with ⟨k, -, hk⟩ | ⟨k, -, hk⟩
      · simp only [Bool.and_eq_true, decide_eq_true_eq, dcd] at hk
        obtain ⟨⟨⟨k1, k2⟩, k3⟩, k4⟩ := hk
        exact lv_astore hx hb k1 hl k2 rfl (fun ls2 hl2 => lv_iconst hx hb k3 rfl (hret9 _ _ k4))
      · simp only [Bool.and_eq_true, decide_eq_true_eq, dcd] at hk
        obtain ⟨⟨⟨k1, k2⟩, k3⟩, k4⟩ := hk
        exact lv_astore_n hx hb k1 rfl hl k2 rfl (fun ls2 hl2 => lv_iconst hx hb k3 rfl (hret9 _ _ k4))
end FN2
end
section
/-! every method, by the number of calls that may be open -/
theorem hd_rows (μ : Nat) : ∃ rows, hdOf μ = rows.map Prod.fst ∧ tableOf (hhOf μ) = rows.map ent ∧ (rows = [] ∨ ∀ N, MT[μ]? = some N → (∀ r ∈ rows, hkOK (pB N) (pL N) r = true) ∧ pR N = some .int ∧ pO N = 11) := by
  cases hf : HDq.find? (fun q => q.1 == μ) with
  | none => exact ⟨[], by simp [hdOf, hf], by simp [hhOf, hf, tableOf], Or.inl rfl⟩
  | some q =>
    refine ⟨q.2, by simp [hdOf, hf], by simp [hhOf, hf, tableOf, ent], Or.inr fun N hN => ?_⟩
    have h1 := List.all_eq_true.mp HDq_ok q (List.mem_of_find?_eq_some hf)
    have h2 : q.1 = μ := by have h3 := List.find?_some hf; simpa using h3
    simp only [hqOK, h2, hN, Bool.and_eq_true, decide_eq_true_eq, List.all_eq_true] at h1
    exact ⟨h1.1.1, h1.1.2, h1.2⟩
theorem HD_wr : ∀ (μ : Nat) (N : PM), MT[μ]? = some N → pK N = 3 → pR N = some .int ∧ pO N = 11 := by
  intro μ N hN hk
  have h1 : MT.all (fun N => !(pK N == 3) || (decide (pR N = some .int) && decide (pO N = 11))) = true := by decide +kernel
  have h2 := List.all_eq_true.mp h1 N (List.mem_of_getElem? hN)
  simp only [hk, beq_self_eq_true, Bool.not_true, Bool.false_or, Bool.and_eq_true, decide_eq_true_eq] at h2
  exact h2
set_option maxHeartbeats 1000000 in
theorem sound_n {l : Launch} (htr : l.stackTraces = false) (D : va_G) (cy : Nat → ClassId) (b : Option Nat) (S : Nat × (Nat → Int32)) : ∀ (n μ : Nat) (N : PM) (av : List Value) (h : PH) (Q : Rs → PH → Prop), MT[μ]? = some N → ¬ pK N = 4 → Ex S n μ av h Q → CT l D cy b S n μ N av h Q
  | 0, _, _, _, _, _, _, _, H => H.elim
  | n + 1, μ, N, av, h, Q, hN, hk4, H => by
    obtain ⟨M', hM', hcat, HB⟩ := H
    cases Option.some.inj (hN.symm.trans hM')
    have hw := MT_w hN
    have hmem := List.mem_of_getElem? hN
    have hokn : mOK N = true := (MT_ok N hmem).resolve_left hk4
    have hpl := plain_all N hmem
    intro av' ws sz hav hrE
    have hcl : (cnm.getD (pO N) "") = (pY N).cls := by rw [List.getD, hw.1]; rfl
    have hlen : (lg_sl av').length ≤ pL N := by
      rw [sl_len]
      have h9 := A2.cats hav
      rw [show av'.map Value.category = av.map Value.category from h9]
      exact hcat
    refine px_of (cc := pB N) (maxL := pL N) (ret := pR N) hpl ?_ ?_
    · intro args s m hpre hnm
      have hat := atoms_spec (ws := wsN μ N) hpre
      by_cases hk3 : pK N = 3
      · have hcw := hat (Cond.codeWith (pY N) (pB N) (pL N) (pR N) (hhOf μ)) (by unfold wsN; rw [if_pos hk3]; exact List.mem_cons_self)
        obtain ⟨m9, meth, c, hn9, h1, h2, h3, h4, -, h5, h6, -⟩ := Cond.codeWith_spec hcw
        cases hnm.symm.trans hn9
        exact ⟨meth, c, h1, h2, h3, h4, h5, h6⟩
      · have hcw := hat (codeOf N) (by unfold wsN; rw [if_neg hk3]; exact List.mem_cons_self)
        obtain ⟨meth, c, h1, h2, h3, h4, h5, h6, -, -⟩ := Cond.code_spec hnm hcw
        exact ⟨meth, c, h1, h2, h3, h4, h5, h6⟩
    · intro p e s m args below meth c s₁ B hml hv
      obtain ⟨rfl, hsz, hP, hD0, hXK⟩ := hv
      subst hsz
      have hts0 := atoms_spec (ws := wsN μ N) B.pre
      have hts : ∀ w ∈ TBL, w.before av'.toArray s = true := fun w hw => hts0 w (List.mem_cons_of_mem _ hw)
      have hown : s.vm.findClass (cnm.getD (pO N) "") = some m.cls := by rw [hcl]; exact findClass_of_methodNamed B.named
      have hini : pK N = 2 → meth.name = "<init>" := fun hk2 => by
        have h1 := (name_of_methodNamed B.named B.method).1
        have h2 := hw.2
        rw [hk2] at h2
        rw [h1]
        exact h2.2.2.1
      have hc : CX p l (headSpec (wsN μ N) (rmN (n + 1) N)).room s m av'.toArray meth c D cy (va_A ws s.heap.size) b S N n := ⟨B.exec, B.bytes, hml, hown, hts, hXK, fun q hq => Or.inr hq, hini, Nat.le_refl _, Nat.le_refl _, (by show n + 9 ≤ n + 1 + 8; omega), (by show 40 * n + 240 ≤ 40 * (n + 1) + 200; omega), htr⟩
      have hR := hr_of (e := e) (below := below) (Q := Q) hc B.returns B.notSynchronized
      have hl := lv_entry av' (n := pL N) hlen
      have hrL := rl_args 0 hav
      have hI : INV D cy (va_A ws s.heap.size) b s ws h ws s.heap [] := ⟨fun _ _ q => q, hrE, hP, hD0.self, va_S.rf⟩
      rw [lg_entry_eq]
      by_cases hk3 : pK N = 3
      · have hcw := hts0 (Cond.codeWith (pY N) (pB N) (pL N) (pR N) (hhOf μ)) (by unfold wsN; rw [if_pos hk3]; exact List.mem_cons_self)
        have htab := vx_table (x := pY N) B hcw
        obtain ⟨rows, hr1, hr2, hr3⟩ := hd_rows μ
        rw [hr2] at htab
        rw [if_pos hk3, hr1] at HB
        obtain ⟨hri, hO⟩ := HD_wr μ N hN hk3
        have hrows : ∀ r ∈ rows, hkOK (pB N) (pL N) r = true := by
          rcases hr3 with rfl | h9
          · intro r hr; cases hr
          · exact (h9 N hN).1
        exact body hc (fun μ' N' av h Q' h1 h2 h3 => sound_n htr D cy b S n μ' N' av h Q' h1 h2 h3) hR (hx_wrap hc B.notSynchronized B.returns hO hri hrows htab) (hn_of hc B.notSynchronized (fun h9 => absurd (hO.symm.trans h9) (by decide))) hokn HB _ _ _ ws s.heap [] hl hrL rfl hI (Nat.zero_le _) (Nat.zero_le _)
      · have hcw := hts0 (codeOf N) (by unfold wsN; rw [if_neg hk3]; exact List.mem_cons_self)
        have ht : ∀ x ∈ c.exceptionTable.toList, False := by
          obtain ⟨meth9, c9, h1, h2, -, -, -, -, h7, -⟩ := Cond.code_spec B.named hcw
          cases Option.some.inj (h1.symm.trans B.method)
          cases Option.some.inj (h2.symm.trans (Stand.of_body B).code)
          intro x hx
          rw [Array.isEmpty_iff.mp h7] at hx
          cases hx
        rw [if_neg hk3] at HB
        exact body hc (fun μ' N' av h Q' h1 h2 h3 => sound_n htr D cy b S n μ' N' av h Q' h1 h2 h3) hR (hx_plain B.notSynchronized ht) (hn_of hc B.notSynchronized (fun _ => ht)) hokn HB _ _ _ ws s.heap [] hl hrL rfl hI (Nat.zero_le _) (Nat.zero_le _)
end
section
/-! rules of the pure machine -/
theorem brn.mono {c t f t' f' : Prop} (h1 : t → t') (h2 : f → f') (h : brn c t f) : brn c t' f' := ⟨fun q => h1 (h.1 q), fun q => h2 (h.2 q)⟩
theorem jmp.mono {pc : Nat} {off : Int} {f g : Nat → Prop} (h : ∀ t, f t → g t) (H : jmp pc off f) : jmp pc off g := ⟨H.1, h _ H.2⟩
theorem on1.mono {st : List Value} {f g : Int32 → List Value → Prop} (h : ∀ x r, f x r → g x r) (H : on1 st f) : on1 st g := by
  obtain ⟨x, r, rfl, H⟩ := on1_i H; exact h _ _ H
theorem on2.mono {st : List Value} {f g : Int32 → Int32 → List Value → Prop} (h : ∀ x y r, f x y r → g x y r) (H : on2 st f) : on2 st g := by
  obtain ⟨x, y, r, rfl, H⟩ := on2_i H; exact h _ _ _ H
theorem onL2.mono {st : List Value} {f g : Int64 → Int64 → List Value → Prop} (h : ∀ x y r, f x y r → g x y r) (H : onL2 st f) : onL2 st g := by
  obtain ⟨x, y, r, rfl, H⟩ := onL2_i H; exact h _ _ _ H
theorem onLI.mono {st : List Value} {f g : Int64 → Int32 → List Value → Prop} (h : ∀ x y r, f x y r → g x y r) (H : onLI st f) : onLI st g := by
  obtain ⟨x, y, r, rfl, H⟩ := onLI_i H; exact h _ _ _ H
theorem onR.mono {st : List Value} {f g : Nat → List Value → Prop} (h : ∀ x r, f x r → g x r) (H : onR st f) : onR st g := by
  obtain ⟨x, r, rfl, H⟩ := onR_i H; exact h _ _ H
theorem p_iald.mono {S : Nat × (Nat → Int32)} {h : PH} {st : List Value} {f g : List Value → Prop} (hh : ∀ r, f r → g r) (H : p_iald S h st f) : p_iald S h st g := by
  unfold p_iald at H ⊢
  split at H
  · split at H
    · exact ⟨H.1, hh _ H.2⟩
    · exact H.elim
  · exact ⟨H.1, hh _ H.2⟩
  · exact H.elim
theorem p_iast.mono {h : PH} {st : List Value} {f g : List Value → PH → Prop} (hh : ∀ r h, f r h → g r h) (H : p_iast h st f) : p_iast h st g := by
  unfold p_iast at H ⊢
  split at H
  · split at H
    · exact ⟨H.1, hh _ _ H.2⟩
    · exact H.elim
  · exact H.elim
theorem p_lald.mono {h : PH} {st : List Value} {f g : List Value → Prop} (hh : ∀ r, f r → g r) (H : p_lald h st f) : p_lald h st g := by
  unfold p_lald at H ⊢
  split at H
  · split at H
    · exact ⟨H.1, hh _ H.2⟩
    · exact H.elim
  · exact H.elim
theorem p_last.mono {h : PH} {st : List Value} {f g : List Value → PH → Prop} (hh : ∀ r h, f r h → g r h) (H : p_last h st f) : p_last h st g := by
  unfold p_last at H ⊢
  split at H
  · split at H
    · exact ⟨H.1, hh _ _ H.2⟩
    · exact H.elim
  · exact H.elim
theorem p_aald.mono {h : PH} {st : List Value} {f g : List Value → Prop} (hh : ∀ r, f r → g r) (H : p_aald h st f) : p_aald h st g := by
  unfold p_aald at H ⊢
  split at H
  · split at H
    · obtain ⟨h1, h2, q, h3, h4⟩ := H; exact ⟨h1, h2, q, h3, hh _ h4⟩
    · exact H.elim
  · exact H.elim
theorem p_aast.mono {h : PH} {st : List Value} {f g : List Value → PH → Prop} (hh : ∀ r h, f r h → g r h) (H : p_aast h st f) : p_aast h st g := by
  unfold p_aast at H ⊢
  split at H
  · split at H
    · exact ⟨H.1, hh _ _ H.2⟩
    · exact H.elim
  · exact H.elim
theorem p_alen.mono {S : Nat × (Nat → Int32)} {h : PH} {st : List Value} {f g : List Value → Prop} (hh : ∀ r, f r → g r) (H : p_alen S h st f) : p_alen S h st g := by
  unfold p_alen at H ⊢
  split at H
  · split at H
    · exact ⟨H.1, hh _ H.2⟩
    · exact H.elim
  · exact hh _ H
  · exact H.elim
theorem p_get.mono {h : PH} {ci k : Nat} {st : List Value} {f g : List Value → Prop} (hh : ∀ r, f r → g r) (H : p_get h ci k st f) : p_get h ci k st g := by
  unfold p_get at H ⊢
  split at H
  · split at H
    · obtain ⟨h1, h2, v, h3, h4⟩ := H; exact ⟨h1, h2, v, h3, hh _ h4⟩
    · exact H.elim
  · exact H.elim
theorem p_put.mono {h : PH} {ci k : Nat} {st : List Value} {f g : List Value → PH → Prop} (hh : ∀ r h, f r h → g r h) (H : p_put h ci k st f) : p_put h ci k st g := by
  unfold p_put at H ⊢
  split at H
  · split at H
    · obtain ⟨h1, h2, h3, h4, h5, h6⟩ := H; exact ⟨h1, h2, h3, h4, h5, hh _ _ h6⟩
    · exact H.elim
  · exact H.elim
theorem p_copy.mono {h : PH} {st : List Value} {f g : List Value → PH → Prop} (hh : ∀ r h, f r h → g r h) (H : p_copy h st f) : p_copy h st g := by
  unfold p_copy at H ⊢
  split at H
  · split at H
    · obtain ⟨h1, h2, h3, h4, h5, h6⟩ := H; exact ⟨h1, h2, h3, h4, h5, hh _ _ h6⟩
    · exact H.elim
  · exact H.elim
theorem p_new2.mono {h : PH} {st : List Value} {f g : List Value → PH → Nat → Nat → Prop} (hh : ∀ r h a b, f r h a b → g r h a b) (H : p_new2 h st f) : p_new2 h st g := by
  unfold p_new2 at H ⊢
  split at H
  · obtain ⟨h1, h2, h3, h4, h5⟩ := H; exact ⟨h1, h2, h3, h4, hh _ _ _ _ h5⟩
  · exact H.elim
theorem p_back.mono {M : PM} {hd : List (Nat × Nat × Nat × Int)} {Q Q' : Rs → PH → Prop} {K K' : Kt} (hQ : ∀ r h, Q r h → Q' r h) (hK : ∀ pc lv st h c s, K pc lv st h c s → K' pc lv st h c s) {pc : Nat} {lv : LV} {rest : List Value} {c s : Nat} (r : Rs) (h : PH) (H : p_back M hd Q K pc lv rest c s r h) : p_back M hd Q' K' pc lv rest c s r h := by
  unfold p_back at H ⊢
  cases r with
  | inl v => exact hK _ _ _ _ _ _ H
  | inr e =>
    simp only at H ⊢
    split at H
    · exact hQ _ _ H
    · exact hQ _ _ H
def Cmono (C : Nat → List Value → PH → (Rs → PH → Prop) → Prop) : Prop := ∀ (μ : Nat) (av : List Value) (h : PH) (Q Q' : Rs → PH → Prop), (∀ r h, Q r h → Q' r h) → C μ av h Q → C μ av h Q'
theorem p_call.mono {C : Nat → List Value → PH → (Rs → PH → Prop) → Prop} (hC : Cmono C) {M : PM} {hd : List (Nat × Nat × Nat × Int)} {Q Q' : Rs → PH → Prop} {K K' : Kt} (hQ : ∀ r h, Q r h → Q' r h) (hK : ∀ pc lv st h c s, K pc lv st h c s → K' pc lv st h c s) {pc μ : Nat} {virt : Bool} {lv : LV} {st : List Value} {h : PH} {c s : Nat} (H : p_call C M hd Q K pc μ virt lv st h c s) : p_call C M hd Q' K' pc μ virt lv st h c s := by
  unfold p_call at H ⊢
  split at H
  · exact H.elim
  · obtain ⟨h1, h2, h3, h4, h5, h6⟩ := H
    exact ⟨h1, h2, h3, h4, h5, hC _ _ _ _ _ (p_back.mono hQ hK) h6⟩
set_option maxHeartbeats 1000000 in
theorem pmI.mono {C : Nat → List Value → PH → (Rs → PH → Prop) → Prop} (hC : Cmono C) {S : Nat × (Nat → Int32)} {M : PM} {hd : List (Nat × Nat × Nat × Int)} {Q Q' : Rs → PH → Prop} {K K' : Kt} (hQ : ∀ r h, Q r h → Q' r h) (hK : ∀ pc lv st h c s, K pc lv st h c s → K' pc lv st h c s) {te : TE} {lv : LV} {st : List Value} {h : PH} {c s : Nat} (H : pmI C S M hd Q K te lv st h c s) : pmI C S M hd Q' K' te lv st h c s := by
  obtain ⟨pc, ins, ta, tb⟩ := te
  cases ins
  case ldc i => obtain ⟨q, h1, h2, H⟩ := H; exact ⟨q, h1, h2, hK _ _ _ _ _ _ H⟩
  case ldc_w i => obtain ⟨q, h1, h2, H⟩ := H; exact ⟨q, h1, h2, hK _ _ _ _ _ _ H⟩
  case iload i => obtain ⟨q, h1, H⟩ := H; exact ⟨q, h1, hK _ _ _ _ _ _ H⟩
  case iload_n i => obtain ⟨q, h1, H⟩ := H; exact ⟨q, h1, hK _ _ _ _ _ _ H⟩
  case lload i => obtain ⟨q, h1, H⟩ := H; exact ⟨q, h1, hK _ _ _ _ _ _ H⟩
  case aload i => obtain ⟨q, h1, h2, H⟩ := H; exact ⟨q, h1, h2, hK _ _ _ _ _ _ H⟩
  case aload_n i => obtain ⟨q, h1, h2, H⟩ := H; exact ⟨q, h1, h2, hK _ _ _ _ _ _ H⟩
  case istore i => exact ⟨H.1, on1.mono (fun _ _ => hK _ _ _ _ _ _) H.2⟩
  case istore_n i => exact ⟨H.1, on1.mono (fun _ _ => hK _ _ _ _ _ _) H.2⟩
  case lstore i => obtain ⟨h1, x, r, h2, H⟩ := H; exact ⟨h1, x, r, h2, hK _ _ _ _ _ _ H⟩
  case astore i => exact ⟨H.1, onR.mono (fun _ _ => hK _ _ _ _ _ _) H.2⟩
  case astore_n i => exact ⟨H.1, onR.mono (fun _ _ => hK _ _ _ _ _ _) H.2⟩
  case iinc i z => obtain ⟨h1, x, h2, H⟩ := H; exact ⟨h1, x, h2, hK _ _ _ _ _ _ H⟩
  case idiv => exact on2.mono (fun _ _ _ q => ⟨q.1, hK _ _ _ _ _ _ q.2⟩) H
  case irem => exact on2.mono (fun _ _ _ q => ⟨q.1, hK _ _ _ _ _ _ q.2⟩) H
  case dup => obtain ⟨v, r, h1, h2, H⟩ := H; exact ⟨v, r, h1, h2, hK _ _ _ _ _ _ H⟩
  case dup2 => obtain ⟨v, w, r, h1, h2, h3, H⟩ := H; exact ⟨v, w, r, h1, h2, h3, hK _ _ _ _ _ _ H⟩
  case pop => obtain ⟨v, r, h1, h2, H⟩ := H; exact ⟨v, r, h1, h2, hK _ _ _ _ _ _ H⟩
  case goto z => exact jmp.mono (fun _ => hK _ _ _ _ _ _) H
  case ifCond cc z => exact on1.mono (fun _ _ q => jmp.mono (fun _ => brn.mono (hK _ _ _ _ _ _) (hK _ _ _ _ _ _)) q) H
  case if_icmp cc z => exact on2.mono (fun _ _ _ q => jmp.mono (fun _ => brn.mono (hK _ _ _ _ _ _) (hK _ _ _ _ _ _)) q) H
  case tableswitch d lo hi offs => exact on1.mono (fun _ _ q => ⟨fun a => jmp.mono (fun _ => hK _ _ _ _ _ _) (q.1 a), fun a b => by obtain ⟨off, h1, h2⟩ := q.2 a b; exact ⟨off, h1, jmp.mono (fun _ => hK _ _ _ _ _ _) h2⟩⟩) H
  case iaload => exact p_iald.mono (f := fun st => K (pc + 1) lv st h c s) (g := fun st => K' (pc + 1) lv st h c s) (fun _ => hK _ _ _ _ _ _) H
  case iastore => exact p_iast.mono (f := fun st h => K (pc + 1) lv st h c s) (g := fun st h => K' (pc + 1) lv st h c s) (fun _ _ => hK _ _ _ _ _ _) H
  case laload => exact p_lald.mono (f := fun st => K (pc + 1) lv st h c s) (g := fun st => K' (pc + 1) lv st h c s) (fun _ => hK _ _ _ _ _ _) H
  case lastore => exact p_last.mono (f := fun st h => K (pc + 1) lv st h c s) (g := fun st h => K' (pc + 1) lv st h c s) (fun _ _ => hK _ _ _ _ _ _) H
  case aaload => exact p_aald.mono (f := fun st => K (pc + 1) lv st h c s) (g := fun st => K' (pc + 1) lv st h c s) (fun _ => hK _ _ _ _ _ _) H
  case aastore => exact p_aast.mono (f := fun st h => K (pc + 1) lv st h c s) (g := fun st h => K' (pc + 1) lv st h c s) (fun _ _ => hK _ _ _ _ _ _) H
  case arraylength => exact p_alen.mono (f := fun st => K (pc + 1) lv st h c s) (g := fun st => K' (pc + 1) lv st h c s) (fun _ => hK _ _ _ _ _ _) H
  case getfield i => exact p_get.mono (f := fun st => K (pc + 3) lv st h c s) (g := fun st => K' (pc + 3) lv st h c s) (fun _ => hK _ _ _ _ _ _) H
  case putfield i => exact p_put.mono (f := fun st h => K (pc + 3) lv st h c s) (g := fun st h => K' (pc + 3) lv st h c s) (fun _ _ => hK _ _ _ _ _ _) H
  case newarray t => exact on1.mono (fun _ _ q => ⟨q.1, q.2.1, q.2.2.1, q.2.2.2.1, q.2.2.2.2.imp (fun w => ⟨w.1, hK _ _ _ _ _ _ w.2⟩) (fun w => ⟨w.1, hK _ _ _ _ _ _ w.2⟩)⟩) H
  case anewarray i => exact on1.mono (fun _ _ q => ⟨q.1, q.2.1, q.2.2.1, q.2.2.2.1, hK _ _ _ _ _ _ q.2.2.2.2⟩) H
  case multianewarray i d => exact p_new2.mono (f := fun st h dc ds => c + dc ≤ pC M ∧ s + ds ≤ pS M ∧ K (pc + 4) lv st h (c + dc) (s + ds)) (g := fun st h dc ds => c + dc ≤ pC M ∧ s + ds ≤ pS M ∧ K' (pc + 4) lv st h (c + dc) (s + ds)) (fun _ _ _ _ q => ⟨q.1, q.2.1, hK _ _ _ _ _ _ q.2.2⟩) H
  case new i =>
    rcases H with ⟨h1, h2, h3, H⟩ | ⟨h1, h2, h3, h4, h5, x, h6, H⟩
    · exact Or.inl ⟨h1, h2, h3, hK _ _ _ _ _ _ H⟩
    · exact Or.inr ⟨h1, h2, h3, h4, h5, x, h6, hQ _ _ H⟩
  case invokevirtual i => exact p_call.mono hC hQ hK H
  case invokestatic i =>
    rcases H with ⟨h1, H⟩ | ⟨h1, H⟩
    · exact Or.inl ⟨h1, p_copy.mono (fun _ _ q => ⟨q.1, hK _ _ _ _ _ _ q.2⟩) H⟩
    · exact Or.inr ⟨h1, p_call.mono hC hQ hK H⟩
  case invokespecial i =>
    rcases H with ⟨h1, H⟩ | ⟨h1, H⟩
    · exact Or.inl ⟨h1, onR.mono (fun _ _ q => ⟨q.1, hK _ _ _ _ _ _ q.2⟩) H⟩
    · exact Or.inr ⟨h1, p_call.mono hC hQ hK H⟩
  case ireturn => obtain ⟨x, h1, h2, H⟩ := H; exact ⟨x, h1, h2, hQ _ _ H⟩
  case lreturn => obtain ⟨x, h1, h2, H⟩ := H; exact ⟨x, h1, h2, hQ _ _ H⟩
  case areturn => obtain ⟨x, h1, h2, H⟩ := H; exact ⟨x, h1, h2, hQ _ _ H⟩
  case return_ => obtain ⟨h1, h2, H⟩ := H; exact ⟨h1, h2, hQ _ _ H⟩
  all_goals first | exact hK _ _ _ _ _ _ H | exact on1.mono (fun _ _ => hK _ _ _ _ _ _) H | exact on2.mono (fun _ _ _ => hK _ _ _ _ _ _) H | exact onL2.mono (fun _ _ _ => hK _ _ _ _ _ _) H | exact onLI.mono (fun _ _ _ => hK _ _ _ _ _ _) H | exact (show False from H).elim
theorem Vx.mono {C : Nat → List Value → PH → (Rs → PH → Prop) → Prop} (hC : Cmono C) {S : Nat × (Nat → Int32)} {M : PM} {hd : List (Nat × Nat × Nat × Int)} {Q Q' : Rs → PH → Prop} (hQ : ∀ r h, Q r h → Q' r h) {pc : Nat} {lv : LV} {st : List Value} {h : PH} {c s : Nat} (H : Vx C S M hd Q pc lv st h c s) : Vx C S M hd Q' pc lv st h c s := by
  intro X hX
  refine H X (fun pc lv st h c s ⟨te, h1, h2⟩ => hX _ _ _ _ _ _ ⟨te, h1, pmI.mono hC hQ (fun _ _ _ _ _ _ q => q) h2⟩)
theorem Ex.mono (S : Nat × (Nat → Int32)) : ∀ n, Cmono (Ex S n)
  | 0 => fun _ _ _ _ _ _ H => H.elim
  | n + 1 => fun _ _ _ _ _ hQ ⟨M, h1, h2, H⟩ => ⟨M, h1, h2, Vx.mono (Ex.mono S n) hQ H⟩
theorem Vx.go {C : Nat → List Value → PH → (Rs → PH → Prop) → Prop} (hC : Cmono C) {S : Nat × (Nat → Int32)} {M : PM} {hd : List (Nat × Nat × Nat × Int)} {Q : Rs → PH → Prop} {pc : Nat} {lv : LV} {st : List Value} {h : PH} {c s : Nat} {te : TE} (h1 : (pT M).find? (fun e => e.1 == pc) = some te) (H : pmI C S M hd Q (Vx C S M hd Q) te lv st h c s) : Vx C S M hd Q pc lv st h c s := by
  intro X hX
  exact hX _ _ _ _ _ _ ⟨te, h1, pmI.mono hC (fun _ _ q => q) (fun _ _ _ _ _ _ q => q X hX) H⟩
end
section
/-! the pure machine run with unknown arguments, laid so that the kernel runs it quickly: a number is known, in a range, or a times an argument and b; the heap in rows of 16; what comes next is a function -/
abbrev AN : Type := Nat × Int × Int
abbrev AV : Type := Int ⊕ (AN ⊕ Value)
abbrev LW : Type := List AV
abbrev AE : Type := (Nat × LW) ⊕ (Nat × LW)
abbrev HT : Type := List (List AE)
abbrev EV : Type := List (Int × Int)
abbrev AQ : Type := Option AV ⊕ Nat
abbrev HD4 : Type := List (Nat × Nat × Nat × Int)
abbrev CX9 : Type := Nat × PM × HD4
abbrev GO : Type := Nat → LW → LW → Nat → HT → Nat → Nat → Bool
abbrev RT : Type := EV → AQ → Nat → HT → Bool
abbrev OPF : Type := CX9 → EV → LW → LW → Nat → HT → Nat → Nat → GO → (List EV → Bool) → (Nat → Bool → Bool) → (AQ → Bool) → Bool
abbrev aG (lo hi : Int) : AV := .inr (.inl (0, lo, hi))
abbrev aY (t : Nat) (a b : Int) : AV := .inr (.inl (t + 1, a, b))
abbrev aR (a : Nat) : AV := .inr (.inr (.ref a))
abbrev aU : AV := .inr (.inr .null)
abbrev iLo : Int := -2147483648
abbrev iHi : Int := 2147483647
abbrev aTop : AV := aG iLo iHi
noncomputable def lget {α : Type} (l : List α) : Nat → Option α := List.rec (fun _ => none) (fun a _ ih n => Nat.rec (some a) (fun m _ => ih m) n) l
noncomputable def lset {α : Type} (l : List α) : Nat → α → (List α → Bool) → Bool := List.rec (fun _ _ _ => false) (fun a t ih n v k => Nat.rec (k (v :: t)) (fun m _ => ih m v (fun t' => k (a :: t'))) n) l
noncomputable def hget (h : HT) (a : Nat) : Option AE := match lget h (Nat.div a 16) with
  | some r => lget r (Nat.mod a 16)
  | none => none
noncomputable def hset (h : HT) (a : Nat) (v : AE) (k : HT → Bool) : Bool := match lget h (Nat.div a 16) with
  | some r => lset r (Nat.mod a 16) v fun r => lset h (Nat.div a 16) r k
  | none => false
noncomputable def repF {α : Type} (v : α) (n : Nat) : (List α → Bool) → Bool := Nat.rec (fun k => k []) (fun _ ih k => ih fun l => k (v :: l)) n
def natF (n : Nat) (k : Nat → Bool) : Bool := match n with
  | 0 => k 0
  | m + 1 => k (m + 1)
def bLt (x y : Int) : Bool := match x, y with
  | .ofNat a, .ofNat b => Nat.blt a b
  | .ofNat _, .negSucc _ => false
  | .negSucc _, .ofNat _ => true
  | .negSucc a, .negSucc b => Nat.blt b a
def bEq (x y : Int) : Bool := match x, y with
  | .ofNat a, .ofNat b => Nat.beq a b
  | .negSucc a, .negSucc b => Nat.beq a b
  | _, _ => false
def bLe (x y : Int) : Bool := !(bLt y x)
def inI (lo hi : Int) : Bool := bLe iLo lo && bLe hi iHi
def iF (x : Int) (k : Int → Bool) : Bool := match x with
  | .ofNat n => k (.ofNat n)
  | .negSucc n => k (.negSucc n)
def isNum (v : AV) : Bool := match v with
  | .inl _ => true
  | .inr (.inl _) => true
  | .inr (.inr _) => false
noncomputable def rK (env : EV) (v : AV) (k : Int → Int → Bool) : Bool := match v with
  | .inl x => k x x
  | .inr (.inl (0, lo, hi)) => k lo hi
  | .inr (.inl (t + 1, a, b)) => (match lget env t with
    | some r => (match bLt a 0 with
      | false => k (a * r.1 + b) (a * r.2 + b)
      | true => k (a * r.2 + b) (a * r.1 + b))
    | none => false)
  | .inr (.inr _) => false
noncomputable def lin (env : EV) (v : AV) (k : AN → Bool) (no : Bool) : Bool := match v with
  | .inl x => k (0, 0, x)
  | .inr (.inl (0, lo, hi)) => (match bEq lo hi with
    | true => k (0, 0, lo)
    | false => no)
  | .inr (.inl (t + 1, a, b)) => (match lget env t with
    | some r => (match bEq r.1 r.2 with
      | true => iF (a * r.1 + b) fun z => k (0, 0, z)
      | false => k (t + 1, a, b))
    | none => no)
  | .inr (.inr _) => no
noncomputable def cutLe (env : EV) (t : Nat) (z : Int) (cut : List EV → Bool) : Bool := match lget env t with
  | some r => (match bLe r.1 z && bLt z r.2 with
    | true => lset env t (r.1, z) fun e => lset env t (z + 1, r.2) fun f => cut [e, f]
    | false => false)
  | none => false
noncomputable def cutAll1 (env : EV) (t : Nat) (lo : Int) (cut : List EV → Bool) : Nat → List EV → Bool := fun n => Nat.rec (fun acc => cut acc) (fun m ih acc => iF (lo + Int.ofNat m) fun z => lset env t (z, z) fun e => ih (e :: acc)) n
noncomputable def cutAll (env : EV) (t : Nat) (cut : List EV → Bool) : Bool := match lget env t with
  | some r => (match r.2 - r.1 with
    | .ofNat w => (match Nat.blt 0 w && Nat.blt w 64 with
      | true => cutAll1 env t r.1 cut (w + 1) []
      | false => false)
    | .negSucc _ => false)
  | none => false
noncomputable def widK (env : EV) (t : Nat) (k : Int → Bool) : Bool := match lget env t with
  | some r => k (r.2 - r.1)
  | none => false
noncomputable def cutSm (env : EV) (t u : Nat) (cut : List EV → Bool) : Bool := widK env t fun a => widK env u fun b => match bEq a 0 || (!(bEq b 0) && bLt b a) with
  | true => cutAll env u cut
  | false => cutAll env t cut
def cmpR (c : ClassFile.Cond) (a b x y : Int) : Option Bool := match c with
  | .eq => (match bLt b x || bLt y a with
    | true => some false
    | false => (match bEq a b && (bEq x y && bEq a x) with
      | true => some true
      | false => none))
  | .ne => (match bLt b x || bLt y a with
    | true => some true
    | false => (match bEq a b && (bEq x y && bEq a x) with
      | true => some false
      | false => none))
  | .lt => (match bLt b x with
    | true => some true
    | false => (match bLt a y with
      | true => none
      | false => some false))
  | .ge => (match bLt b x with
    | true => some false
    | false => (match bLt a y with
      | true => none
      | false => some true))
  | .gt => (match bLt y a with
    | true => some true
    | false => (match bLt x b with
      | true => none
      | false => some false))
  | .le => (match bLt y a with
    | true => some false
    | false => (match bLt x b with
      | true => none
      | false => some true))
def cmpK (c : ClassFile.Cond) (a x : Int) : Bool := match c with
  | .eq => bEq a x
  | .ne => !(bEq a x)
  | .lt => bLt a x
  | .ge => !(bLt a x)
  | .gt => bLt x a
  | .le => !(bLt x a)
def thr (c : ClassFile.Cond) (a b : Int) : Int := match bLt a 0 with
  | false => (match c with
    | .lt | .ge => (-b - 1) / a
    | _ => (-b) / a)
  | true => (match c with
    | .lt | .ge => b / (-a)
    | _ => (b - 1) / (-a))
noncomputable def cutC (env : EV) (c : ClassFile.Cond) (t : Nat) (a b : Int) (cut : List EV → Bool) : Bool := match c with
  | .eq | .ne => (match lget env t with
    | some r => iF ((-b) / a) fun z => (match bLe r.1 z && bLt z r.2 with
      | true => cutLe env t z cut
      | false => cutLe env t (z - 1) cut)
    | none => false)
  | c => iF (thr c a b) fun z => cutLe env t z cut
noncomputable def wBrL (env : EV) (c : ClassFile.Cond) (t : Nat) (a b : Int) (cut : List EV → Bool) (y n : Bool) : Bool := match t with
  | 0 => (match cmpK c b 0 with
    | true => y
    | false => n)
  | t + 1 => (match bEq a 0 with
    | true => (match cmpK c b 0 with
      | true => y
      | false => n)
    | false => rK env (aY t a b) fun lo hi => (match cmpR c lo hi 0 0 with
      | some true => y
      | some false => n
      | none => cutC env c t a b cut))
noncomputable def wBr2 (env : EV) (c : ClassFile.Cond) (x y : AV) (cut : List EV → Bool) (t f : Bool) : Bool :=
  rK env x fun a b => rK env y fun a' b' => match cmpR c a b a' b' with
    | some true => t
    | some false => f
    | none => lin env x (fun p => lin env y (fun q => match Nat.beq p.1 0, Nat.beq q.1 0 with
        | true, _ => wBrL env c q.1 (p.2.1 - q.2.1) (p.2.2 - q.2.2) cut t f
        | _, true => wBrL env c p.1 (p.2.1 - q.2.1) (p.2.2 - q.2.2) cut t f
        | _, _ => (match Nat.beq p.1 q.1 with
          | true => wBrL env c p.1 (p.2.1 - q.2.1) (p.2.2 - q.2.2) cut t f
          | false => cutSm env (p.1 - 1) (q.1 - 1) cut)) (cutAll env (p.1 - 1) cut)) (lin env y (fun q => cutAll env (q.1 - 1) cut) false)
noncomputable def wBr (env : EV) (c : ClassFile.Cond) (x y : AV) (cut : List EV → Bool) (t f : Bool) : Bool := match x, y with
  | .inl a, .inl b => (match cmpK c a b with
    | true => t
    | false => f)
  | x, y => wBr2 env c x y cut t f
def kInt (z : Int) (k : AV → Bool) : Bool := match inI z z with
  | true => iF z fun z => k (.inl z)
  | false => iF (Int.bmod z 4294967296) fun z => k (.inl z)
noncomputable def mkL (env : EV) (t : Nat) (a b : Int) (k : AV → Bool) (els : Bool) : Bool := match t with
  | 0 => kInt b k
  | t + 1 => (match bEq a 0 with
    | true => kInt b k
    | false => rK env (aY t a b) fun lo hi => (match inI lo hi with
      | true => k (aY t a b)
      | false => els))
noncomputable def wAdd (env : EV) (x y : AV) (cut : List EV → Bool) (k : AV → Bool) : Bool := match x, y with
  | .inl a, .inl b => kInt (a + b) k
  | x, y => (match isNum x && isNum y with
    | false => false
    | true => lin env x (fun p => lin env y (fun q => match Nat.beq p.1 0, Nat.beq q.1 0 with
      | true, _ => mkL env q.1 (p.2.1 + q.2.1) (p.2.2 + q.2.2) k (k aTop)
      | _, true => mkL env p.1 (p.2.1 + q.2.1) (p.2.2 + q.2.2) k (k aTop)
      | _, _ => (match Nat.beq p.1 q.1 with
        | true => mkL env p.1 (p.2.1 + q.2.1) (p.2.2 + q.2.2) k (k aTop)
        | false => cutSm env (p.1 - 1) (q.1 - 1) cut)) (k aTop)) (k aTop))
noncomputable def wSub (env : EV) (x y : AV) (cut : List EV → Bool) (k : AV → Bool) : Bool := match x, y with
  | .inl a, .inl b => kInt (a - b) k
  | x, y => (match isNum x && isNum y with
    | false => false
    | true => lin env x (fun p => lin env y (fun q => match Nat.beq p.1 0, Nat.beq q.1 0 with
      | true, _ => mkL env q.1 (p.2.1 - q.2.1) (p.2.2 - q.2.2) k (k aTop)
      | _, true => mkL env p.1 (p.2.1 - q.2.1) (p.2.2 - q.2.2) k (k aTop)
      | _, _ => (match Nat.beq p.1 q.1 with
        | true => mkL env p.1 (p.2.1 - q.2.1) (p.2.2 - q.2.2) k (k aTop)
        | false => cutSm env (p.1 - 1) (q.1 - 1) cut)) (k aTop)) (k aTop))
noncomputable def wMul (env : EV) (x y : AV) (cut : List EV → Bool) (k : AV → Bool) : Bool := match x, y with
  | .inl a, .inl b => kInt (a * b) k
  | x, y => (match isNum x && isNum y with
    | false => false
    | true => lin env x (fun p => lin env y (fun q => match Nat.beq p.1 0, Nat.beq q.1 0 with
      | true, _ => mkL env q.1 (p.2.2 * q.2.1) (p.2.2 * q.2.2) k (k aTop)
      | _, true => mkL env p.1 (p.2.1 * q.2.2) (p.2.2 * q.2.2) k (k aTop)
      | _, _ => cutSm env (p.1 - 1) (q.1 - 1) cut) (k aTop)) (k aTop))
def bin (f : Int32 → Int32 → Int32) (x y : Int) : Int := (f (Int32.ofInt x) (Int32.ofInt y)).toInt
noncomputable def wAny (env : EV) (x y : AV) (f : Int32 → Int32 → Int32) (k : AV → Bool) : Bool :=
  rK env x fun a b => rK env y fun a' b' => match bEq a b && bEq a' b' with
    | true => iF (bin f a a') fun z => k (.inl z)
    | false => k aTop
noncomputable def wNz (env : EV) (y : AV) (k : Bool) : Bool := rK env y fun a b => match bLt 0 a || bLt b 0 with
  | true => k
  | false => false
noncomputable def wIdx (env : EV) (v : AV) (cut : List EV → Bool) (k : Nat → Bool) : Bool := match v with
  | .inl (.ofNat j) => k j
  | v => lin env v (fun p => match p.1, p.2.2 with
    | 0, .ofNat j => k j
    | 0, .negSucc _ => false
    | t + 1, _ => cutAll env t cut) false
def w1 (v : AV) : Bool := match v with
  | .inr (.inr v) => Nat.beq v.category 1
  | _ => true
def wCat (v : AV) : Nat := match v with
  | .inr (.inr v) => v.category
  | _ => 1
noncomputable def cats (l : LW) : Nat := List.rec 0 (fun a _ ih => wCat a + ih) l
noncomputable def linChk (n : Nat) : LW → Int → Int → Bool := Nat.rec (fun _ _ _ => true) (fun _ ih l x c => match l with
  | .inl y :: r => (match bEq y x with
    | true => iF (x + c) fun z => ih r z c
    | false => false)
  | _ => false) n
noncomputable def ldrop {α : Type} (l : List α) : Nat → List α := List.rec (fun _ => []) (fun a t ih n => Nat.rec (a :: t) (fun m _ => ih m) n) l
noncomputable def sRead (env : EV) (i : AV) (l : LW) (cut : List EV → Bool) (k : AV → Bool) : Bool := rK env i fun lo hi => match lo, hi - lo with
  | .ofNat j, .ofNat w => (match ldrop l j with
    | .inl x :: .inl y :: r => (match linChk (w + 1) (.inl x :: .inl y :: r) x (y - x) with
      | true => (match bEq x y with
        | true => k (.inl x)
        | false => (match i with
          | .inr (.inl (t + 1, a, b)) => k (aY t ((y - x) * a) ((y - x) * b + x - (y - x) * lo))
          | _ => false))
      | false => wIdx env i cut fun j => (match lget l j with
        | some v => k v
        | none => false))
    | _ => wIdx env i cut fun j => (match lget l j with
        | some v => k v
        | none => false))
  | _, _ => false
noncomputable def wRead (env : EV) (i : AV) (l : LW) (cut : List EV → Bool) (k : AV → Bool) : Bool := match i with
  | .inl (.ofNat j) => (match lget l j with
    | some v => k v
    | none => false)
  | i => lin env i (fun p => match p.1, p.2.2 with
    | 0, .ofNat j => (match lget l j with
      | some v => k v
      | none => false)
    | 0, .negSucc _ => false
    | _ + 1, _ => sRead env i l cut k) (sRead env i l cut k)
def dT (z : UInt64) : Nat := z.toNat % 8
def dA (z : UInt64) : Int := (z.toNat / 8 % 2097152 : Nat) - 1048576
def dB (z : UInt64) : Int := (z.toNat / 16777216 : Nat) - 2147483648
def dMk (t : Nat) (a b : Int) : UInt64 := UInt64.ofNat (t + 8 * (a + 1048576).toNat + 16777216 * (b + 2147483648).toNat)
def o_no : OPF := fun _ _ _ _ _ _ _ _ _ _ _ _ => false
def o_push (v : AV) (n : Nat) : OPF := fun _ _ lv st m h c s go _ _ _ => go n lv (v :: st) m h c s
noncomputable def o_iload (i n : Nat) : OPF := fun _ _ lv st m h c s go _ _ _ => match lget lv i with
  | some v => (match isNum v with
    | true => go n lv (v :: st) m h c s
    | false => false)
  | none => false
noncomputable def o_aload (i n : Nat) : OPF := fun _ _ lv st m h c s go _ _ _ => match lget lv i with
  | some (.inr (.inr (.ref a))) => go n lv (.inr (.inr (.ref a)) :: st) m h c s
  | some (.inr (.inr (.retAddr a))) => go n lv (.inr (.inr (.retAddr a)) :: st) m h c s
  | _ => false
noncomputable def o_istore (i n : Nat) : OPF := fun X _ lv st m h c s go _ _ _ => match st with
  | v :: r => (match isNum v && Nat.blt i (pL X.2.1) with
    | true => lset lv i v fun lv => go n lv r m h c s
    | false => false)
  | _ => false
noncomputable def o_astore (i n : Nat) : OPF := fun X _ lv st m h c s go _ _ _ => match st with
  | .inr (.inr (.ref a)) :: r => (match Nat.blt i (pL X.2.1) with
    | true => lset lv i (.inr (.inr (.ref a))) fun lv => go n lv r m h c s
    | false => false)
  | _ => false
noncomputable def o_iinc (i : Nat) (z : Int) (n : Nat) : OPF := fun X env lv st m h c s go cut _ _ => match lget lv i with
  | some x => (match isNum x && Nat.blt i (pL X.2.1) with
    | true => wAdd env x (.inl z) cut fun v => lset lv i v fun lv => go n lv st m h c s
    | false => false)
  | none => false
noncomputable def o_iadd (n : Nat) : OPF := fun _ env lv st m h c s go cut _ _ => match st with
  | y :: x :: r => wAdd env x y cut fun v => go n lv (v :: r) m h c s
  | _ => false
noncomputable def o_isub (n : Nat) : OPF := fun _ env lv st m h c s go cut _ _ => match st with
  | y :: x :: r => wSub env x y cut fun v => go n lv (v :: r) m h c s
  | _ => false
noncomputable def o_imul (n : Nat) : OPF := fun _ env lv st m h c s go cut _ _ => match st with
  | y :: x :: r => wMul env x y cut fun v => go n lv (v :: r) m h c s
  | _ => false
noncomputable def o_any (f : Int32 → Int32 → Int32) (n : Nat) : OPF := fun _ env lv st m h c s go _ _ _ => match st with
  | y :: x :: r => wAny env x y f fun v => go n lv (v :: r) m h c s
  | _ => false
noncomputable def o_idiv (n : Nat) : OPF := fun _ env lv st m h c s go _ _ _ => match st with
  | y :: x :: r => wNz env y (wAny env x y (· / ·) fun v => go n lv (v :: r) m h c s)
  | _ => false
noncomputable def o_irem (n : Nat) : OPF := fun _ env lv st m h c s go _ _ _ => match st with
  | y :: x :: r => (match y with
    | .inl 1 => (match isNum x with
      | true => go n lv (.inl 0 :: r) m h c s
      | false => false)
    | y => wNz env y (wAny env x y (fun x y => x - x / y * y) fun v => go n lv (v :: r) m h c s))
  | _ => false
noncomputable def o_ineg (n : Nat) : OPF := fun _ env lv st m h c s go _ _ _ => match st with
  | x :: r => wAny env x (.inl 0) (fun x _ => -x) fun v => go n lv (v :: r) m h c s
  | _ => false
noncomputable def o_i2l (n : Nat) : OPF := fun _ env lv st m h c s go _ _ _ => match st with
  | x :: r => lin env x (fun p => match p.1 with
    | 0 => go n lv (.inr (.inr (.long (Int32.ofInt p.2.2).toInt64)) :: r) m h c s
    | t + 1 => (match Nat.beq (dT (dMk t p.2.1 p.2.2)) t && (bEq (dA (dMk t p.2.1 p.2.2)) p.2.1 && bEq (dB (dMk t p.2.1 p.2.2)) p.2.2) with
      | true => go n lv (.inr (.inr (.double (dMk t p.2.1 p.2.2))) :: r) m h c s
      | false => false)) false
  | _ => false
def o_lcmp (n : Nat) : OPF := fun _ _ lv st m h c s go _ _ _ => match st with
  | .inr (.inr (.long y)) :: .inr (.inr (.long x)) :: r => go n lv (.inl (lg_cmp x y).toInt :: r) m h c s
  | .inr (.inr (.double y)) :: .inr (.inr (.double x)) :: r => (match Nat.beq x.toNat y.toNat with
    | true => go n lv (.inl 0 :: r) m h c s
    | false => false)
  | _ => false
def o_dup (n : Nat) : OPF := fun _ _ lv st m h c s go _ _ _ => match st with
  | v :: r => (match w1 v with
    | true => go n lv (v :: v :: r) m h c s
    | false => false)
  | _ => false
def o_dup2 (n : Nat) : OPF := fun _ _ lv st m h c s go _ _ _ => match st with
  | v :: w :: r => (match w1 v && w1 w with
    | true => go n lv (v :: w :: v :: w :: r) m h c s
    | false => false)
  | _ => false
def o_pop (n : Nat) : OPF := fun _ _ lv st m h c s go _ _ _ => match st with
  | v :: r => (match w1 v with
    | true => go n lv r m h c s
    | false => false)
  | _ => false
def o_goto (t : Nat) : OPF := fun _ _ lv st m h c s go _ _ _ => go t lv st m h c s
noncomputable def o_if (cc : ClassFile.Cond) (t n : Nat) : OPF := fun _ env lv st m h c s go cut _ _ => match st with
  | x :: r => wBr env cc x (.inl 0) cut (go t lv r m h c s) (go n lv r m h c s)
  | _ => false
noncomputable def o_icmp (cc : ClassFile.Cond) (t n : Nat) : OPF := fun _ env lv st m h c s go cut _ _ => match st with
  | y :: x :: r => wBr env cc x y cut (go t lv r m h c s) (go n lv r m h c s)
  | _ => false
noncomputable def gAll (f : Nat → Bool) (l : List Nat) : Bool := List.rec true (fun e _ ih => match f e with
  | true => ih
  | false => false) l
noncomputable def o_sw (d : Nat) (lo hi : Int) (ts : List Nat) : OPF := fun _ env lv st m h c s go cut _ _ => match st with
  | x :: r => rK env x fun a b => (match bLt b lo || bLt hi a with
    | true => go d lv r m h c s
    | false => lin env x (fun p => (match p.1 with
      | 0 => (match bLt p.2.2 lo || bLt hi p.2.2 with
        | true => go d lv r m h c s
        | false => (match lget ts (p.2.2 - lo).toNat with
          | some t => go t lv r m h c s
          | none => false))
      | t + 1 => (match bLt a lo with
        | true => cutLe env t (lo - 1) cut
        | false => (match bLt hi b with
          | true => cutLe env t hi cut
          | false => cutAll env t cut)))) (match go d lv r m h c s with
            | true => gAll (fun t => go t lv r m h c s) ts
            | false => false))
  | _ => false
noncomputable def o_iald (n : Nat) : OPF := fun X env lv st m h c s go cut _ _ => match st with
  | i :: .inr (.inr (.ref a)) :: r => (match hget h a with
    | some (.inl (0, l)) => wRead env i l cut fun v => (match isNum v with
      | true => go n lv (v :: r) m h c s
      | false => false)
    | _ => false)
  | i :: .inr (.inr (.retAddr _)) :: r => wIdx env i cut fun j => (match Nat.blt j X.1 with
    | true => go n lv (aY j 1 0 :: r) m h c s
    | false => false)
  | _ => false
noncomputable def o_lald (n : Nat) : OPF := fun _ env lv st m h c s go cut _ _ => match st with
  | i :: .inr (.inr (.ref a)) :: r => (match hget h a with
    | some (.inl (1, l)) => wIdx env i cut fun j => (match lget l j with
      | some v => go n lv (v :: r) m h c s
      | none => false)
    | _ => false)
  | _ => false
noncomputable def o_aald (n : Nat) : OPF := fun _ env lv st m h c s go cut _ _ => match st with
  | i :: .inr (.inr (.ref a)) :: r => (match hget h a with
    | some (.inl (2, l)) => wIdx env i cut fun j => (match lget l j with
      | some (.inr (.inr (.ref x))) => go n lv (.inr (.inr (.ref x)) :: r) m h c s
      | _ => false)
    | some (.inl (3, l)) => wIdx env i cut fun j => (match lget l j with
      | some (.inr (.inr (.ref x))) => go n lv (.inr (.inr (.ref x)) :: r) m h c s
      | _ => false)
    | _ => false)
  | _ => false
noncomputable def o_iast (n : Nat) : OPF := fun _ env lv st m h c s go cut _ _ => match st with
  | x :: i :: .inr (.inr (.ref a)) :: r => (match isNum x with
    | true => (match hget h a with
      | some (.inl (0, l)) => wIdx env i cut fun j => lset l j x fun l => hset h a (.inl (0, l)) fun h => go n lv r m h c s
      | _ => false)
    | false => false)
  | _ => false
noncomputable def o_last (n : Nat) : OPF := fun _ env lv st m h c s go cut _ _ => match st with
  | .inr (.inr (.long x)) :: i :: .inr (.inr (.ref a)) :: r => (match hget h a with
    | some (.inl (1, l)) => wIdx env i cut fun j => lset l j (.inr (.inr (.long x))) fun l => hset h a (.inl (1, l)) fun h => go n lv r m h c s
    | _ => false)
  | .inr (.inr (.double x)) :: i :: .inr (.inr (.ref a)) :: r => (match hget h a with
    | some (.inl (1, l)) => wIdx env i cut fun j => lset l j (.inr (.inr (.double x))) fun l => hset h a (.inl (1, l)) fun h => go n lv r m h c s
    | _ => false)
  | _ => false
noncomputable def o_aast (n : Nat) : OPF := fun _ env lv st m h c s go cut _ _ => match st with
  | .inr (.inr (.ref v)) :: i :: .inr (.inr (.ref a)) :: r => (match hget h a with
    | some (.inl (2, l)) => (match hget h v with
      | some (.inr (1, _)) => wIdx env i cut fun j => lset l j (.inr (.inr (.ref v))) fun l => hset h a (.inl (2, l)) fun h => go n lv r m h c s
      | _ => false)
    | _ => false)
  | _ => false
noncomputable def o_alen (n : Nat) : OPF := fun X _ lv st m h c s go _ _ _ => match st with
  | .inr (.inr (.ref a)) :: r => (match hget h a with
    | some (.inl (t, l)) => (match Nat.blt t 4 && Nat.blt l.length 2147483648 with
      | true => natF l.length fun z => go n lv (.inl (.ofNat z) :: r) m h c s
      | false => false)
    | _ => false)
  | .inr (.inr (.retAddr _)) :: r => (match Nat.blt X.1 2147483648 with
    | true => go n lv (.inl (.ofNat X.1) :: r) m h c s
    | false => false)
  | _ => false
noncomputable def o_get (ci f n : Nat) : OPF := fun _ _ lv st m h c s go _ _ _ => match st with
  | .inr (.inr (.ref a)) :: r => (match hget h a with
    | some (.inr (cj, fs)) => (match Nat.beq cj ci with
      | true => (match lget fs f with
        | some v => go n lv (v :: r) m h c s
        | none => false)
      | false => false)
    | _ => false)
  | _ => false
def isBit (v : AV) : Bool := match v with
  | .inl x => bEq x 0 || bEq x 1
  | _ => false
def isRf (v : AV) : Bool := match v with
  | .inr (.inr (.ref _)) => true
  | _ => false
def okTy (ty : Nat) (v : AV) : Bool := match ty with
  | 0 => isNum v
  | 1 => isBit v
  | _ => isRf v
noncomputable def o_put (ci f ty n : Nat) : OPF := fun _ _ lv st m h c s go _ _ _ => match st with
  | v :: .inr (.inr (.ref a)) :: r => (match hget h a with
    | some (.inr (cj, fs)) => (match Nat.beq cj ci && okTy ty v with
      | true => lset fs f v fun fs => hset h a (.inr (cj, fs)) fun h => go n lv r m h c s
      | false => false)
    | _ => false)
  | _ => false
noncomputable def wNew (X : CX9) (n : Nat) (lv r : LW) (m : Nat) (h : HT) (c s z : Nat) (v : AE) (go : GO) : Bool := match Nat.ble (c + 1) (pC X.2.1) && Nat.ble (s + z) (pS X.2.1) with
  | true => natF (m + 1) fun m1 => natF (c + 1) fun c1 => natF (s + z) fun s1 => hset h m v fun h => go n lv (.inr (.inr (.ref m)) :: r) m1 h c1 s1
  | false => false
noncomputable def o_newi (n : Nat) : OPF := fun X _ lv st m h c s go _ _ _ => match st with
  | .inl (.ofNat z) :: r => (match Nat.ble z 10000 with
    | true => repF (.inl 0) z fun l => wNew X n lv r m h c s z (.inl (0, l)) go
    | false => false)
  | _ => false
noncomputable def o_newl (n : Nat) : OPF := fun X _ lv st m h c s go _ _ _ => match st with
  | .inl (.ofNat z) :: r => (match Nat.ble z 10000 with
    | true => repF (.inr (.inr (.long 0))) z fun l => wNew X n lv r m h c s z (.inl (1, l)) go
    | false => false)
  | _ => false
noncomputable def o_newr (n : Nat) : OPF := fun X _ lv st m h c s go _ _ _ => match st with
  | .inl (.ofNat z) :: r => (match Nat.ble z 10000 with
    | true => repF aU z fun l => wNew X n lv r m h c s z (.inl (2, l)) go
    | false => false)
  | _ => false
noncomputable def refsF (z : Nat) : Nat → (LW → Bool) → Bool := Nat.rec (fun _ k => k []) (fun _ ih b k => natF (b + 1) fun b1 => ih b1 fun l => k (.inr (.inr (.ref b)) :: l)) z
noncomputable def rowsF (row : LW) (z : Nat) : Nat → HT → (HT → Bool) → Bool := Nat.rec (fun _ h k => k h) (fun _ ih b h k => hset h b (.inl (0, row)) fun h => natF (b + 1) fun b1 => ih b1 h k) z
noncomputable def o_new2 (n : Nat) : OPF := fun X _ lv st m h c s go _ _ _ => match st with
  | .inl (.ofNat w) :: .inl (.ofNat z) :: r => (match Nat.ble w 1000 && (Nat.ble z 1000 && (Nat.ble (c + (1 + z)) (pC X.2.1) && Nat.ble (s + (z + z * w)) (pS X.2.1))) with
    | true => refsF z (m + 1) fun l => repF (.inl 0) w fun row => hset h m (.inl (3, l)) fun h => rowsF row z (m + 1) h fun h =>
        natF (m + 1 + z) fun m1 => natF (c + (1 + z)) fun c1 => natF (s + (z + z * w)) fun s1 => go n lv (.inr (.inr (.ref m)) :: r) m1 h c1 s1
    | false => false)
  | _ => false
noncomputable def o_new (ci z : Nat) (d : LW) (n : Nat) : OPF := fun X _ lv st m h c s go _ _ _ => wNew X n lv st m h c s z (.inr (ci, d)) go
noncomputable def o_throw (e : Nat) : OPF := fun X _ _ st _ _ c s _ _ _ ret => match X.2.2 with
  | [] => (match Nat.ble (c + 1) (pC X.2.1) && (Nat.ble (s + 6) (pS X.2.1) && Nat.ble (cats st) 8) with
    | true => ret (.inr e)
    | false => false)
  | _ => false
def o_call (μ : Nat) (virt : Bool) : OPF := fun _ _ _ _ _ _ _ _ _ _ call _ => call μ virt
noncomputable def o_copy (n : Nat) : OPF := fun _ _ lv st m h c s go _ _ _ => match st with
  | .inl (.ofNat z) :: .inl (.ofNat dp) :: .inr (.inr (.ref a1)) :: .inl (.ofNat sp) :: .inr (.inr (.ref a0)) :: r => (match hget h a0 with
    | some (.inl (0, l0)) => (match hget h a1 with
      | some (.inl (0, l1)) => (match Nat.ble (sp + z) l0.length && (Nat.ble (dp + z) l1.length && Nat.ble (cats r) 8) with
        | true => hset h a1 (.inl (0, l1.take dp ++ (l0.drop sp).take z ++ l1.drop (dp + z))) fun h => go n lv r m h c s
        | false => false)
      | _ => false)
    | _ => false)
  | _ => false
noncomputable def o_obj (n : Nat) : OPF := fun _ _ lv st m h c s go _ _ _ => match st with
  | .inr (.inr (.ref _)) :: r => (match Nat.ble (cats r) 8 with
    | true => go n lv r m h c s
    | false => false)
  | _ => false
noncomputable def o_iret : OPF := fun X env _ st _ _ _ _ _ _ _ ret => match st with
  | [x] => (match pR X.2.1 with
    | some .int => (match isNum x with
      | true => ret (.inl (some x))
      | false => false)
    | some .boolean => lin env x (fun p => match Nat.beq p.1 0 && (bEq p.2.2 0 || bEq p.2.2 1) with
      | true => ret (.inl (some (.inl p.2.2)))
      | false => false) false
    | _ => false)
  | _ => false
def o_aret : OPF := fun X _ _ st _ _ _ _ _ _ _ ret => match st with
  | [.inr (.inr (.ref a))] => (match pR X.2.1 with
    | some (.object _) => ret (.inl (some (.inr (.inr (.ref a)))))
    | _ => false)
  | _ => false
def o_ret : OPF := fun X _ _ st _ _ _ _ _ _ _ ret => match st with
  | [] => (match pR X.2.1 with
    | none => ret (.inl none)
    | _ => false)
  | _ => false
def jT (pc : Nat) (z : Int) (f : Nat → OPF) : OPF := if 0 ≤ (pc : Int) + z then f ((pc : Int) + z).toNat else o_no
def dW (ci : Nat) : LW := (dflt ci).map fun v => match v with
  | .int x => .inl x.toInt
  | v => .inr (.inr v)
def noD (v : Value) : Bool := match v with
  | .double _ => false
  | _ => true
noncomputable def mkO (te : TE) : OPF := match te.2.1 with
  | .iconst z => o_push (.inl (Int32.ofInt z).toInt) (te.1 + 1)
  | .bipush z => o_push (.inl (Int8.ofInt z).toInt32.toInt) (te.1 + 2)
  | .sipush z => o_push (.inl (Int16.ofInt z).toInt32.toInt) (te.1 + 3)
  | .lconst n => o_push (.inr (.inr (.long (Int64.ofNat n)))) (te.1 + 1)
  | .ldc _ => (match KLs[te.2.2.1]? with
    | some q => if te.2.2.2 = 0 then o_push (.inl q.2.2.toInt) (te.1 + 2) else o_no
    | none => o_no)
  | .ldc_w _ => (match KLs[te.2.2.1]? with
    | some q => if te.2.2.2 = 0 then o_push (.inl q.2.2.toInt) (te.1 + 3) else o_no
    | none => o_no)
  | .iload i => o_iload i (te.1 + 2)
  | .iload_n i => o_iload i (te.1 + 1)
  | .aload i => o_aload i (te.1 + 2)
  | .aload_n i => o_aload i (te.1 + 1)
  | .istore i => o_istore i (te.1 + 2)
  | .istore_n i => o_istore i (te.1 + 1)
  | .astore i => o_astore i (te.1 + 2)
  | .astore_n i => o_astore i (te.1 + 1)
  | .iinc i z => if inI z z = true then o_iinc i z (te.1 + 3) else o_no
  | .iadd => o_iadd (te.1 + 1)
  | .isub => o_isub (te.1 + 1)
  | .imul => o_imul (te.1 + 1)
  | .idiv => o_idiv (te.1 + 1)
  | .irem => o_irem (te.1 + 1)
  | .ineg => o_ineg (te.1 + 1)
  | .ishl => o_any (fun x y => x <<< (y &&& 31)) (te.1 + 1)
  | .ishr => o_any (fun x y => x >>> (y &&& 31)) (te.1 + 1)
  | .iand => o_any (· &&& ·) (te.1 + 1)
  | .ior => o_any (· ||| ·) (te.1 + 1)
  | .ixor => o_any (· ^^^ ·) (te.1 + 1)
  | .i2l => o_i2l (te.1 + 1)
  | .lcmp => o_lcmp (te.1 + 1)
  | .dup => o_dup (te.1 + 1)
  | .dup2 => o_dup2 (te.1 + 1)
  | .pop => o_pop (te.1 + 1)
  | .goto z => jT te.1 z o_goto
  | .ifCond cc z => jT te.1 z fun t => o_if cc t (te.1 + 3)
  | .if_icmp cc z => jT te.1 z fun t => o_icmp cc t (te.1 + 3)
  | .tableswitch d lo hi offs => if offs.toList.all (fun o => decide (0 ≤ (te.1 : Int) + o)) = true ∧ hi - lo + 1 = offs.size then jT te.1 d fun d => o_sw d lo hi (offs.toList.map fun o => ((te.1 : Int) + o).toNat) else o_no
  | .iaload => o_iald (te.1 + 1)
  | .iastore => o_iast (te.1 + 1)
  | .laload => o_lald (te.1 + 1)
  | .lastore => o_last (te.1 + 1)
  | .aaload => o_aald (te.1 + 1)
  | .aastore => o_aast (te.1 + 1)
  | .arraylength => o_alen (te.1 + 1)
  | .getfield _ => if te.2.2.2 < fnum te.2.2.1 then o_get te.2.2.1 te.2.2.2 (te.1 + 3) else o_no
  | .putfield _ => if te.2.2.2 < fnum te.2.2.1 then (match ftyX te.2.2.1 te.2.2.2 with
    | .int => o_put te.2.2.1 te.2.2.2 0 (te.1 + 3)
    | .boolean => o_put te.2.2.1 te.2.2.2 1 (te.1 + 3)
    | .object _ => o_put te.2.2.1 te.2.2.2 2 (te.1 + 3)
    | .array _ => o_put te.2.2.1 te.2.2.2 2 (te.1 + 3)
    | _ => o_no) else o_no
  | .newarray .int => o_newi (te.1 + 2)
  | .newarray .long => o_newl (te.1 + 2)
  | .anewarray _ => o_newr (te.1 + 3)
  | .multianewarray _ _ => o_new2 (te.1 + 4)
  | .new _ => if te.2.2.2 = 0 ∧ (dflt te.2.2.1).all noD = true then o_new te.2.2.1 (fnum te.2.2.1) (dW te.2.2.1) (te.1 + 3) else if te.2.2.2 = 1 then (match XLs[te.2.2.1]? with
    | some x => o_throw x.2.2.1
    | none => o_no) else o_no
  | .invokevirtual _ => o_call te.2.2.1 true
  | .invokestatic _ => if te.2.2.2 = 7 then o_copy (te.1 + 3) else o_call te.2.2.1 false
  | .invokespecial _ => if te.2.2.2 = 6 then o_obj (te.1 + 3) else if te.2.2.2 = 4 ∨ te.2.2.2 = 5 then o_call te.2.2.1 true else o_no
  | .ireturn => o_iret
  | .areturn => o_aret
  | .return_ => o_ret
  | _ => o_no
abbrev MEn : Type := PM × HD4 × LW × List (Nat × OPF)
noncomputable def ffnd (pc : Nat) (l : List (Nat × OPF)) (k : OPF → List (Nat × OPF) → Bool) (no : Bool) : Bool := List.rec no (fun e r ih => Bool.rec ih (k e.2 r) (Nat.beq e.1 pc)) l
noncomputable def ffch (pc : Nat) (T rest : List (Nat × OPF)) (k : OPF → List (Nat × OPF) → Bool) : Bool := ffnd pc rest k (ffnd pc T k false)
noncomputable def lAll (f : EV → Bool) (l : List EV) : Bool := List.rec true (fun e _ ih => Bool.rec false ih (f e)) l
noncomputable def tkr (n : Nat) : LW → LW → (LW → LW → Bool) → Bool := Nat.rec (fun st acc k => k acc st) (fun _ ih st acc k => match st with
  | x :: r => (match w1 x with
    | true => ih r (x :: acc) k
    | false => false)
  | [] => false) n
noncomputable def wRecv (virt : Bool) (o : Nat) (args : LW) (h : HT) (k : Bool) : Bool := match virt with
  | false => k
  | true => (match args with
    | .inr (.inr (.ref a)) :: _ => (match hget h a with
      | some (.inr (cj, _)) => (match Nat.beq cj o with
        | true => k
        | false => false)
      | _ => false)
    | _ => false)
def wBack (hd : HD4) (pc e : Nat) : AQ := match p_catch hd pc e with
  | some z => .inl (some (.inl (Int32.ofInt z).toInt))
  | none => .inr e
abbrev CAL : Type := Nat → MEn → EV → LW → Nat → HT → RT → Bool
noncomputable def mget (mt : List (List MEn)) (μ : Nat) : Option MEn := match lget mt (Nat.div μ 20) with
  | some r => lget r (Nat.mod μ 20)
  | none => none
noncomputable def aB (X : CX9) (T : List (Nat × OPF)) (mt : List (List MEn)) (cal : CAL) (ret : RT) : Nat → EV → Nat → List (Nat × OPF) → LW → LW → Nat → HT → Nat → Nat → Bool := fun k => Nat.rec (fun _ _ _ _ _ _ _ _ _ => false) (fun _ ih env pc rest lv st m h c s =>
  ffch pc T rest fun f r => f X env lv st m h c s (fun pc lv st m h c s => ih env pc r lv st m h c s) (fun l => lAll (fun env => ih env pc rest lv st m h c s) l)
      (fun μ virt => match mget mt μ with
        | some N => tkr (pN N.1) st N.2.2.1 fun args rst => (match Nat.ble (cats rst) 8 && (Nat.ble (c + pC N.1) (pC X.2.1) && Nat.ble (s + pS N.1) (pS X.2.1)) with
          | true => natF (c + pC N.1) fun c1 => natF (s + pS N.1) fun s1 => wRecv virt (pO N.1) args h (cal μ N env args m h (fun env q m h => match q with
            | .inl (some x) => ih env (pc + 3) r lv (x :: rst) m h c1 s1
            | .inl none => ih env (pc + 3) r lv rst m h c1 s1
            | .inr e => ret env (wBack X.2.2 pc e) m h))
          | false => false)
        | none => false)
      (fun q => ret env q m h)) k
noncomputable def aM (L fuel : Nat) (mt : List (List MEn)) (n : Nat) : CAL := Nat.rec (fun _ _ _ _ _ _ _ => false) (fun _ ih _ N env args m h ret => aB (L, N.1, N.2.1) N.2.2.2 mt ih ret fuel env 0 N.2.2.2 args [] m h 0 0) n
end
section
/-! the run with unknown arguments stands for all runs: what a picture means -/
def vV (θ : Nat → Int32) (v w : Value) : Prop := match v with
  | .double z => ∃ y : Int32, w = .long y.toInt64 ∧ y.toInt = dA z * (θ (dT z)).toInt + dB z
  | v => w = v
def vR (θ : Nat → Int32) (a : AV) (w : Value) : Prop := match a with
  | .inl x => ∃ y : Int32, w = .int y ∧ y.toInt = x
  | .inr (.inl (0, lo, hi)) => ∃ y : Int32, w = .int y ∧ lo ≤ y.toInt ∧ y.toInt ≤ hi
  | .inr (.inl (t + 1, a, b)) => ∃ y : Int32, w = .int y ∧ y.toInt = a * (θ t).toInt + b
  | .inr (.inr v) => vV θ v w
def eR (θ : Nat → Int32) (env : EV) : Prop := ∀ t r, env[t]? = some r → r.1 ≤ (θ t).toInt ∧ (θ t).toInt ≤ r.2
def cR (θ : Nat → Int32) (x : AE) (y : PE) : Prop := match x, y with
  | .inl (0, l), .inl (0, n, .inl g) => n = l.length ∧ ∀ (j : Nat) (a : AV), l[j]? = some a → vR θ a (.int (g j))
  | .inl (1, l), .inl (1, n, .inr (.inl g)) => n = l.length ∧ ∀ (j : Nat) (a : AV), l[j]? = some a → vR θ a (.long (g j))
  | .inl (2, l), .inl (2, n, .inr (.inr (.inr (.inr g)))) => n = l.length ∧ ∀ (j : Nat) (a : AV), l[j]? = some a → vR θ a (va_rf (g j))
  | .inl (3, l), .inl (3, n, .inr (.inr (.inr (.inr g)))) => n = l.length ∧ ∀ (j : Nat) (a : AV), l[j]? = some a → vR θ a (va_rf (g j))
  | .inr (ci, fs), .inr (cj, gs) => cj = ci ∧ A2 (vR θ) fs gs
  | _, _ => False
def lR (θ : Nat → Int32) (lv : LW) (lv' : LV) : Prop := ∀ i v, lv[i]? = some v → v = aU ∨ ∃ w, px_g lv' i = some w ∧ vR θ v w ∧ w.category = 1
def hR (θ : Nat → Int32) (m : Nat) (h : HT) (h' : PH) : Prop := h'.length = m ∧ ∀ a c, hget h a = some c → c = .inl (99, []) ∨ ∃ y, h'[a]? = some y ∧ cR θ c y
def resR (θ : Nat → Int32) (q : AQ) (r : Rs) : Prop := match q, r with
  | .inl v, .inl w => A2 (vR θ) v.toList w.toList
  | .inr e, .inr f => f = e
  | _, _ => False
def CUT (θ : Nat → Int32) (cut : List EV → Bool) : Prop := ∃ l, cut l = true ∧ ∃ e ∈ l, eR θ e
/-! lists -/
theorem lget_eq {α : Type} : ∀ (l : List α) (i : Nat), lget l i = l[i]?
  | [], i => by simp [lget]
  | a :: l, 0 => rfl
  | a :: l, i + 1 => by
    have h := lget_eq l i
    show lget l i = _
    rw [h]; simp
theorem lset_ok {α : Type} {v : α} : ∀ {l : List α} {i : Nat} {k : List α → Bool}, lset l i v k = true → i < l.length ∧ k (l.set i v) = true
  | [], i, k, h => by cases (show false = true from h)
  | a :: l, 0, k, h => ⟨by simp, h⟩
  | a :: l, i + 1, k, h => by
    have h1 := lset_ok (l := l) (i := i) (k := fun t' => k (a :: t')) h
    exact ⟨by simp; exact h1.1, h1.2⟩
theorem ldrop_eq {α : Type} : ∀ (l : List α) (i : Nat), ldrop l i = l.drop i
  | [], i => by simp [ldrop]
  | a :: l, 0 => rfl
  | a :: l, i + 1 => by
    have h := ldrop_eq l i
    show ldrop l i = _
    rw [h]; simp
theorem hset_ok {h : HT} {a : Nat} {v : AE} {k : HT → Bool} (H : hset h a v k = true) : ∃ h2, k h2 = true ∧ (∃ x, hget h a = some x) ∧ ∀ b, hget h2 b = if b = a then some v else hget h b := by
  unfold hset at H
  split at H
  · rename_i r hr
    obtain ⟨h1, H⟩ := lset_ok H
    obtain ⟨h2, H⟩ := lset_ok H
    rw [lget_eq] at hr
    refine ⟨_, H, ⟨r[a % 16], ?_⟩, fun b => ?_⟩
    · unfold hget
      rw [lget_eq, hr]
      simp only
      rw [lget_eq]
      exact List.getElem?_eq_getElem h1
    · unfold hget
      rw [lget_eq, lget_eq]
      by_cases hd : Nat.div b 16 = Nat.div a 16
      · rw [hd, List.getElem?_set_self h2, hr]
        simp only
        rw [lget_eq, lget_eq]
        by_cases hm : Nat.mod b 16 = Nat.mod a 16
        · have hba : b = a := by
            have e1 := Nat.div_add_mod b 16
            have e2 := Nat.div_add_mod a 16
            have hd' : b / 16 = a / 16 := hd
            have hm' : b % 16 = a % 16 := hm
            omega
          rw [if_pos hba, hm, List.getElem?_set_self h1]
        · have hba : ¬ b = a := fun q => hm (by rw [q])
          rw [if_neg hba, List.getElem?_set_ne (fun q => hm q.symm)]
      · have hba : ¬ b = a := fun q => hd (by rw [q])
        rw [if_neg hba, List.getElem?_set_ne (fun q => hd q.symm)]
  · cases H
theorem repF_ok {α : Type} {v : α} : ∀ {n : Nat} {k : List α → Bool}, repF v n k = true → k (List.replicate n v) = true
  | 0, k, h => h
  | n + 1, k, h => repF_ok (n := n) (k := fun l => k (v :: l)) h
theorem natF_ok {n : Nat} {k : Nat → Bool} (h : natF n k = true) : k n = true := by cases n <;> exact h
theorem iF_ok {x : Int} {k : Int → Bool} (h : iF x k = true) : k x = true := by cases x <;> exact h
theorem blt_iff {a b : Nat} : Nat.blt a b = true ↔ a < b := by
  show Nat.ble (a + 1) b = true ↔ _
  rw [Nat.ble_eq]; omega
theorem bLt_iff {x y : Int} : bLt x y = true ↔ x < y := by
  cases x with
  | ofNat a => cases y with
    | ofNat b => show Nat.blt a b = true ↔ _; rw [blt_iff]; simp
    | negSucc b => show false = true ↔ _; constructor
                   · intro h; cases h
                   · intro h; exfalso; have := Int.negSucc_lt_zero b; have := Int.natCast_nonneg a; simp at h; omega
  | negSucc a => cases y with
    | ofNat b => show true = true ↔ _; constructor
                 · intro _; have := Int.negSucc_lt_zero a; have := Int.natCast_nonneg b; simp; omega
                 · intro _; rfl
    | negSucc b => show Nat.blt b a = true ↔ _; rw [blt_iff]; omega
theorem bEq_iff {x y : Int} : bEq x y = true ↔ x = y := by
  cases x with
  | ofNat a => cases y with
    | ofNat b => show Nat.beq a b = true ↔ _; rw [Nat.beq_eq]; exact ⟨fun h => by rw [h], fun h => Int.ofNat.inj h⟩
    | negSucc b => show false = true ↔ _; simp
  | negSucc a => cases y with
    | ofNat b => show false = true ↔ _; simp
    | negSucc b => show Nat.beq a b = true ↔ _; rw [Nat.beq_eq]; simp
theorem bLt_no {x y : Int} : bLt x y = false ↔ y ≤ x := by
  rw [← Bool.not_eq_true, bLt_iff]; omega
theorem bEq_no {x y : Int} : bEq x y = false ↔ ¬ x = y := by
  rw [← Bool.not_eq_true, bEq_iff]
theorem bLe_iff {x y : Int} : bLe x y = true ↔ x ≤ y := by
  unfold bLe; rw [Bool.not_eq_true', bLt_no]
theorem inI_iff {lo hi : Int} : inI lo hi = true ↔ -2147483648 ≤ lo ∧ hi ≤ 2147483647 := by
  unfold inI; rw [Bool.and_eq_true, bLe_iff, bLe_iff]
theorem beq_iff {a b : Nat} : Nat.beq a b = true ↔ a = b := by rw [Nat.beq_eq]
theorem i32_rng (x : Int32) : -2147483648 ≤ x.toInt ∧ x.toInt ≤ 2147483647 := ⟨by have := Int32.le_toInt x; omega, by have := Int32.toInt_lt x; omega⟩
theorem bm {a : Int} (h1 : -2147483648 ≤ a) (h2 : a ≤ 2147483647) : a.bmod 4294967296 = a := by
  rw [Int.bmod_def]
  omega
theorem toInt_inj {x y : Int32} (h : x.toInt = y.toInt) : x = y := by rw [← Int32.ofInt_toInt x, h, Int32.ofInt_toInt]
/-! numbers -/
section NUM
variable {θ : Nat → Int32} {env : EV} {cut : List EV → Bool}
theorem mul_neg_rng {a lo hi x : Int} (ha : a < 0) (h1 : lo ≤ x) (h2 : x ≤ hi) : a * hi ≤ a * x ∧ a * x ≤ a * lo := by
  have e1 := Int.mul_le_mul_of_nonpos_left (Int.le_of_lt ha) h2
  have e2 := Int.mul_le_mul_of_nonpos_left (Int.le_of_lt ha) h1
  exact ⟨e1, e2⟩
theorem mul_pos_rng {a lo hi x : Int} (ha : 0 ≤ a) (h1 : lo ≤ x) (h2 : x ≤ hi) : a * lo ≤ a * x ∧ a * x ≤ a * hi :=
  ⟨Int.mul_le_mul_of_nonneg_left h1 ha, Int.mul_le_mul_of_nonneg_left h2 ha⟩
theorem rKY {t : Nat} {a b : Int} {k : Int → Int → Bool} (he : eR θ env) (h : rK env (aY t a b) k = true) : ∃ lo hi, lo ≤ a * (θ t).toInt + b ∧ a * (θ t).toInt + b ≤ hi ∧ k lo hi = true := by
  simp only [rK, lget_eq] at h
  split at h
  · rename_i r hr
    obtain ⟨h1, h2⟩ := he _ _ hr
    split at h
    · rename_i ha
      obtain ⟨g1, g2⟩ := mul_pos_rng (bLt_no.mp ha) h1 h2
      exact ⟨_, _, by omega, by omega, h⟩
    · rename_i ha
      obtain ⟨g1, g2⟩ := mul_neg_rng (bLt_iff.mp ha) h1 h2
      exact ⟨_, _, by omega, by omega, h⟩
  · cases h
theorem rK_ok {v : AV} {w : Value} {k : Int → Int → Bool} (he : eR θ env) (hv : vR θ v w) (h : rK env v k = true) : ∃ (y : Int32) (lo hi : Int), w = .int y ∧ lo ≤ y.toInt ∧ y.toInt ≤ hi ∧ k lo hi = true := by
  rcases v with x | ⟨t, a, b⟩ | v
  · obtain ⟨y, rfl, e⟩ := hv
    exact ⟨y, x, x, rfl, by omega, by omega, h⟩
  · cases t with
    | zero => obtain ⟨y, rfl, e1, e2⟩ := hv; exact ⟨y, a, b, rfl, e1, e2, h⟩
    | succ t =>
      obtain ⟨y, rfl, e⟩ := hv
      obtain ⟨lo, hi, h1, h2, h3⟩ := rKY he h
      exact ⟨y, lo, hi, rfl, by omega, by omega, h3⟩
  · cases (show false = true from h)
def lZ (θ : Nat → Int32) (p : AN) (z : Int) : Prop := match p.1 with
  | 0 => z = p.2.2 ∧ p.2.1 = 0
  | t + 1 => z = p.2.1 * (θ t).toInt + p.2.2
theorem lin_ok {v : AV} {w : Value} {k : AN → Bool} {no : Bool} (he : eR θ env) (hv : vR θ v w) (h : lin env v k no = true) : (∃ (y : Int32) (p : AN), w = .int y ∧ lZ θ p y.toInt ∧ k p = true) ∨ no = true := by
  rcases v with x | ⟨t, a, b⟩ | v
  · obtain ⟨y, rfl, e⟩ := hv
    exact Or.inl ⟨y, (0, 0, x), rfl, ⟨e, rfl⟩, h⟩
  · cases t with
    | zero =>
      obtain ⟨y, rfl, e1, e2⟩ := hv
      simp only [lin] at h
      split at h
      · rename_i hb
        rw [bEq_iff] at hb
        exact Or.inl ⟨y, (0, 0, a), rfl, ⟨by show _ = a; omega, rfl⟩, h⟩
      · exact Or.inr h
    | succ t =>
      obtain ⟨y, rfl, e⟩ := hv
      simp only [lin, lget_eq] at h
      split at h
      · rename_i r hr
        obtain ⟨h1, h2⟩ := he _ _ hr
        split at h
        · rename_i hb
          rw [bEq_iff] at hb
          have h3 : (θ t).toInt = r.1 := by omega
          exact Or.inl ⟨y, (0, 0, a * r.1 + b), rfl, ⟨by show _ = a * r.1 + b; rw [e, h3], rfl⟩, iF_ok h⟩
        · exact Or.inl ⟨y, (t + 1, a, b), rfl, e, h⟩
      · exact Or.inr h
  · exact Or.inr h
theorem eR.set {env : EV} (he : eR θ env) {t : Nat} {q : Int × Int} (h : q.1 ≤ (θ t).toInt ∧ (θ t).toInt ≤ q.2) : eR θ (env.set t q) := by
  intro t' r hr
  by_cases ht : t = t'
  · subst ht
    rw [List.getElem?_set] at hr
    simp only [if_true] at hr
    split at hr
    · cases hr; exact h
    · cases hr
  · rw [List.getElem?_set_ne ht] at hr
    exact he t' r hr
theorem cutLe_ok {t : Nat} {z : Int} (he : eR θ env) (h : cutLe env t z cut = true) : CUT θ cut := by
  unfold cutLe at h
  rw [lget_eq] at h
  split at h
  · rename_i r hr
    obtain ⟨h1, h2⟩ := he _ _ hr
    split at h
    · obtain ⟨-, h⟩ := lset_ok h
      obtain ⟨-, h⟩ := lset_ok h
      refine ⟨_, h, ?_⟩
      rcases Int.lt_or_le z (θ t).toInt with q | q
      · exact ⟨_, List.mem_cons_of_mem _ List.mem_cons_self, he.set ⟨by show z + 1 ≤ _; omega, h2⟩⟩
      · exact ⟨_, List.mem_cons_self, he.set ⟨h1, q⟩⟩
    · cases h
  · cases h
theorem cutAll1_ok {t : Nat} {lo : Int} (he : eR θ env) : ∀ {n : Nat} {acc : List EV}, cutAll1 env t lo cut n acc = true → (∃ e ∈ acc, eR θ e) ∨ (lo ≤ (θ t).toInt ∧ (θ t).toInt < lo + n) → CUT θ cut
  | 0, acc, h, hc => ⟨acc, h, hc.resolve_right (by intro q; omega)⟩
  | n + 1, acc, h, hc => by
    have h1 := iF_ok (show iF (lo + Int.ofNat n) (fun z => lset env t (z, z) fun e => cutAll1 env t lo cut n (e :: acc)) = true from h)
    obtain ⟨-, h2⟩ := lset_ok h1
    refine cutAll1_ok he h2 ?_
    rcases hc with ⟨e, he1, he2⟩ | ⟨q1, q2⟩
    · exact Or.inl ⟨e, List.mem_cons_of_mem _ he1, he2⟩
    · by_cases hq : (θ t).toInt = lo + Int.ofNat n
      · exact Or.inl ⟨_, List.mem_cons_self, he.set ⟨by show lo + Int.ofNat n ≤ _; omega, by show _ ≤ lo + Int.ofNat n; omega⟩⟩
      · exact Or.inr ⟨q1, by simp at hq; omega⟩
theorem cutAll_ok {t : Nat} (he : eR θ env) (h : cutAll env t cut = true) : CUT θ cut := by
  unfold cutAll at h
  rw [lget_eq] at h
  split at h
  · rename_i r hr
    obtain ⟨h1, h2⟩ := he _ _ hr
    split at h
    · rename_i w hw
      split at h
      · refine cutAll1_ok he h (Or.inr ⟨h1, ?_⟩)
        have hw' : r.2 - r.1 = (w : Int) := hw
        omega
      · cases h
    · cases h
  · cases h
theorem cutSm_ok {t u : Nat} (he : eR θ env) (h : cutSm env t u cut = true) : CUT θ cut := by
  unfold cutSm widK at h
  split at h
  · split at h
    · dsimp only at h
      split at h
      · exact cutAll_ok he h
      · exact cutAll_ok he h
    · cases h
  · cases h
def ccZ (c : ClassFile.Cond) (x y : Int) : Prop := match c with
  | .eq => x = y
  | .ne => ¬ x = y
  | .lt => x < y
  | .ge => y ≤ x
  | .gt => y < x
  | .le => x ≤ y
theorem ccI_iff {c : ClassFile.Cond} {x y : Int32} : ccI c x y ↔ ccZ c x.toInt y.toInt := by
  cases c <;> simp only [ccI, ccZ, Int32.lt_iff_toInt_lt, Int32.le_iff_toInt_le]
  · exact ⟨fun h => by rw [h], toInt_inj⟩
  · exact ⟨fun h q => h (toInt_inj q), fun h q => h (by rw [q])⟩
theorem ccZ_sub {c : ClassFile.Cond} {x y : Int} : ccZ c x y ↔ ccZ c (x - y) 0 := by cases c <;> simp only [ccZ] <;> omega
theorem cmpK_iff {c : ClassFile.Cond} {x y : Int} : cmpK c x y = true ↔ ccZ c x y := by
  cases c <;> simp only [cmpK, ccZ, Bool.not_eq_true', bLt_iff, bEq_iff, bLt_no, bEq_no]
theorem cmpR_ok {c : ClassFile.Cond} {a b a' b' x y : Int} (h1 : a ≤ x) (h2 : x ≤ b) (h3 : a' ≤ y) (h4 : y ≤ b') {v : Bool} (h : cmpR c a b a' b' = some v) : ccZ c x y ↔ v = true := by
  cases c <;> simp only [cmpR] at h <;> (split at h) <;> (try (split at h)) <;> (first | (cases h; done) | skip) <;> cases h <;> rename_i q1 <;> (try rename_i q2) <;> simp only [Bool.or_eq_true, Bool.and_eq_true, Bool.or_eq_false_iff, Bool.and_eq_false_imp, bLt_iff, bEq_iff, bLt_no, bEq_no] at * <;> simp only [ccZ, iff_true, Bool.false_eq_true, iff_false] <;> omega
theorem cutC_ok {c : ClassFile.Cond} {t : Nat} {a b : Int} (he : eR θ env) (h : cutC env c t a b cut = true) : CUT θ cut := by
  unfold cutC at h
  split at h
  · split at h
    · have h := iF_ok h
      split at h
      · exact cutLe_ok he h
      · exact cutLe_ok he h
    · cases h
  · split at h
    · have h := iF_ok h
      split at h
      · exact cutLe_ok he h
      · exact cutLe_ok he h
    · cases h
  · exact cutLe_ok he (iF_ok h)
theorem wBrL_ok {c : ClassFile.Cond} {t : Nat} {a b z : Int} {y n : Bool} (he : eR θ env) (hz : lZ θ (t, a, b) z) (h : wBrL env c t a b cut y n = true) : (ccZ c z 0 ∧ y = true) ∨ (¬ ccZ c z 0 ∧ n = true) ∨ CUT θ cut := by
  have key : ∀ {b : Int}, z = b → (match cmpK c b 0 with | true => y | false => n) = true → (ccZ c z 0 ∧ y = true) ∨ (¬ ccZ c z 0 ∧ n = true) ∨ CUT θ cut := by
    intro b e h
    subst e
    split at h
    · rename_i q; exact Or.inl ⟨cmpK_iff.mp q, h⟩
    · rename_i q; exact Or.inr (Or.inl ⟨fun q2 => (by rw [cmpK_iff.mpr q2] at q; cases q), h⟩)
  cases t with
  | zero => exact key hz.1 h
  | succ t =>
    simp only [wBrL] at h
    split at h
    · rename_i ha
      rw [bEq_iff] at ha
      have hz' : z = a * (θ t).toInt + b := hz
      rw [ha, Int.zero_mul, Int.zero_add] at hz'
      exact key hz' h
    · have hz' : z = a * (θ t).toInt + b := hz
      obtain ⟨lo, hi, h1, h2, h⟩ := rKY he h
      rw [← hz'] at h1 h2
      split at h
      · rename_i q; exact Or.inl ⟨(cmpR_ok h1 h2 (Int.le_refl 0) (Int.le_refl 0) q).mpr rfl, h⟩
      · rename_i q; exact Or.inr (Or.inl ⟨fun q2 => (by have := (cmpR_ok h1 h2 (Int.le_refl 0) (Int.le_refl 0) q).mp q2; cases this), h⟩)
      · exact Or.inr (Or.inr (cutC_ok he h))
theorem lZ_l {p q : AN} {x y : Int} (g : Int → Int → Int) (hg : ∀ a b a' b' u : Int, g (a * u + b) (a' * u + b') = g a a' * u + g b b') (hx : lZ θ p x) (hy : lZ θ q y) (h : Nat.beq p.1 0 = true) : lZ θ (q.1, g p.2.1 q.2.1, g p.2.2 q.2.2) (g x y) ∨ g 0 0 ≠ 0 := by
  by_cases h00 : g 0 0 = 0
  · left
    obtain ⟨t, a, b⟩ := p
    obtain ⟨t', a', b'⟩ := q
    have ht : t = 0 := beq_iff.mp h
    subst ht
    obtain ⟨rfl, ha⟩ := hx
    have ha : a = 0 := ha
    subst ha
    cases t' with
    | zero =>
      obtain ⟨rfl, ha'⟩ := hy
      have ha' : a' = 0 := ha'
      subst ha'
      exact ⟨rfl, h00⟩
    | succ t' =>
      have hy : y = a' * (θ t').toInt + b' := hy
      show g x y = g 0 a' * (θ t').toInt + g x b'
      have := hg 0 x a' b' (θ t').toInt
      rw [Int.zero_mul, Int.zero_add] at this
      rw [hy, this]
  · exact Or.inr h00
theorem lZ_r {p q : AN} {x y : Int} (g : Int → Int → Int) (hg : ∀ a b a' b' u : Int, g (a * u + b) (a' * u + b') = g a a' * u + g b b') (hx : lZ θ p x) (hy : lZ θ q y) (h : Nat.beq q.1 0 = true) : lZ θ (p.1, g p.2.1 q.2.1, g p.2.2 q.2.2) (g x y) ∨ g 0 0 ≠ 0 := by
  by_cases h00 : g 0 0 = 0
  · left
    obtain ⟨t, a, b⟩ := p
    obtain ⟨t', a', b'⟩ := q
    have ht : t' = 0 := beq_iff.mp h
    subst ht
    obtain ⟨rfl, ha⟩ := hy
    have ha : a' = 0 := ha
    subst ha
    cases t with
    | zero =>
      obtain ⟨rfl, ha'⟩ := hx
      have ha' : a = 0 := ha'
      subst ha'
      exact ⟨rfl, h00⟩
    | succ t =>
      have hx : x = a * (θ t).toInt + b := hx
      show g x y = g a 0 * (θ t).toInt + g b y
      have := hg a b 0 y (θ t).toInt
      rw [Int.zero_mul, Int.zero_add] at this
      rw [hx, this]
  · exact Or.inr h00
theorem lZ_s {p q : AN} {x y : Int} (g : Int → Int → Int) (hg : ∀ a b a' b' u : Int, g (a * u + b) (a' * u + b') = g a a' * u + g b b') (h00 : g 0 0 = 0) (hx : lZ θ p x) (hy : lZ θ q y) (h : Nat.beq p.1 q.1 = true) : lZ θ (p.1, g p.2.1 q.2.1, g p.2.2 q.2.2) (g x y) := by
  obtain ⟨t, a, b⟩ := p
  obtain ⟨t', a', b'⟩ := q
  have ht : t = t' := beq_iff.mp h
  subst ht
  cases t with
  | zero =>
    obtain ⟨rfl, ha⟩ := hx
    obtain ⟨rfl, ha'⟩ := hy
    have ha : a = 0 := ha
    have ha' : a' = 0 := ha'
    subst ha
    subst ha'
    exact ⟨rfl, h00⟩
  | succ t =>
    have hx : x = a * (θ t).toInt + b := hx
    have hy : y = a' * (θ t).toInt + b' := hy
    show g x y = g a a' * (θ t).toInt + g b b'
    rw [hx, hy, hg]
theorem g_add (a b a' b' u : Int) : (a * u + b) + (a' * u + b') = (a + a') * u + (b + b') := by rw [Int.add_mul]; omega
theorem g_sub (a b a' b' u : Int) : (a * u + b) - (a' * u + b') = (a - a') * u + (b - b') := by rw [Int.sub_mul]; omega
theorem wBr2_ok {c : ClassFile.Cond} {x y : AV} {xv yv : Int32} {t f : Bool} (he : eR θ env) (hx : vR θ x (.int xv)) (hy : vR θ y (.int yv)) (h : wBr2 env c x y cut t f = true) : (ccI c xv yv ∧ t = true) ∨ (¬ ccI c xv yv ∧ f = true) ∨ CUT θ cut := by
  unfold wBr2 at h
  obtain ⟨x1, a, b, e1, a1, a2, h⟩ := rK_ok he hx h
  cases e1
  obtain ⟨y1, a', b', e2, b1, b2, h⟩ := rK_ok he hy h
  cases e2
  have fin : ∀ {z : Int} {t' : Nat} {a b : Int}, z = xv.toInt - yv.toInt → lZ θ (t', a, b) z → wBrL env c t' a b cut t f = true → (ccI c xv yv ∧ t = true) ∨ (¬ ccI c xv yv ∧ f = true) ∨ CUT θ cut := by
    intro z t' a b ez hz h
    rw [ccI_iff, ccZ_sub, ← ez]
    exact wBrL_ok he hz h
  split at h
  · rename_i q
    rw [ccI_iff]
    exact Or.inl ⟨(cmpR_ok a1 a2 b1 b2 q).mpr rfl, h⟩
  · rename_i q
    rw [ccI_iff]
    exact Or.inr (Or.inl ⟨fun q2 => (by have := (cmpR_ok a1 a2 b1 b2 q).mp q2; cases this), h⟩)
  · rcases lin_ok he hx h with ⟨x2, p, e1, hp, h⟩ | h
    · cases e1
      rcases lin_ok he hy h with ⟨y2, q, e2, hq, h⟩ | h
      · cases e2
        split at h
        · rename_i hp0
          exact fin rfl ((lZ_l (· - ·) g_sub hp hq hp0).resolve_right (by simp)) h
        · rename_i hq0 _
          exact fin rfl ((lZ_r (· - ·) g_sub hp hq hq0).resolve_right (by simp)) h
        · split at h
          · rename_i hpq
            exact fin rfl (lZ_s (· - ·) g_sub (by simp) hp hq hpq) h
          · exact Or.inr (Or.inr (cutSm_ok he h))
      · exact Or.inr (Or.inr (cutAll_ok he h))
    · rcases lin_ok he hy h with ⟨y2, q, e2, hq, h⟩ | h
      · exact Or.inr (Or.inr (cutAll_ok he h))
      · cases h
theorem wBr_ok {c : ClassFile.Cond} {x y : AV} {wx wy : Value} {t f : Bool} (he : eR θ env) (hx : vR θ x wx) (hy : vR θ y wy) (h : wBr env c x y cut t f = true) : ∃ xv yv, wx = .int xv ∧ wy = .int yv ∧ ((ccI c xv yv ∧ t = true) ∨ (¬ ccI c xv yv ∧ f = true) ∨ CUT θ cut) := by
  have gen : wBr2 env c x y cut t f = true → ∃ xv yv, wx = .int xv ∧ wy = .int yv ∧ ((ccI c xv yv ∧ t = true) ∨ (¬ ccI c xv yv ∧ f = true) ∨ CUT θ cut) := by
    intro h
    have h0 := h
    unfold wBr2 at h0
    obtain ⟨xv, a, b, rfl, a1, a2, h1⟩ := rK_ok he hx h0
    obtain ⟨yv, a', b', rfl, b1, b2, h2⟩ := rK_ok he hy h1
    exact ⟨xv, yv, rfl, rfl, wBr2_ok he hx hy h⟩
  unfold wBr at h
  split at h
  · obtain ⟨xv, rfl, e1⟩ := hx
    obtain ⟨yv, rfl, e2⟩ := hy
    refine ⟨xv, yv, rfl, rfl, ?_⟩
    rw [ccI_iff, e1, e2]
    split at h
    · rename_i q; exact Or.inl ⟨cmpK_iff.mp q, h⟩
    · rename_i q; exact Or.inr (Or.inl ⟨fun q2 => (by rw [cmpK_iff.mpr q2] at q; cases q), h⟩)
  · exact gen h
theorem kInt_ok {z : Int} {k : AV → Bool} (h : kInt z k = true) : k (.inl (z.bmod 4294967296)) = true := by
  unfold kInt at h
  split at h
  · rename_i q
    rw [inI_iff] at q
    rw [bm q.1 q.2]
    exact iF_ok h
  · exact iF_ok h
theorem mkL_ok {t : Nat} {a b z : Int} {k : AV → Bool} {els : Bool} {zv : Int32} (he : eR θ env) (hz : lZ θ (t, a, b) z) (hzv : zv.toInt = z.bmod 4294967296) (h : mkL env t a b k els = true) : (∃ v, k v = true ∧ vR θ v (.int zv)) ∨ els = true := by
  cases t with
  | zero =>
    have e : z = b := hz.1
    subst e
    exact Or.inl ⟨_, kInt_ok h, zv, rfl, hzv⟩
  | succ t =>
    have hz' : z = a * (θ t).toInt + b := hz
    simp only [mkL] at h
    split at h
    · rename_i ha
      rw [bEq_iff] at ha
      rw [ha, Int.zero_mul, Int.zero_add] at hz'
      subst hz'
      exact Or.inl ⟨_, kInt_ok h, zv, rfl, hzv⟩
    · obtain ⟨lo, hi, h1, h2, h⟩ := rKY he h
      split at h
      · rename_i q
        rw [inI_iff] at q
        refine Or.inl ⟨_, h, zv, rfl, ?_⟩
        rw [hzv, hz', bm (by omega) (by omega)]
      · exact Or.inr h
theorem top_R (x : Int32) : vR θ aTop (.int x) := ⟨x, rfl, (i32_rng x).1, (i32_rng x).2⟩
theorem isNum_ok {v : AV} {w : Value} (h : isNum v = true) (hv : vR θ v w) : ∃ y : Int32, w = .int y := by
  rcases v with x | ⟨_ | t, a, b⟩ | v
  · obtain ⟨y, rfl, -⟩ := hv; exact ⟨y, rfl⟩
  · obtain ⟨y, rfl, -⟩ := hv; exact ⟨y, rfl⟩
  · obtain ⟨y, rfl, -⟩ := hv; exact ⟨y, rfl⟩
  · cases (show false = true from h)
theorem wAdd_ok {x y : AV} {wx wy : Value} {k : AV → Bool} (he : eR θ env) (hx : vR θ x wx) (hy : vR θ y wy) (h : wAdd env x y cut k = true) : ∃ xv yv, wx = .int xv ∧ wy = .int yv ∧ ((∃ v, k v = true ∧ vR θ v (.int (xv + yv))) ∨ CUT θ cut) := by
  unfold wAdd at h
  split at h
  · obtain ⟨xv, rfl, e1⟩ := hx
    obtain ⟨yv, rfl, e2⟩ := hy
    exact ⟨xv, yv, rfl, rfl, Or.inl ⟨_, kInt_ok h, xv + yv, rfl, by rw [Int32.toInt_add, e1, e2]⟩⟩
  · split at h
    · cases h
    · rename_i hn
      rw [Bool.and_eq_true] at hn
      obtain ⟨xv, rfl⟩ := isNum_ok hn.1 hx
      obtain ⟨yv, rfl⟩ := isNum_ok hn.2 hy
      refine ⟨xv, yv, rfl, rfl, ?_⟩
      have top : k aTop = true → (∃ v, k v = true ∧ vR θ v (.int (xv + yv))) ∨ CUT θ cut := fun h => Or.inl ⟨_, h, top_R _⟩
      have fin : ∀ {t : Nat} {a b : Int}, lZ θ (t, a, b) (xv.toInt + yv.toInt) → mkL env t a b k (k aTop) = true → (∃ v, k v = true ∧ vR θ v (.int (xv + yv))) ∨ CUT θ cut := by
        intro t a b hz h
        rcases mkL_ok (zv := xv + yv) he hz (by rw [Int32.toInt_add]) h with q | q
        · exact Or.inl q
        · exact top q
      rcases lin_ok he hx h with ⟨x2, p, e1, hp, h⟩ | h
      · cases e1
        rcases lin_ok he hy h with ⟨y2, q, e2, hq, h⟩ | h
        · cases e2
          split at h
          · rename_i hp0
            exact fin ((lZ_l (· + ·) g_add hp hq hp0).resolve_right (by simp)) h
          · rename_i hq0 _
            exact fin ((lZ_r (· + ·) g_add hp hq hq0).resolve_right (by simp)) h
          · split at h
            · rename_i hpq
              exact fin (lZ_s (· + ·) g_add (by simp) hp hq hpq) h
            · exact Or.inr (cutSm_ok he h)
        · exact top h
      · exact top h
theorem wSub_ok {x y : AV} {wx wy : Value} {k : AV → Bool} (he : eR θ env) (hx : vR θ x wx) (hy : vR θ y wy) (h : wSub env x y cut k = true) : ∃ xv yv, wx = .int xv ∧ wy = .int yv ∧ ((∃ v, k v = true ∧ vR θ v (.int (xv - yv))) ∨ CUT θ cut) := by
  unfold wSub at h
  split at h
  · obtain ⟨xv, rfl, e1⟩ := hx
    obtain ⟨yv, rfl, e2⟩ := hy
    exact ⟨xv, yv, rfl, rfl, Or.inl ⟨_, kInt_ok h, xv - yv, rfl, by rw [Int32.toInt_sub, e1, e2]⟩⟩
  · split at h
    · cases h
    · rename_i hn
      rw [Bool.and_eq_true] at hn
      obtain ⟨xv, rfl⟩ := isNum_ok hn.1 hx
      obtain ⟨yv, rfl⟩ := isNum_ok hn.2 hy
      refine ⟨xv, yv, rfl, rfl, ?_⟩
      have top : k aTop = true → (∃ v, k v = true ∧ vR θ v (.int (xv - yv))) ∨ CUT θ cut := fun h => Or.inl ⟨_, h, top_R _⟩
      have fin : ∀ {t : Nat} {a b : Int}, lZ θ (t, a, b) (xv.toInt - yv.toInt) → mkL env t a b k (k aTop) = true → (∃ v, k v = true ∧ vR θ v (.int (xv - yv))) ∨ CUT θ cut := by
        intro t a b hz h
        rcases mkL_ok (zv := xv - yv) he hz (by rw [Int32.toInt_sub]) h with q | q
        · exact Or.inl q
        · exact top q
      rcases lin_ok he hx h with ⟨x2, p, e1, hp, h⟩ | h
      · cases e1
        rcases lin_ok he hy h with ⟨y2, q, e2, hq, h⟩ | h
        · cases e2
          split at h
          · rename_i hp0
            exact fin ((lZ_l (· - ·) g_sub hp hq hp0).resolve_right (by simp)) h
          · rename_i hq0 _
            exact fin ((lZ_r (· - ·) g_sub hp hq hq0).resolve_right (by simp)) h
          · split at h
            · rename_i hpq
              exact fin (lZ_s (· - ·) g_sub (by simp) hp hq hpq) h
            · exact Or.inr (cutSm_ok he h)
        · exact top h
      · exact top h
theorem lZ_ml {p q : AN} {x y : Int} (hx : lZ θ p x) (hy : lZ θ q y) (h : Nat.beq p.1 0 = true) : lZ θ (q.1, p.2.2 * q.2.1, p.2.2 * q.2.2) (x * y) := by
  obtain ⟨t, a, b⟩ := p
  obtain ⟨t', a', b'⟩ := q
  have ht : t = 0 := beq_iff.mp h
  subst ht
  obtain ⟨rfl, -⟩ := hx
  cases t' with
  | zero =>
    obtain ⟨rfl, ha'⟩ := hy
    have ha' : a' = 0 := ha'
    subst ha'
    exact ⟨rfl, Int.mul_zero _⟩
  | succ t' =>
    have hy : y = a' * (θ t').toInt + b' := hy
    show x * y = x * a' * (θ t').toInt + x * b'
    rw [hy, Int.mul_add, Int.mul_assoc]
theorem lZ_mr {p q : AN} {x y : Int} (hx : lZ θ p x) (hy : lZ θ q y) (h : Nat.beq q.1 0 = true) : lZ θ (p.1, p.2.1 * q.2.2, p.2.2 * q.2.2) (x * y) := by
  obtain ⟨t, a, b⟩ := p
  obtain ⟨t', a', b'⟩ := q
  have ht : t' = 0 := beq_iff.mp h
  subst ht
  obtain ⟨rfl, -⟩ := hy
  cases t with
  | zero =>
    obtain ⟨rfl, ha'⟩ := hx
    have ha' : a = 0 := ha'
    subst ha'
    exact ⟨rfl, Int.zero_mul _⟩
  | succ t =>
    have hx : x = a * (θ t).toInt + b := hx
    show x * y = a * y * (θ t).toInt + b * y
    rw [hx, Int.add_mul, Int.mul_right_comm]
theorem wMul_ok {x y : AV} {wx wy : Value} {k : AV → Bool} (he : eR θ env) (hx : vR θ x wx) (hy : vR θ y wy) (h : wMul env x y cut k = true) : ∃ xv yv, wx = .int xv ∧ wy = .int yv ∧ ((∃ v, k v = true ∧ vR θ v (.int (xv * yv))) ∨ CUT θ cut) := by
  unfold wMul at h
  split at h
  · obtain ⟨xv, rfl, e1⟩ := hx
    obtain ⟨yv, rfl, e2⟩ := hy
    exact ⟨xv, yv, rfl, rfl, Or.inl ⟨_, kInt_ok h, xv * yv, rfl, by rw [Int32.toInt_mul, e1, e2]⟩⟩
  · split at h
    · cases h
    · rename_i hn
      rw [Bool.and_eq_true] at hn
      obtain ⟨xv, rfl⟩ := isNum_ok hn.1 hx
      obtain ⟨yv, rfl⟩ := isNum_ok hn.2 hy
      refine ⟨xv, yv, rfl, rfl, ?_⟩
      have top : k aTop = true → (∃ v, k v = true ∧ vR θ v (.int (xv * yv))) ∨ CUT θ cut := fun h => Or.inl ⟨_, h, top_R _⟩
      have fin : ∀ {t : Nat} {a b : Int}, lZ θ (t, a, b) (xv.toInt * yv.toInt) → mkL env t a b k (k aTop) = true → (∃ v, k v = true ∧ vR θ v (.int (xv * yv))) ∨ CUT θ cut := by
        intro t a b hz h
        rcases mkL_ok (zv := xv * yv) he hz (by rw [Int32.toInt_mul]) h with q | q
        · exact Or.inl q
        · exact top q
      rcases lin_ok he hx h with ⟨x2, p, e1, hp, h⟩ | h
      · cases e1
        rcases lin_ok he hy h with ⟨y2, q, e2, hq, h⟩ | h
        · cases e2
          split at h
          · rename_i hp0
            exact fin (lZ_ml hp hq hp0) h
          · rename_i hq0 _
            exact fin (lZ_mr hp hq hq0) h
          · exact Or.inr (cutSm_ok he h)
        · exact top h
      · exact top h
theorem known {x : Int32} {a b : Int} (h1 : a ≤ x.toInt) (h2 : x.toInt ≤ b) (h : a = b) : x = Int32.ofInt a := by
  have h3 : x.toInt = a := by omega
  rw [← h3, Int32.ofInt_toInt]
theorem wAny_ok {x y : AV} {wx wy : Value} {f : Int32 → Int32 → Int32} {k : AV → Bool} (he : eR θ env) (hx : vR θ x wx) (hy : vR θ y wy) (h : wAny env x y f k = true) : ∃ xv yv, wx = .int xv ∧ wy = .int yv ∧ ∃ v, k v = true ∧ vR θ v (.int (f xv yv)) := by
  unfold wAny at h
  obtain ⟨xv, a, b, rfl, a1, a2, h⟩ := rK_ok he hx h
  obtain ⟨yv, a', b', rfl, b1, b2, h⟩ := rK_ok he hy h
  refine ⟨xv, yv, rfl, rfl, ?_⟩
  split at h
  · rename_i q
    rw [Bool.and_eq_true, bEq_iff, bEq_iff] at q
    refine ⟨_, iF_ok h, f xv yv, rfl, ?_⟩
    unfold bin
    rw [← known a1 a2 q.1, ← known b1 b2 q.2]
  · exact ⟨_, h, top_R _⟩
theorem wNz_ok {y : AV} {wy : Value} {k : Bool} (he : eR θ env) (hy : vR θ y wy) (h : wNz env y k = true) : k = true ∧ ∀ yv, wy = .int yv → ¬ yv = 0 := by
  unfold wNz at h
  obtain ⟨yv, a, b, rfl, a1, a2, h⟩ := rK_ok he hy h
  split at h
  · rename_i q
    refine ⟨h, fun y' e q2 => ?_⟩
    cases e
    subst q2
    rw [Bool.or_eq_true, bLt_iff, bLt_iff] at q
    have : (0 : Int32).toInt = 0 := by decide
    omega
  · cases h
theorem idx_of {iv : Int32} {j : Nat} (h : iv.toInt = (j : Int)) : iv.toNatClampNeg = j := by
  show iv.toInt.toNat = j
  rw [h]; rfl
theorem wIdx_ok {v : AV} {w : Value} {k : Nat → Bool} (he : eR θ env) (hv : vR θ v w) (h : wIdx env v cut k = true) : ∃ iv, w = .int iv ∧ ((∃ j : Nat, iv.toInt = (j : Int) ∧ k j = true) ∨ CUT θ cut) := by
  unfold wIdx at h
  split at h
  · obtain ⟨iv, rfl, e⟩ := hv
    exact ⟨iv, rfl, Or.inl ⟨_, e, h⟩⟩
  · rcases lin_ok he hv h with ⟨iv, p, rfl, hp, h⟩ | h
    · refine ⟨iv, rfl, ?_⟩
      obtain ⟨t, a, b⟩ := p
      split at h
      · rename_i j e1 e2
        have e1 : t = 0 := e1
        have e2 : b = Int.ofNat j := e2
        subst e1
        exact Or.inl ⟨j, hp.1.trans e2, h⟩
      · cases h
      · exact Or.inr (cutAll_ok he h)
    · cases h
theorem vin {iv : Int32} {j n : Nat} (h : iv.toInt = (j : Int)) (hj : j < n) : vp_in iv n := vp_in_iff.mpr ⟨by omega, by omega⟩
theorem linChk_ok : ∀ {n : Nat} {l : LW} {x c : Int}, linChk n l x c = true → ∀ i, i < n → l[i]? = some (.inl (x + c * (i : Int)))
  | 0, _, _, _, _, i, hi => by omega
  | n + 1, [], x, c, h, i, hi => by cases (show false = true from h)
  | n + 1, .inr b :: r, x, c, h, i, hi => by cases (show false = true from h)
  | n + 1, .inl y :: r, x, c, h, i, hi => by
    have h1 : (match bEq y x with
        | true => iF (x + c) fun z => linChk n r z c
        | false => false) = true := h
    split at h1
    · rename_i q
      rw [bEq_iff] at q
      subst q
      have h2 := iF_ok h1
      cases i with
      | zero => simp
      | succ i =>
        have := linChk_ok h2 i (by omega)
        rw [List.getElem?_cons_succ, this]
        have e : y + c + c * (i : Int) = y + c * ((i + 1 : Nat) : Int) := by
          rw [Int.natCast_add, Int.mul_add]; simp; omega
        rw [e]
    · cases h1
end NUM
end
section
/-! every instruction of the quick evaluator, with unknown arguments -/
theorem c_0 {θ : Nat → Int32} {l : List AV} {y : PE} (h : cR θ (.inl (0, l)) y) : ∃ g, y = .inl (0, l.length, .inl g) ∧ ∀ (j : Nat) (a : AV), l[j]? = some a → vR θ a (.int (g j)) := by
  rcases y with ⟨t, n, g | g | g | g | g⟩ | ⟨ci, fs⟩
  · rcases t with _ | t
    · obtain ⟨rfl, h⟩ := h; exact ⟨g, rfl, h⟩
    · exact h.elim
  all_goals (first | exact h.elim | (rcases t with _ | _ | _ | _ | t <;> exact h.elim))
theorem c_1 {θ : Nat → Int32} {l : List AV} {y : PE} (h : cR θ (.inl (1, l)) y) : ∃ g, y = .inl (1, l.length, .inr (.inl g)) ∧ ∀ (j : Nat) (a : AV), l[j]? = some a → vR θ a (.long (g j)) := by
  rcases y with ⟨t, n, g | g | g | g | g⟩ | ⟨ci, fs⟩
  · rcases t with _ | _ | t <;> exact h.elim
  · rcases t with _ | _ | t
    · exact h.elim
    · obtain ⟨rfl, h⟩ := h; exact ⟨g, rfl, h⟩
    · exact h.elim
  all_goals (first | exact h.elim | (rcases t with _ | _ | _ | _ | t <;> exact h.elim))
theorem c_2 {θ : Nat → Int32} {l : List AV} {y : PE} (h : cR θ (.inl (2, l)) y) : ∃ g, y = .inl (2, l.length, .inr (.inr (.inr (.inr g)))) ∧ ∀ (j : Nat) (a : AV), l[j]? = some a → vR θ a (va_rf (g j)) := by
  rcases y with ⟨t, n, g | g | g | g | g⟩ | ⟨ci, fs⟩
  · rcases t with _ | _ | _ | t <;> exact h.elim
  · rcases t with _ | _ | _ | t <;> exact h.elim
  · rcases t with _ | _ | _ | t <;> exact h.elim
  · rcases t with _ | _ | _ | t <;> exact h.elim
  · rcases t with _ | _ | _ | t
    · exact h.elim
    · exact h.elim
    · obtain ⟨rfl, h⟩ := h; exact ⟨g, rfl, h⟩
    · exact h.elim
  · exact h.elim
theorem c_3 {θ : Nat → Int32} {l : List AV} {y : PE} (h : cR θ (.inl (3, l)) y) : ∃ g, y = .inl (3, l.length, .inr (.inr (.inr (.inr g)))) ∧ ∀ (j : Nat) (a : AV), l[j]? = some a → vR θ a (va_rf (g j)) := by
  rcases y with ⟨t, n, g | g | g | g | g⟩ | ⟨ci, fs⟩
  · rcases t with _ | _ | _ | _ | t <;> exact h.elim
  · rcases t with _ | _ | _ | _ | t <;> exact h.elim
  · rcases t with _ | _ | _ | _ | t <;> exact h.elim
  · rcases t with _ | _ | _ | _ | t <;> exact h.elim
  · rcases t with _ | _ | _ | _ | t
    · exact h.elim
    · exact h.elim
    · exact h.elim
    · obtain ⟨rfl, h⟩ := h; exact ⟨g, rfl, h⟩
    · exact h.elim
  · exact h.elim
theorem c_o {θ : Nat → Int32} {ci : Nat} {fs : List AV} {y : PE} (h : cR θ (.inr (ci, fs)) y) : ∃ gs, y = .inr (ci, gs) ∧ A2 (vR θ) fs gs := by
  rcases y with ⟨t, n, g⟩ | ⟨cj, gs⟩
  · exact (show False from by rcases t with _ | _ | _ | _ | t <;> rcases g with g | g | g | g | g <;> exact h).elim
  · obtain ⟨rfl, h⟩ := h; exact ⟨gs, rfl, h⟩
theorem c_set0 {θ : Nat → Int32} {l : List AV} {g : Nat → Int32} (hg : ∀ (j : Nat) (a : AV), l[j]? = some a → vR θ a (.int (g j))) {j : Nat} {v : AV} {x : Int32} (hv : vR θ v (.int x)) : cR θ (.inl (0, l.set j v)) (.inl (0, l.length, .inl (upd g j x))) := by
  refine ⟨by simp, fun i a hi => ?_⟩
  by_cases h : j = i
  · subst h
    rw [List.getElem?_set] at hi
    simp only [if_true] at hi
    split at hi
    · cases hi; rw [show upd g j x j = x from if_pos rfl]; exact hv
    · cases hi
  · rw [List.getElem?_set_ne h] at hi
    rw [show upd g j x i = g i from if_neg (fun q => h q.symm)]
    exact hg i a hi
theorem iald_mk {S : Nat × (Nat → Int32)} {h : PH} {i : Int32} {a n : Nat} {g : Nat → Int32} {r : List Value} {k : List Value → Prop} (h1 : h[a]? = some (.inl (0, n, .inl g))) (h2 : vp_in i n) (h3 : k (.int (g i.toNatClampNeg) :: r)) : p_iald S h (.int i :: .ref a :: r) k := by
  simp only [p_iald, h1]; exact ⟨h2, h3⟩
theorem iast_mk {h : PH} {x i : Int32} {a n : Nat} {g : Nat → Int32} {r : List Value} {k : List Value → PH → Prop} (h1 : h[a]? = some (.inl (0, n, .inl g))) (h2 : vp_in i n) (h3 : k r (h.set a (.inl (0, n, .inl (upd g i.toNatClampNeg x))))) : p_iast h (.int x :: .int i :: .ref a :: r) k := by
  simp only [p_iast, h1]; exact ⟨h2, h3⟩
theorem lald_mk {h : PH} {i : Int32} {a n : Nat} {g : Nat → Int64} {r : List Value} {k : List Value → Prop} (h1 : h[a]? = some (.inl (1, n, .inr (.inl g)))) (h2 : vp_in i n) (h3 : k (.long (g i.toNatClampNeg) :: r)) : p_lald h (.int i :: .ref a :: r) k := by
  simp only [p_lald, h1]; exact ⟨h2, h3⟩
theorem last_mk {h : PH} {x : Int64} {i : Int32} {a n : Nat} {g : Nat → Int64} {r : List Value} {k : List Value → PH → Prop} (h1 : h[a]? = some (.inl (1, n, .inr (.inl g)))) (h2 : vp_in i n) (h3 : k r (h.set a (.inl (1, n, .inr (.inl (vp_updL g i.toNatClampNeg x)))))) : p_last h (.long x :: .int i :: .ref a :: r) k := by
  simp only [p_last, h1]; exact ⟨h2, h3⟩
theorem aald_mk {h : PH} {i : Int32} {a n t q : Nat} {g : Nat → Option Nat} {r : List Value} {k : List Value → Prop} (h1 : h[a]? = some (.inl (t, n, .inr (.inr (.inr (.inr g)))))) (ht : t = 2 ∨ t = 3) (h2 : vp_in i n) (hq : g i.toNatClampNeg = some q) (h3 : k (.ref q :: r)) : p_aald h (.int i :: .ref a :: r) k := by
  simp only [p_aald, h1]; exact ⟨ht, h2, q, hq, h3⟩
theorem aast_mk {h : PH} {v : Nat} {i : Int32} {a n : Nat} {g : Nat → Option Nat} {fs : List Value} {r : List Value} {k : List Value → PH → Prop} (h1 : h[a]? = some (.inl (2, n, .inr (.inr (.inr (.inr g)))))) (hv : h[v]? = some (.inr (1, fs))) (h2 : vp_in i n) (h3 : k r (h.set a (.inl (2, n, .inr (.inr (.inr (.inr (va_up g i.toNatClampNeg (some v))))))))) : p_aast h (.ref v :: .int i :: .ref a :: r) k := by
  simp only [p_aast, h1, hv]; exact ⟨h2, h3⟩
theorem alen_mk {S : Nat × (Nat → Int32)} {h : PH} {a t : Nat} {x : vp_A} {r : List Value} {k : List Value → Prop} (h1 : h[a]? = some (.inl (t, x))) (ht : t < 4) (h3 : k (.int (Int32.ofNat x.1) :: r)) : p_alen S h (.ref a :: r) k := by
  simp only [p_alen, h1]; exact ⟨ht, h3⟩
theorem get_mk {h : PH} {ci f a : Nat} {fs : List Value} {v : Value} {r : List Value} {k : List Value → Prop} (h1 : h[a]? = some (.inr (ci, fs))) (hf : f < fnum ci) (hv : fs[f]? = some v) (h3 : k (v :: r)) : p_get h ci f (.ref a :: r) k := by
  simp only [p_get, h1]; exact ⟨trivial, hf, v, hv, h3⟩
theorem put_mk {h : PH} {ci f a : Nat} {fs : List Value} {v : Value} {r : List Value} {k : List Value → PH → Prop} (h1 : h[a]? = some (.inr (ci, fs))) (hf : f < fnum ci) (hl : f < fs.length) (hn : narrow (ftyX ci f) v = v) (hg : fits (ftyX ci f) v = true) (h3 : k r (h.set a (.inr (ci, fs.set f v)))) : p_put h ci f (v :: .ref a :: r) k := by
  simp only [p_put, h1]; exact ⟨trivial, hf, hl, hn, hg, h3⟩
theorem copy_mk {h : PH} {n dp sp : Int32} {a1 a0 n0 n1 : Nat} {f g : Nat → Int32} {r : List Value} {k : List Value → PH → Prop} (h0 : h[a0]? = some (.inl (0, n0, .inl f))) (h1 : h[a1]? = some (.inl (0, n1, .inl g))) (q1 : ¬ sp < 0) (q2 : ¬ dp < 0) (q3 : ¬ n < 0) (q4 : sp.toNatClampNeg + n.toNatClampNeg ≤ n0) (q5 : dp.toNatClampNeg + n.toNatClampNeg ≤ n1) (h3 : k r (h.set a1 (.inl (0, n1, .inl (va_cpy f g sp.toNatClampNeg dp.toNatClampNeg n.toNatClampNeg))))) : p_copy h (.int n :: .int dp :: .ref a1 :: .int sp :: .ref a0 :: r) k := by
  simp only [p_copy, h0, h1]; exact ⟨q1, q2, q3, q4, q5, h3⟩
theorem rf_some {θ : Nat → Int32} {o : Option Nat} {a : Nat} (h : vR θ (.inr (.inr (.ref a))) (va_rf o)) : o = some a := by
  cases o with
  | none => cases (show va_rf none = .ref a from h)
  | some b => cases (show va_rf (some b) = .ref a from h); rfl
theorem cpy_R {θ : Nat → Int32} {l0 l1 : List AV} {f g : Nat → Int32} (hf : ∀ (j : Nat) (a : AV), l0[j]? = some a → vR θ a (.int (f j))) (hg : ∀ (j : Nat) (a : AV), l1[j]? = some a → vR θ a (.int (g j))) {sp dp n : Nat} (h0 : sp + n ≤ l0.length) (h1 : dp + n ≤ l1.length) : cR θ (.inl (0, l1.take dp ++ (l0.drop sp).take n ++ l1.drop (dp + n))) (.inl (0, l1.length, .inl (va_cpy f g sp dp n))) := by
  have e1 : (l1.take dp).length = dp := by rw [List.length_take]; omega
  have e2 : ((l0.drop sp).take n).length = n := by rw [List.length_take, List.length_drop]; omega
  refine ⟨by simp; omega, fun j a hj => ?_⟩
  have key : l1.take dp ++ (l0.drop sp).take n ++ l1.drop (dp + n) = l1.take dp ++ ((l0.drop sp).take n ++ l1.drop (dp + n)) := List.append_assoc _ _ _
  rw [key, List.getElem?_append] at hj
  unfold va_cpy
  split at hj
  · rw [if_neg (by omega)]
    rw [List.getElem?_take_of_lt (by omega)] at hj
    exact hg _ _ hj
  · rw [List.getElem?_append, e1] at hj
    split at hj
    · rw [if_pos (by omega)]
      rw [List.getElem?_take_of_lt (by omega), List.getElem?_drop] at hj
      exact hf _ _ hj
    · rw [if_neg (by omega)]
      rw [List.getElem?_drop, e2] at hj
      exact hg _ _ (by rw [← hj]; congr 1; omega)
theorem c_set1 {θ : Nat → Int32} {l : List AV} {g : Nat → Int64} (hg : ∀ (j : Nat) (a : AV), l[j]? = some a → vR θ a (.long (g j))) {j : Nat} {v : AV} {x : Int64} (hv : vR θ v (.long x)) : cR θ (.inl (1, l.set j v)) (.inl (1, l.length, .inr (.inl (vp_updL g j x)))) := by
  refine ⟨by simp, fun i a hi => ?_⟩
  by_cases h : j = i
  · subst h
    rw [List.getElem?_set] at hi
    simp only [if_true] at hi
    split at hi
    · cases hi; rw [show vp_updL g j x j = x from if_pos rfl]; exact hv
    · cases hi
  · rw [List.getElem?_set_ne h] at hi
    rw [show vp_updL g j x i = g i from if_neg (fun q => h q.symm)]
    exact hg i a hi
theorem c_set2 {θ : Nat → Int32} {l : List AV} {g : Nat → Option Nat} (hg : ∀ (j : Nat) (a : AV), l[j]? = some a → vR θ a (va_rf (g j))) {j v : Nat} : cR θ (.inl (2, l.set j (.inr (.inr (.ref v))))) (.inl (2, l.length, .inr (.inr (.inr (.inr (va_up g j (some v))))))) := by
  refine ⟨by simp, fun i a hi => ?_⟩
  by_cases h : j = i
  · subst h
    rw [List.getElem?_set] at hi
    simp only [if_true] at hi
    split at hi
    · cases hi; rw [show va_up g j (some v) j = some v from if_pos rfl]; rfl
    · cases hi
  · rw [List.getElem?_set_ne h] at hi
    rw [show va_up g j (some v) i = g i from if_neg (fun q => h q.symm)]
    exact hg i a hi
theorem rep_0 {θ : Nat → Int32} (n : Nat) : cR θ (.inl (0, List.replicate n (.inl 0))) (.inl (0, n, .inl (fun _ => 0))) := by
  refine ⟨by simp, fun j a hj => ?_⟩
  rw [List.getElem?_replicate] at hj
  split at hj
  · cases hj; exact ⟨0, rfl, by decide⟩
  · cases hj
theorem rep_1 {θ : Nat → Int32} (n : Nat) : cR θ (.inl (1, List.replicate n (.inr (.inr (.long 0))))) (.inl (1, n, .inr (.inl (fun _ => 0)))) := by
  refine ⟨by simp, fun j a hj => ?_⟩
  rw [List.getElem?_replicate] at hj
  split at hj
  · cases hj; rfl
  · cases hj
theorem rep_2 {θ : Nat → Int32} (n : Nat) : cR θ (.inl (2, List.replicate n aU)) (.inl (2, n, .inr (.inr (.inr (.inr (fun _ => none)))))) := by
  refine ⟨by simp, fun j a hj => ?_⟩
  rw [List.getElem?_replicate] at hj
  split at hj
  · cases hj; rfl
  · cases hj
theorem rep_3 {θ : Nat → Int32} (n m : Nat) : cR θ (.inl (3, (List.range n).map (fun i => aR (m + 1 + i)))) (.inl (3, n, .inr (.inr (.inr (.inr (fun i => if i < n then some (m + 1 + i) else none)))))) := by
  refine ⟨by simp, fun j a hj => ?_⟩
  rw [List.getElem?_map] at hj
  by_cases hjn : j < n
  · rw [List.getElem?_range hjn] at hj
    cases hj
    show vR θ _ (va_rf (if j < n then some (m + 1 + j) else none))
    rw [if_pos hjn]
    rfl
  · rw [List.getElem?_eq_none (by simpa using hjn)] at hj
    cases hj
theorem dflt_R {θ : Nat → Int32} (ci : Nat) (hd : (dflt ci).all noD = true) : A2 (vR θ) (dW ci) (dflt ci) := by
  unfold dW
  revert hd
  generalize dflt ci = l
  intro hd
  induction l with
  | nil => rfl
  | cons v l ih =>
    rw [List.all_cons, Bool.and_eq_true] at hd
    refine ⟨v, l, rfl, ?_, ih hd.2⟩
    cases v <;> first | exact ⟨_, rfl, rfl⟩ | rfl | (cases (show false = true from hd.1))
/-! locals -/
theorem pg_self (lv : LV) (i : Nat) (w : Value) : px_g (px_s1 lv i w) i = some w := by simp [px_g, px_s1]
theorem pg_filt {i j : Nat} (hji : ¬ j = i) : ∀ {lv : LV} {u : Value}, px_g lv j = some u → u.category = 1 → px_g (lv.filter (fun q => !(q.1 == i) && !(q.1 + 1 == i && q.2.category == 2))) j = some u
  | [], u, h, _ => by simp [px_g] at h
  | q :: lv, u, h, hu => by
    by_cases hq : q.1 = j
    · have e : q.2 = u := by
        simp only [px_g, List.find?, hq, beq_self_eq_true] at h
        simpa using h
      have hP : (!(q.1 == i) && !(q.1 + 1 == i && q.2.category == 2)) = true := by
        rw [e, hu, hq]; simp [hji]
      rw [List.filter_cons, if_pos hP]
      simp [px_g, List.find?, hq, e]
    · have h' : px_g lv j = some u := by
        simp only [px_g, List.find?] at h ⊢
        rw [show (q.1 == j) = false by simp [hq]] at h
        exact h
      have ih := pg_filt hji h' hu
      rw [List.filter_cons]
      split
      · simp only [px_g, List.find?] at ih ⊢
        rw [show (q.1 == j) = false by simp [hq]]
        exact ih
      · exact ih
theorem pg_ne {lv : LV} {i j : Nat} {u w : Value} (hji : ¬ j = i) (h : px_g lv j = some u) (hu : u.category = 1) : px_g (px_s1 lv i w) j = some u := by
  have := pg_filt hji h hu
  unfold px_s1
  simp only [px_g, List.find?] at this ⊢
  rw [show (i == j) = false by simp; exact fun q => hji q.symm]
  exact this
theorem lR.set {θ : Nat → Int32} {lv : LW} {lv' : LV} (h : lR θ lv lv') {i : Nat} {v : AV} {w : Value} (hv : vR θ v w) (hc : w.category = 1) : lR θ (lv.set i v) (px_s1 lv' i w) := by
  intro j u hu
  by_cases hij : i = j
  · subst hij
    rw [List.getElem?_set] at hu
    simp only [if_true] at hu
    split at hu
    · cases hu; exact Or.inr ⟨w, pg_self _ _ _, hv, hc⟩
    · cases hu
  · rw [List.getElem?_set_ne hij] at hu
    rcases h j u hu with q | ⟨w2, h1, h2, h3⟩
    · exact Or.inl q
    · exact Or.inr ⟨w2, pg_ne (fun q => hij q.symm) h1 h3, h2, h3⟩
/-! the heap -/
theorem hR.at {θ : Nat → Int32} {m : Nat} {h : HT} {h' : PH} (H : hR θ m h h') {a : Nat} {c : AE} (hc : hget h a = some c) (hn : ¬ c = .inl (99, [])) : ∃ y, h'[a]? = some y ∧ cR θ c y := (H.2 a c hc).resolve_left hn
theorem hR.set {θ : Nat → Int32} {m : Nat} {h h2 : HT} {h' : PH} (H : hR θ m h h') {a : Nat} {v : AE} {y y0 : PE} (ha : h'[a]? = some y0) (hs : ∀ b, hget h2 b = if b = a then some v else hget h b) (hc : cR θ v y) : hR θ m h2 (h'.set a y) := by
  have hl : a < h'.length := (List.getElem?_eq_some_iff.mp ha).1
  refine ⟨by rw [List.length_set]; exact H.1, fun b c hb => ?_⟩
  rw [hs] at hb
  split at hb
  · rename_i e
    cases hb
    subst e
    exact Or.inr ⟨y, List.getElem?_set_self hl, hc⟩
  · rename_i e
    rcases H.2 b c hb with q | ⟨y2, h1, h2⟩
    · exact Or.inl q
    · exact Or.inr ⟨y2, by rw [List.getElem?_set_ne (fun q => e q.symm)]; exact h1, h2⟩
theorem hR.push {θ : Nat → Int32} {m : Nat} {h h2 : HT} {h' : PH} (H : hR θ m h h') {v : AE} {y : PE} (hs : ∀ b, hget h2 b = if b = m then some v else hget h b) (hc : cR θ v y) : hR θ (m + 1) h2 (h' ++ [y]) := by
  have hm := H.1
  refine ⟨by simp; exact hm, fun b c hb => ?_⟩
  rw [hs] at hb
  split at hb
  · rename_i e
    cases hb
    refine Or.inr ⟨y, ?_, hc⟩
    rw [e, ← hm]; simp
  · rcases H.2 b c hb with q | ⟨y2, h1, h2⟩
    · exact Or.inl q
    · exact Or.inr ⟨y2, by rw [List.getElem?_append_left (List.getElem?_eq_some_iff.mp h1).1]; exact h1, h2⟩
theorem rowsF_ok {θ : Nat → Int32} {row : LW} {y : PE} (hc : cR θ (.inl (0, row)) y) : ∀ {z b : Nat} {h : HT} {k : HT → Bool} {h' : PH}, rowsF row z b h k = true → hR θ b h h' → ∃ h2, k h2 = true ∧ hR θ (b + z) h2 (h' ++ List.replicate z y)
  | 0, b, h, k, h', H, hh => ⟨h, H, by simpa using hh⟩
  | z + 1, b, h, k, h', H, hh => by
    obtain ⟨h2, H, -, hs⟩ := hset_ok (show hset h b (.inl (0, row)) (fun h => natF (b + 1) fun b1 => rowsF row z b1 h k) = true from H)
    obtain ⟨h3, H3, hh3⟩ := rowsF_ok hc (natF_ok H) (hh.push hs hc)
    refine ⟨h3, H3, ?_⟩
    rw [List.append_assoc] at hh3
    rw [show b + (z + 1) = b + 1 + z by omega, List.replicate_succ]
    exact hh3
theorem refsF_ok : ∀ {z b : Nat} {k : LW → Bool}, refsF z b k = true → k ((List.range z).map (fun i => aR (b + i))) = true
  | 0, b, k, h => h
  | z + 1, b, k, h => by
    have h1 := natF_ok (show natF (b + 1) (fun b1 => refsF z b1 fun l => k (.inr (.inr (.ref b)) :: l)) = true from h)
    have h2 := refsF_ok h1
    rw [List.range_succ_eq_map, List.map_cons, List.map_map]
    have e : (fun i => aR (b + i)) ∘ Nat.succ = fun i => aR (b + 1 + i) := by
      funext i; show aR (b + (i + 1)) = _; rw [show b + (i + 1) = b + 1 + i by omega]
    rw [e]
    exact h2
theorem vR.cat {θ : Nat → Int32} {a : AV} {w : Value} (h : vR θ a w) : w.category = wCat a := by
  rcases a with x | ⟨_ | t, r⟩ | v
  · obtain ⟨y, rfl, -⟩ := h; rfl
  · obtain ⟨y, rfl, -⟩ := h; rfl
  · obtain ⟨y, rfl, -⟩ := h; rfl
  · cases v
    case double z => obtain ⟨y, rfl, -⟩ := h; rfl
    all_goals (rw [show w = _ from h]; rfl)
theorem w1_ok {θ : Nat → Int32} {a : AV} {w : Value} (h : w1 a = true) (hv : vR θ a w) : w.category = 1 := by
  rw [hv.cat]
  rcases a with x | x | v
  · rfl
  · rfl
  · exact beq_iff.mp h
theorem cats_ok {θ : Nat → Int32} : ∀ {l : LW} {l' : List Value}, A2 (vR θ) l l' → (l'.map Value.category).sum = cats l
  | [], _, h => by rw [show _ = [] from h]; rfl
  | a :: as, _, ⟨_, _, e, q, t⟩ => by subst e; rw [List.map_cons, List.sum_cons, q.cat, cats_ok t]; rfl
theorem sRead_ok {θ : Nat → Int32} {env : EV} {i : AV} {l : LW} {cut : List EV → Bool} {k : AV → Bool} {w : Value} (he : eR θ env) (hi : vR θ i w) (h : sRead env i l cut k = true) : ∃ iv, w = .int iv ∧ ((∃ (j : Nat) (a v : AV), iv.toInt = (j : Int) ∧ l[j]? = some a ∧ k v = true ∧ ∀ u, vR θ a u → vR θ v u) ∨ CUT θ cut) := by
  unfold sRead at h
  obtain ⟨iv, lo, hi2, rfl, a1, a2, h⟩ := rK_ok he hi h
  refine ⟨iv, rfl, ?_⟩
  have idx : (wIdx env i cut fun j => (match lget l j with
        | some v => k v
        | none => false)) = true → ((∃ (j : Nat) (a v : AV), iv.toInt = (j : Int) ∧ l[j]? = some a ∧ k v = true ∧ ∀ u, vR θ a u → vR θ v u) ∨ CUT θ cut) := by
    intro h
    obtain ⟨iv2, e, h⟩ := wIdx_ok he hi h
    cases e
    rcases h with ⟨j, hj, h⟩ | h
    · rw [lget_eq] at h
      split at h
      · rename_i v hv
        exact Or.inl ⟨j, v, v, hj, hv, h, fun _ q => q⟩
      · cases h
    · exact Or.inr h
  split at h
  · rename_i j w hw
    have hw' : hi2 - (Int.ofNat j) = (w : Int) := hw
    split at h
    · rename_i x y r hr
      rw [ldrop_eq] at hr
      split at h
      · rename_i hlin
        have h0 : 0 ≤ iv.toInt := Int.le_trans (Int.natCast_nonneg j) a1
        have a1' : (j : Int) ≤ iv.toInt := a1
        have hw2 : hi2 - (j : Int) = (w : Int) := hw'
        have hl := linChk_ok hlin (iv.toInt.toNat - j) (by omega)
        have hj : iv.toInt = ((iv.toInt.toNat : Nat) : Int) := by omega
        have hget : l[iv.toInt.toNat]? = some (.inl (x + (y - x) * ((iv.toInt.toNat - j : Nat) : Int))) := by
          have e : l[iv.toInt.toNat]? = (l.drop j)[iv.toInt.toNat - j]? := by
            rw [List.getElem?_drop]; congr 1; omega
          rw [e, hr]; exact hl
        split at h
        · rename_i hxy
          rw [bEq_iff] at hxy
          refine Or.inl ⟨_, _, _, hj, hget, h, fun u hu => ?_⟩
          rw [hxy, Int.sub_self, Int.zero_mul, Int.add_zero] at hu
          rw [hxy]
          exact hu
        · split at h
          · rename_i t a b _
            obtain ⟨iv2, e, ea⟩ := hi
            cases e
            refine Or.inl ⟨_, _, _, hj, hget, h, fun u hu => ?_⟩
            obtain ⟨z, rfl, ez⟩ := hu
            refine ⟨z, rfl, ?_⟩
            rw [ez]
            have e1 : ((iv.toInt.toNat - j : Nat) : Int) = a * (θ t).toInt + b - (j : Int) := by omega
            rw [e1]
            show _ = (y - x) * a * (θ t).toInt + ((y - x) * b + x - (y - x) * (j : Int))
            rw [Int.mul_sub, Int.mul_add, Int.mul_assoc]
            omega
          · cases h
      · exact idx h
    · exact idx h
  · cases h
theorem wRead_ok {θ : Nat → Int32} {env : EV} {i : AV} {l : LW} {cut : List EV → Bool} {k : AV → Bool} {w : Value} (he : eR θ env) (hi : vR θ i w) (h : wRead env i l cut k = true) : ∃ iv, w = .int iv ∧ ((∃ (j : Nat) (a v : AV), iv.toInt = (j : Int) ∧ l[j]? = some a ∧ k v = true ∧ ∀ u, vR θ a u → vR θ v u) ∨ CUT θ cut) := by
  unfold wRead at h
  split at h
  · rename_i j
    obtain ⟨iv, rfl, e⟩ := hi
    rw [lget_eq] at h
    split at h
    · rename_i v hv
      exact ⟨iv, rfl, Or.inl ⟨j, v, v, e, hv, h, fun _ q => q⟩⟩
    · cases h
  · rcases lin_ok he hi h with ⟨iv, p, rfl, hp, h⟩ | h
    · obtain ⟨t, a, b⟩ := p
      split at h
      · rename_i j e1 e2
        have e1 : t = 0 := e1
        have e2 : b = Int.ofNat j := e2
        subst e1
        rw [lget_eq] at h
        split at h
        · rename_i v hv
          exact ⟨iv, rfl, Or.inl ⟨j, v, v, hp.1.trans e2, hv, h, fun _ q => q⟩⟩
        · cases h
      · cases h
      · exact sRead_ok he hi h
    · exact sRead_ok he hi h
def POK (θ : Nat → Int32) (L : Nat) (C : Nat → List Value → PH → (Rs → PH → Prop) → Prop) (M : PM) (hd : HD4) (Q : Rs → PH → Prop) (K : Kt) (f : OPF) (te : TE) : Prop :=
  ∀ (env : EV) (lv st : LW) (m : Nat) (h : HT) (c s : Nat) (go : GO) (cut : List EV → Bool) (call : Nat → Bool → Bool) (ret : AQ → Bool) (lv' : LV) (st' : List Value) (h' : PH),
    eR θ env → lR θ lv lv' → A2 (vR θ) st st' → hR θ m h h' →
    (∀ pc2 lv2 st2 m2 h2 c2 s2, go pc2 lv2 st2 m2 h2 c2 s2 = true → ∀ lv2' st2' h2', lR θ lv2 lv2' → A2 (vR θ) st2 st2' → hR θ m2 h2 h2' → K pc2 lv2' st2' h2' c2 s2) →
    (∀ μ virt, call μ virt = true → p_call C M hd Q K te.1 μ virt lv' st' h' c s) →
    (∀ q, ret q = true → ∀ r, resR θ q r → Q r h') →
    f (L, M, hd) env lv st m h c s go cut call ret = true →
    CUT θ cut ∨ pmI C (L, θ) M hd Q K te lv' st' h' c s
section OPS
variable {θ : Nat → Int32} {L : Nat} {C : Nat → List Value → PH → (Rs → PH → Prop) → Prop} {M : PM} {hd : HD4} {Q : Rs → PH → Prop} {K : Kt} {pc ta tb : Nat}
theorem k_no {te : TE} : POK θ L C M hd Q K o_no te := by
  intro env lv st m h c s go cut call ret lv' st' h' he hlv hst hh hgo hcall hret H
  cases (show false = true from H)
theorem k_push {te : TE} {v : AV} {w : Value} {n : Nat} (hv : vR θ v w) (hp : ∀ (lv' : LV) (st' : List Value) (h' : PH) (c s : Nat), K n lv' (w :: st') h' c s → pmI C (L, θ) M hd Q K te lv' st' h' c s) : POK θ L C M hd Q K (o_push v n) te := by
  intro env lv st m h c s go cut call ret lv' st' h' he hlv hst hh hgo hcall hret H
  exact Or.inr (hp _ _ _ _ _ (hgo _ _ _ _ _ _ _ H _ _ _ hlv ⟨_, _, rfl, hv, hst⟩ hh))
theorem k_iload {te : TE} {i n : Nat} (hp : ∀ (lv' : LV) (st' : List Value) (h' : PH) (c s : Nat), (∃ x, px_g lv' i = some (.int x) ∧ K n lv' (.int x :: st') h' c s) → pmI C (L, θ) M hd Q K te lv' st' h' c s) : POK θ L C M hd Q K (o_iload i n) te := by
  intro env lv st m h c s go cut call ret lv' st' h' he hlv hst hh hgo hcall hret H
  unfold o_iload at H
  rw [lget_eq] at H
  split at H
  · rename_i v hv
    split at H
    · rename_i hn
      rcases hlv _ _ hv with rfl | ⟨w, hw, hvw, -⟩
      · cases (show false = true from hn)
      · obtain ⟨y, rfl⟩ := isNum_ok hn hvw
        exact Or.inr (hp _ _ _ _ _ ⟨y, hw, hgo _ _ _ _ _ _ _ H _ _ _ hlv ⟨_, _, rfl, hvw, hst⟩ hh⟩)
    · cases H
  · cases H
theorem k_aload {te : TE} {i n : Nat} (hp : ∀ (lv' : LV) (st' : List Value) (h' : PH) (c s : Nat), (∃ v, px_g lv' i = some v ∧ (∃ a, v = .ref a ∨ v = .retAddr a) ∧ K n lv' (v :: st') h' c s) → pmI C (L, θ) M hd Q K te lv' st' h' c s) : POK θ L C M hd Q K (o_aload i n) te := by
  intro env lv st m h c s go cut call ret lv' st' h' he hlv hst hh hgo hcall hret H
  unfold o_aload at H
  rw [lget_eq] at H
  split at H
  · rename_i a hv
    rcases hlv _ _ hv with q | ⟨w, hw, hvw, -⟩
    · cases q
    · exact Or.inr (hp _ _ _ _ _ ⟨w, hw, ⟨a, Or.inl hvw⟩, hgo _ _ _ _ _ _ _ H _ _ _ hlv ⟨_, _, rfl, hvw, hst⟩ hh⟩)
  · rename_i a hv
    rcases hlv _ _ hv with q | ⟨w, hw, hvw, -⟩
    · cases q
    · exact Or.inr (hp _ _ _ _ _ ⟨w, hw, ⟨a, Or.inr hvw⟩, hgo _ _ _ _ _ _ _ H _ _ _ hlv ⟨_, _, rfl, hvw, hst⟩ hh⟩)
  · cases H
theorem k_istore {te : TE} {i n : Nat} (hp : ∀ (lv' : LV) (st' : List Value) (h' : PH) (c s : Nat), (i < pL M ∧ on1 st' fun x r => K n (px_s1 lv' i (.int x)) r h' c s) → pmI C (L, θ) M hd Q K te lv' st' h' c s) : POK θ L C M hd Q K (o_istore i n) te := by
  intro env lv st m h c s go cut call ret lv' st' h' he hlv hst hh hgo hcall hret H
  unfold o_istore at H
  split at H
  · obtain ⟨w, r', rfl, hw, hr⟩ := hst
    split at H
    · rename_i hn
      rw [Bool.and_eq_true, blt_iff] at hn
      obtain ⟨y, rfl⟩ := isNum_ok hn.1 hw
      obtain ⟨-, H⟩ := lset_ok H
      exact Or.inr (hp _ _ _ _ _ ⟨hn.2, hgo _ _ _ _ _ _ _ H _ _ _ (hlv.set hw rfl) hr hh⟩)
    · cases H
  · cases H
theorem k_astore {te : TE} {i n : Nat} (hp : ∀ (lv' : LV) (st' : List Value) (h' : PH) (c s : Nat), (i < pL M ∧ onR st' fun x r => K n (px_s1 lv' i (.ref x)) r h' c s) → pmI C (L, θ) M hd Q K te lv' st' h' c s) : POK θ L C M hd Q K (o_astore i n) te := by
  intro env lv st m h c s go cut call ret lv' st' h' he hlv hst hh hgo hcall hret H
  unfold o_astore at H
  split at H
  · rename_i a r
    obtain ⟨w, r', rfl, hw, hr⟩ := hst
    obtain rfl : w = .ref a := hw
    split at H
    · rename_i hn
      rw [blt_iff] at hn
      obtain ⟨-, H⟩ := lset_ok H
      exact Or.inr (hp _ _ _ _ _ ⟨hn, hgo _ _ _ _ _ _ _ H _ _ _ (hlv.set (show vR θ (.inr (.inr (.ref a))) (.ref a) from rfl) rfl) hr hh⟩)
    · cases H
  · cases H
theorem k_iinc {i : Nat} {z : Int} (hz : inI z z = true) : POK θ L C M hd Q K (o_iinc i z (pc + 3)) (pc, .iinc i z, ta, tb) := by
  intro env lv st m h c s go cut call ret lv' st' h' he hlv hst hh hgo hcall hret H
  unfold o_iinc at H
  rw [lget_eq] at H
  split at H
  · rename_i v hv
    split at H
    · rename_i hn
      rw [Bool.and_eq_true, blt_iff] at hn
      rcases hlv _ _ hv with rfl | ⟨w, hw, hvw, -⟩
      · cases (show false = true from hn.1)
      · rw [inI_iff] at hz
        have hzz : (Int32.ofInt z).toInt = z := (Int32.toInt_ofInt (n := z)).trans (bm hz.1 hz.2)
        obtain ⟨xv, yv, rfl, ey, q⟩ := wAdd_ok (y := .inl z) (wy := .int (Int32.ofInt z)) he hvw ⟨_, rfl, hzz⟩ H
        cases ey
        rcases q with ⟨v2, H, hv2⟩ | q
        · obtain ⟨-, H⟩ := lset_ok H
          exact Or.inr ⟨hn.2, xv, hw, hgo _ _ _ _ _ _ _ H _ _ _ (hlv.set hv2 rfl) hst hh⟩
        · exact Or.inl q
    · cases H
  · cases H
theorem k_iadd : POK θ L C M hd Q K (o_iadd (pc + 1)) (pc, .iadd, ta, tb) := by
  intro env lv st m h c s go cut call ret lv' st' h' he hlv hst hh hgo hcall hret H
  unfold o_iadd at H
  split at H
  · obtain ⟨w, _, rfl, hy, w2, r', rfl, hx, hr⟩ := hst
    obtain ⟨xv, yv, rfl, rfl, q⟩ := wAdd_ok he hx hy H
    rcases q with ⟨v, H, hv⟩ | q
    · exact Or.inr (hgo _ _ _ _ _ _ _ H _ _ _ hlv ⟨_, _, rfl, hv, hr⟩ hh)
    · exact Or.inl q
  · cases H
theorem k_isub : POK θ L C M hd Q K (o_isub (pc + 1)) (pc, .isub, ta, tb) := by
  intro env lv st m h c s go cut call ret lv' st' h' he hlv hst hh hgo hcall hret H
  unfold o_isub at H
  split at H
  · obtain ⟨w, _, rfl, hy, w2, r', rfl, hx, hr⟩ := hst
    obtain ⟨xv, yv, rfl, rfl, q⟩ := wSub_ok he hx hy H
    rcases q with ⟨v, H, hv⟩ | q
    · exact Or.inr (hgo _ _ _ _ _ _ _ H _ _ _ hlv ⟨_, _, rfl, hv, hr⟩ hh)
    · exact Or.inl q
  · cases H
theorem k_imul : POK θ L C M hd Q K (o_imul (pc + 1)) (pc, .imul, ta, tb) := by
  intro env lv st m h c s go cut call ret lv' st' h' he hlv hst hh hgo hcall hret H
  unfold o_imul at H
  split at H
  · obtain ⟨w, _, rfl, hy, w2, r', rfl, hx, hr⟩ := hst
    obtain ⟨xv, yv, rfl, rfl, q⟩ := wMul_ok he hx hy H
    rcases q with ⟨v, H, hv⟩ | q
    · exact Or.inr (hgo _ _ _ _ _ _ _ H _ _ _ hlv ⟨_, _, rfl, hv, hr⟩ hh)
    · exact Or.inl q
  · cases H
theorem k_any {te : TE} {f : Int32 → Int32 → Int32} {n : Nat} (hp : ∀ (lv' : LV) (r : List Value) (x y : Int32) (h' : PH) (c s : Nat), K n lv' (.int (f x y) :: r) h' c s → pmI C (L, θ) M hd Q K te lv' (.int y :: .int x :: r) h' c s) : POK θ L C M hd Q K (o_any f n) te := by
  intro env lv st m h c s go cut call ret lv' st' h' he hlv hst hh hgo hcall hret H
  unfold o_any at H
  split at H
  · obtain ⟨w, _, rfl, hy, w2, r', rfl, hx, hr⟩ := hst
    obtain ⟨xv, yv, rfl, rfl, v, H, hv⟩ := wAny_ok he hx hy H
    exact Or.inr (hp _ _ _ _ _ _ _ (hgo _ _ _ _ _ _ _ H _ _ _ hlv ⟨_, _, rfl, hv, hr⟩ hh))
  · cases H
theorem k_idiv : POK θ L C M hd Q K (o_idiv (pc + 1)) (pc, .idiv, ta, tb) := by
  intro env lv st m h c s go cut call ret lv' st' h' he hlv hst hh hgo hcall hret H
  unfold o_idiv at H
  split at H
  · obtain ⟨w, _, rfl, hy, w2, r', rfl, hx, hr⟩ := hst
    obtain ⟨H, hz⟩ := wNz_ok he hy H
    obtain ⟨xv, yv, rfl, rfl, v, H, hv⟩ := wAny_ok he hx hy H
    exact Or.inr ⟨hz yv rfl, hgo _ _ _ _ _ _ _ H _ _ _ hlv ⟨_, _, rfl, hv, hr⟩ hh⟩
  · cases H
theorem rem1 (x y : Int32) (h : y.toInt = 1) : x - x / y * y = 0 := by
  have hy : y = 1 := toInt_inj (by rw [h]; decide)
  subst hy
  apply toInt_inj
  have h1 : (1 : Int32).toInt = 1 := by decide
  have h0 : (0 : Int32).toInt = 0 := by decide
  have hx := i32_rng x
  have e : (x / 1 * 1 : Int32).toInt = x.toInt := by
    rw [Int32.toInt_mul, Int32.toInt_div, h1, Int.tdiv_one, Int.mul_one]
    show ((x.toInt).bmod 4294967296).bmod 4294967296 = _
    rw [bm hx.1 hx.2, bm hx.1 hx.2]
  rw [Int32.toInt_sub, e, Int.sub_self, h0]
  decide
theorem k_irem : POK θ L C M hd Q K (o_irem (pc + 1)) (pc, .irem, ta, tb) := by
  intro env lv st m h c s go cut call ret lv' st' h' he hlv hst hh hgo hcall hret H
  unfold o_irem at H
  split at H
  · obtain ⟨w, _, rfl, hy, w2, r', rfl, hx, hr⟩ := hst
    split at H
    · split at H
      · rename_i hn
        obtain ⟨xv, rfl⟩ := isNum_ok hn hx
        obtain ⟨yv, rfl, e⟩ := hy
        refine Or.inr ⟨fun q => ?_, ?_⟩
        · subst q
          have h0 : (0 : Int32).toInt = 0 := by decide
          rw [h0] at e
          cases e
        · rw [rem1 xv yv e]
          exact hgo _ _ _ _ _ _ _ H _ _ _ hlv ⟨_, _, rfl, ⟨0, rfl, by decide⟩, hr⟩ hh
      · cases H
    · obtain ⟨H, hz⟩ := wNz_ok he hy H
      obtain ⟨xv, yv, rfl, rfl, v, H, hv⟩ := wAny_ok he hx hy H
      exact Or.inr ⟨hz yv rfl, hgo _ _ _ _ _ _ _ H _ _ _ hlv ⟨_, _, rfl, hv, hr⟩ hh⟩
  · cases H
theorem k_ineg : POK θ L C M hd Q K (o_ineg (pc + 1)) (pc, .ineg, ta, tb) := by
  intro env lv st m h c s go cut call ret lv' st' h' he hlv hst hh hgo hcall hret H
  unfold o_ineg at H
  split at H
  · obtain ⟨w, r', rfl, hx, hr⟩ := hst
    obtain ⟨xv, yv, rfl, -, v, H, hv⟩ := wAny_ok (y := .inl 0) (wy := .int 0) he hx ⟨0, rfl, by decide⟩ H
    exact Or.inr (hgo _ _ _ _ _ _ _ H _ _ _ hlv ⟨_, _, rfl, hv, hr⟩ hh)
  · cases H
theorem k_i2l : POK θ L C M hd Q K (o_i2l (pc + 1)) (pc, .i2l, ta, tb) := by
  intro env lv st m h c s go cut call ret lv' st' h' he hlv hst hh hgo hcall hret H
  unfold o_i2l at H
  split at H
  · obtain ⟨w, r', rfl, hx, hr⟩ := hst
    rcases lin_ok he hx H with ⟨xv, p, rfl, hp, H⟩ | H
    · obtain ⟨t, a, b⟩ := p
      split at H
      · rename_i e1
        have e1 : t = 0 := e1
        subst e1
        have e2 : xv.toInt = b := hp.1
        refine Or.inr (hgo _ _ _ _ _ _ _ H _ _ _ hlv ⟨_, _, rfl, ?_, hr⟩ hh)
        show Value.long _ = .long _
        rw [← e2, Int32.ofInt_toInt]
      · rename_i t1 e1
        have e1 : t = t1 + 1 := e1
        subst e1
        split at H
        · rename_i hc
          rw [Bool.and_eq_true, Bool.and_eq_true, beq_iff, bEq_iff, bEq_iff] at hc
          refine Or.inr (hgo _ _ _ _ _ _ _ H _ _ _ hlv ⟨_, _, rfl, ⟨xv, rfl, ?_⟩, hr⟩ hh)
          rw [hc.1, hc.2.1, hc.2.2]
          exact hp
        · cases H
    · cases H
  · cases H
theorem k_lcmp : POK θ L C M hd Q K (o_lcmp (pc + 1)) (pc, .lcmp, ta, tb) := by
  intro env lv st m h c s go cut call ret lv' st' h' he hlv hst hh hgo hcall hret H
  unfold o_lcmp at H
  split at H
  · obtain ⟨w, _, rfl, hy, w2, r', rfl, hx, hr⟩ := hst
    obtain rfl : w = _ := hy
    obtain rfl : w2 = _ := hx
    exact Or.inr (hgo _ _ _ _ _ _ _ H _ _ _ hlv ⟨_, _, rfl, ⟨_, rfl, rfl⟩, hr⟩ hh)
  · obtain ⟨w, _, rfl, hy, w2, r', rfl, hx, hr⟩ := hst
    split at H
    · rename_i hc
      rw [beq_iff] at hc
      obtain ⟨yv, rfl, ey⟩ := hy
      obtain ⟨xv, rfl, ex⟩ := hx
      have e : xv = yv := toInt_inj (by rw [ex, ey]; unfold dA dB dT; rw [hc])
      subst e
      refine Or.inr (hgo _ _ _ _ _ _ _ H _ _ _ hlv ⟨_, _, rfl, ⟨_, rfl, ?_⟩, hr⟩ hh)
      have : lg_cmp xv.toInt64 xv.toInt64 = 0 := by unfold lg_cmp; simp
      rw [this]; decide
    · cases H
  · cases H
theorem k_dup : POK θ L C M hd Q K (o_dup (pc + 1)) (pc, .dup, ta, tb) := by
  intro env lv st m h c s go cut call ret lv' st' h' he hlv hst hh hgo hcall hret H
  unfold o_dup at H
  split at H
  · obtain ⟨w, r', rfl, hx, hr⟩ := hst
    split at H
    · rename_i hn
      exact Or.inr ⟨w, r', rfl, w1_ok hn hx, hgo _ _ _ _ _ _ _ H _ _ _ hlv ⟨_, _, rfl, hx, _, _, rfl, hx, hr⟩ hh⟩
    · cases H
  · cases H
theorem k_dup2 : POK θ L C M hd Q K (o_dup2 (pc + 1)) (pc, .dup2, ta, tb) := by
  intro env lv st m h c s go cut call ret lv' st' h' he hlv hst hh hgo hcall hret H
  unfold o_dup2 at H
  split at H
  · obtain ⟨w, _, rfl, hx, w2, r', rfl, hy, hr⟩ := hst
    split at H
    · rename_i hn
      rw [Bool.and_eq_true] at hn
      exact Or.inr ⟨w, w2, r', rfl, w1_ok hn.1 hx, w1_ok hn.2 hy, hgo _ _ _ _ _ _ _ H _ _ _ hlv ⟨_, _, rfl, hx, _, _, rfl, hy, _, _, rfl, hx, _, _, rfl, hy, hr⟩ hh⟩
    · cases H
  · cases H
theorem k_pop : POK θ L C M hd Q K (o_pop (pc + 1)) (pc, .pop, ta, tb) := by
  intro env lv st m h c s go cut call ret lv' st' h' he hlv hst hh hgo hcall hret H
  unfold o_pop at H
  split at H
  · obtain ⟨w, r', rfl, hx, hr⟩ := hst
    split at H
    · rename_i hn
      exact Or.inr ⟨w, r', rfl, w1_ok hn hx, hgo _ _ _ _ _ _ _ H _ _ _ hlv hr hh⟩
    · cases H
  · cases H
theorem k_goto {z : Int} (h0 : 0 ≤ (pc : Int) + z) : POK θ L C M hd Q K (o_goto ((pc : Int) + z).toNat) (pc, .goto z, ta, tb) := by
  intro env lv st m h c s go cut call ret lv' st' h' he hlv hst hh hgo hcall hret H
  exact Or.inr ⟨h0, hgo _ _ _ _ _ _ _ H _ _ _ hlv hst hh⟩
theorem k_if {cc : ClassFile.Cond} {z : Int} (h0 : 0 ≤ (pc : Int) + z) : POK θ L C M hd Q K (o_if cc ((pc : Int) + z).toNat (pc + 3)) (pc, .ifCond cc z, ta, tb) := by
  intro env lv st m h c s go cut call ret lv' st' h' he hlv hst hh hgo hcall hret H
  unfold o_if at H
  split at H
  · obtain ⟨w, r', rfl, hx, hr⟩ := hst
    obtain ⟨xv, yv, rfl, ey, q⟩ := wBr_ok (y := .inl 0) (wy := .int 0) he hx ⟨0, rfl, by decide⟩ H
    cases ey
    rcases q with ⟨hc, H⟩ | ⟨hc, H⟩ | q
    · exact Or.inr ⟨h0, fun _ => hgo _ _ _ _ _ _ _ H _ _ _ hlv hr hh, fun q => absurd hc q⟩
    · exact Or.inr ⟨h0, fun q => absurd q hc, fun _ => hgo _ _ _ _ _ _ _ H _ _ _ hlv hr hh⟩
    · exact Or.inl q
  · cases H
theorem k_icmp {cc : ClassFile.Cond} {z : Int} (h0 : 0 ≤ (pc : Int) + z) : POK θ L C M hd Q K (o_icmp cc ((pc : Int) + z).toNat (pc + 3)) (pc, .if_icmp cc z, ta, tb) := by
  intro env lv st m h c s go cut call ret lv' st' h' he hlv hst hh hgo hcall hret H
  unfold o_icmp at H
  split at H
  · obtain ⟨w, _, rfl, hy, w2, r', rfl, hx, hr⟩ := hst
    obtain ⟨xv, yv, rfl, rfl, q⟩ := wBr_ok he hx hy H
    rcases q with ⟨hc, H⟩ | ⟨hc, H⟩ | q
    · exact Or.inr ⟨h0, fun _ => hgo _ _ _ _ _ _ _ H _ _ _ hlv hr hh, fun q => absurd hc q⟩
    · exact Or.inr ⟨h0, fun q => absurd q hc, fun _ => hgo _ _ _ _ _ _ _ H _ _ _ hlv hr hh⟩
    · exact Or.inl q
  · cases H
end OPS
end

def xct (e : Nat) : Nat := match e with
  | 0 => 13
  | 1 => 15
  | 2 => 32
  | 3 => 44
  | _ => 0
theorem xct_ok : ∀ e, e < 4 → Cond.classLink RL (xct e) (xnm.getD e "") ∈ lw_tbl
  | 0, _ => in_t3 (List.mem_of_getElem? (i := 63) rfl)
  | 1, _ => in_t3 (List.mem_of_getElem? (i := 64) rfl)
  | 2, _ => in_t3 (List.mem_of_getElem? (i := 195) rfl)
  | 3, _ => in_t4 (List.mem_of_getElem? (i := 10) rfl)
  | n + 4, h => absurd h (by omega)
theorem xcs_ok : ∀ e, e < 4 → Cond.castable (xnm.getD e "") (xnm.getD e "") ∈ lw_tbl
  | 0, _ => in_t3 (List.mem_of_getElem? (i := 74) rfl)
  | 1, _ => in_t3 (List.mem_of_getElem? (i := 147) rfl)
  | 2, _ => in_t3 (List.mem_of_getElem? (i := 206) rfl)
  | 3, _ => in_t4 (List.mem_of_getElem? (i := 20) rfl)
  | n + 4, h => absurd h (by omega)
/-- the rows of the tables of exceptions: caught, put away, a number is returned -/
def hkOK (cc : ByteArray) (nL : Nat) (r : (Nat × Nat × Nat × Int) × Nat × Nat) : Bool :=
  decide (r.1.2.2.1 < 4) && r.2.2 == xct r.1.2.2.1 && ((List.range 16).any (fun k => dcd cc r.2.1 (.astore k) 2 && decide (k < nL) && dcd cc (r.2.1 + 2) (.iconst r.1.2.2.2) 1 && dcd cc (r.2.1 + 3) .ireturn 1) || ([0, 1, 2, 3] : List (Fin 4)).any (fun k => dcd cc r.2.1 (.astore_n k) 1 && decide ((k : Nat) < nL) && dcd cc (r.2.1 + 1) (.iconst r.1.2.2.2) 1 && dcd cc (r.2.1 + 2) .ireturn 1))
noncomputable def hqOK (q : Nat × List ((Nat × Nat × Nat × Int) × Nat × Nat)) : Bool := match MT[q.1]? with
  | some M => q.2.all (hkOK (pB M) (pL M)) && decide (pR M = some .int) && decide (pO M = 11)
  | none => false
set_option maxRecDepth 100000 in
theorem HDq_ok : HDq.all hqOK = true := by decide +kernel
theorem nw_on {w : Cond} (h : nwOK w = true) : w.onTables = true := by
  cases w <;> first | rfl | (exact absurd h (by simp [nwOK]))
section FN2
variable {p : Program} {l : Launch} {e : Env} {R : Room} {s : State} {m : MethodId} {args : Array Value} {below : List Frame} {meth : Method} {c : Code} {D : va_G} {cy : Nat → ClassId} {b : Option Nat} {S : Nat × (Nat → Int32)} {M : PM} {ws0 : va_W} {n : Nat}
theorem xc_of {Q : Rs → PH → Prop} {E : String} {x : Nat} {h : PH} {ws : va_W} {H : Heap} {locs : List Loc} (hI : INV D cy (va_A ws0 s.heap.size) b s ws0 h ws H locs) (hxe : xnm[x]? = some E) (hq : Q (.inr x) h) (t : State) (h1 : H.size ≤ t.heap.size) (h2 : ∀ q : Nat, q < H.size → t.heap[q]? = H[q]?) : XcP D cy b ws0 s.heap.size Q E s t := by
  obtain ⟨hex, hrE, hP, hD, hS⟩ := hI
  exact ⟨⟨x, h, ws, hxe, hq, hex, hrE, hP.kept (fun k q hk => h2 q.1 (hP k q hk).lt), hD⟩, Nat.le_trans hS.1 h1, fun q q1 q2 => (h2 q (Nat.lt_of_lt_of_le q1 hS.1)).trans (hS.2.1 q q1 q2)⟩
theorem hx_plain {Q : Rs → PH → Prop} (hlocks : meth.locks = false) (htab : ∀ x ∈ c.exceptionTable.toList, False) :
    HXt p l e R s m args below meth c D cy (va_A ws0 s.heap.size) b M ws0 (vx_MQ below (QcP D cy b ws0 s.heap.size Q) (XcP D cy b ws0 s.heap.size Q) args s (pC M) (pS M) (va_A ws0 s.heap.size)) [] Q := by
  intro E ce q9 x pc ls rest lv' h ws H locs cells slots hxe hsome hnone hl hI hce hcv hcf hcl hsl
  exact vx_out (fun y hy => (htab y hy).elim) hlocks hce hcv hcf (fun t ht _ => xc_of hI hxe (hnone rfl) t (by rw [ht]; exact Nat.le_refl _) (fun q _ => by rw [ht])) hI.2.2.2.2.2.2 hcl hsl
theorem hn_of {Q : Rs → PH → Prop} {hd : List (Nat × Nat × Nat × Int)} (hc : CX p l R s m args meth c D cy (va_A ws0 s.heap.size) b S M n) (hlocks : meth.locks = false) (htab : pO M = 9 → ∀ x ∈ c.exceptionTable.toList, False) :
    HNt p l e R s m args below meth c D cy (va_A ws0 s.heap.size) b M ws0 (vx_MQ below (QcP D cy b ws0 s.heap.size Q) (XcP D cy b ws0 s.heap.size Q) args s (pC M) (pS M) (va_A ws0 s.heap.size)) hd Q := by
  obtain ⟨hx, hb, hmax, hown, hts, hXK, hA, hini, hRc, hRs, hRf, hRl, htr⟩ := hc
  intro i a pc x ls rest lv' h ws H locs cells slots hdg hxok hxl h0 hq hsum hl hI hcl hsl
  simp only [xok, hxl, Bool.and_eq_true, beq_iff_eq, decide_eq_true_eq, dcd] at hxok
  obtain ⟨⟨⟨⟨⟨⟨ho, hi⟩, hic⟩, hx4⟩, ho9⟩, hd3⟩, hrest⟩ := hxok
  have htab := htab ho9
  have hownE : cnm.getD (pO M) "" = RX9 := by rw [ho9]; rfl
  rw [hownE] at hown
  have hE : xnm[x.2.2.1]? = some (xnm.getD x.2.2.1 "") := by
    rw [List.getD, List.getElem?_eq_getElem (show x.2.2.1 < xnm.length from hx4)]; rfl
  have hmem := List.mem_of_getElem? hxl
  have hk : (Cond.classLink RX9 i (xnm.getD x.2.2.1 "")).before args s = true := by
    have h1 := XL_ok x hmem
    have e1 : xlW x = Cond.classLink RX9 i (xnm.getD x.2.2.1 "") := by
      unfold xlW
      rw [ho, hownE, hi]
    rw [e1] at h1
    exact hts _ (TBL_of h1)
  have hini2 : (Cond.initialized (xnm.getD x.2.2.1 "")).before args s = true := hts _ (TBL_of (INx_ok _ (List.mem_of_getElem? hE)))
  obtain ⟨tx, sa, hstr⟩ := hXK.2.2.2.2.2.1 x hmem
  have hxw := xw_all x.2.2.1 hx4
  have hat : ∀ w ∈ (Bundle.ownAtomsX RX9 (xic x.2.2.1) (xnm.getD x.2.2.1 "") (xix x.2.2.1) (xrx x.2.2.1) xup).filter vx_no, w.before args s = true ∧ vx_ot w = true := by
    intro w hw
    obtain ⟨h1, h2⟩ := List.mem_filter.mp hw
    obtain ⟨h3, h4⟩ := hxw w h1 h2
    simp only [gwOK, Bool.or_eq_true] at h4
    rcases h4 with h4 | h4
    · exact ⟨hts _ (TBL_of ⟨h3, h4⟩), by simp [vx_ot, h4]⟩
    · exact ⟨va_Nw.use (nw_on h4) (hXK.2.1 w h3 h4), by simp [vx_ot, nw_on h4]⟩
  have hgood : ∀ w ∈ Cond.classLink RX9 i (xnm.getD x.2.2.1 "") :: Cond.initialized (xnm.getD x.2.2.1 "") :: (Bundle.ownAtomsX RX9 (xic x.2.2.1) (xnm.getD x.2.2.1 "") (xix x.2.2.1) (xrx x.2.2.1) xup).filter vx_no, vx_ot w = true := by
    intro w hw
    rcases List.mem_cons.mp hw with rfl | hw
    · rfl
    · rcases List.mem_cons.mp hw with rfl | hw
      · rfl
      · exact (hat w hw).2
  have hXc : ∀ t : State, s.vm.Alike t.vm → H.size ≤ t.heap.size → (∀ q : Nat, q < H.size → t.heap[q]? = H[q]?) → XcP D cy b ws0 s.heap.size Q (xnm.getD x.2.2.1 "") s t := fun t _ g1 g2 => xc_of hI hE hq t g1 g2
  have hS := hI.2.2.2.2
  by_cases hw : x.2.2.2.1 = 1
  · rw [if_pos hw] at hrest
    simp only [Bool.and_eq_true, decide_eq_true_eq] at hrest
    obtain ⟨⟨hd4, hd7⟩, hd10⟩ := hrest
    rw [hic] at hd7
    exact nx_throwSW hx hb htr (xd0 _ hx4) (xd1 _ hx4) (xd2 _ hx4) (xd5 _ hx4) hown (xfit _ hx4) xfit2 hk hini2 hstr (fun w hw => (hat w hw).1) hgood hXK.2.2.2.2.1.1 hXK.2.2.2.2.1.2 hS (hl.1.trans hmax.symm) hdg hd3 hd4 hd7 hd10 (fun y hy => (htab y hy).elim) (by show 2 + 3 < _; omega) (by show _ + (13 * (2 + 1) + 43) ≤ _; omega) (Nat.le_trans hcl hRc) (Nat.le_trans hsl hRs) hlocks hXc hS.2.2 hcl hsl
  · rw [if_neg hw] at hrest
    simp only [Bool.and_eq_true, decide_eq_true_eq] at hrest
    obtain ⟨⟨hd4, hd6⟩, hd9⟩ := hrest
    rw [hic] at hd6
    exact nx_throwS hx hb htr (xd0 _ hx4) (xd1 _ hx4) (xd2 _ hx4) (xd5 _ hx4) hown (xfit _ hx4) xfit2 hk hini2 hstr (fun w hw => (hat w hw).1) hgood hXK.2.2.2.2.1.1 hXK.2.2.2.2.1.2 hS (hl.1.trans hmax.symm) hdg hd3 hd4 hd6 hd9 (fun y hy => (htab y hy).elim) (by show 2 + 3 < _; omega) (by show _ + (13 * (2 + 1) + 43) ≤ _; omega) (Nat.le_trans hcl hRc) (Nat.le_trans hsl hRs) hlocks hXc hS.2.2 hcl hsl
/-- a row of a table beside the machine's -/
def ent (r : (Nat × Nat × Nat × Int) × Nat × Nat) : ExceptionTableEntry := ⟨r.1.1, r.1.2.1, r.2.1, r.2.2⟩
theorem hx_wrap {Q : Rs → PH → Prop} {rows : List ((Nat × Nat × Nat × Int) × Nat × Nat)} (hc : CX p l R s m args meth c D cy (va_A ws0 s.heap.size) b S M n) (hlocks : meth.locks = false) (hret : meth.sig.returnType = pR M) (hO : pO M = 11) (hri : pR M = some .int) (hrows : ∀ r ∈ rows, hkOK (pB M) (pL M) r = true) (htab : c.exceptionTable.toList = rows.map ent) :
    HXt p l e R s m args below meth c D cy (va_A ws0 s.heap.size) b M ws0 (vx_MQ below (QcP D cy b ws0 s.heap.size Q) (XcP D cy b ws0 s.heap.size Q) args s (pC M) (pS M) (va_A ws0 s.heap.size)) (rows.map Prod.fst) Q := by
  have hRR := hr_of (e := e) (below := below) (Q := Q) (ws0 := ws0) hc hret hlocks
  obtain ⟨hx, hb, hmax, hown, hts, hXK, hA, hini, hRc, hRs, hRf, hRl, htr⟩ := hc
  have hownE : cnm.getD (pO M) "" = RL := by rw [hO]; rfl
  rw [hownE] at hown
  intro E ce q9 x pc ls rest lv' h ws H locs cells slots hxe hsome hnone hl hI hce hcv hcf hcl hsl
  have hxlt : x < 4 := (List.getElem?_eq_some_iff.mp hxe).1
  have hEe : ∀ y, y < 4 → xnm[y]? = some (xnm.getD y "") := fun y hy => by
    rw [List.getD, List.getElem?_eq_getElem (show y < xnm.length from hy)]; rfl
  have hE : E = xnm.getD x "" := Option.some.inj (hxe.symm.trans (hEe x hxlt))
  have hpass : ∀ r ∈ rows, (decide (r.1.1 ≤ pc) && decide (pc < r.1.2.1) && r.1.2.2.1 == x) = false → covers (ent r) pc = false ∨ ((ent r).catchType ≠ 0 ∧ ∃ nm : String, (Cond.classLink RL (ent r).catchType nm).before args s = true ∧ va_Nc E nm s) := by
    intro r hr hno
    have hk := hrows r hr
    simp only [hkOK, Bool.and_eq_true, decide_eq_true_eq, beq_iff_eq] at hk
    obtain ⟨⟨h4, hct⟩, -⟩ := hk
    by_cases hcv2 : covers (ent r) pc = true
    · right
      have hne : r.1.2.2.1 ≠ x := by
        intro q
        have h9 : (decide (r.1.1 ≤ pc) && decide (pc < r.1.2.1)) = true := hcv2
        rw [h9, q] at hno
        simp at hno
      refine ⟨?_, xnm.getD r.1.2.2.1 "", ?_, ?_⟩
      · show r.2.2 ≠ 0
        rw [hct]
        exact (by decide : ∀ y, y < 4 → xct y ≠ 0) _ h4
      · show (Cond.classLink RL r.2.2 _).before args s = true
        rw [hct]
        exact hts _ (TBL_of ⟨xct_ok _ h4, rfl⟩)
      · exact hXK.2.2.2.2.2.2.2 x _ E _ hxe (hEe _ h4) (fun q => hne q.symm)
    · left; simpa using hcv2
  cases hpc : p_catch (rows.map Prod.fst) pc x with
  | none =>
    have hall : ∀ r ∈ rows, (decide (r.1.1 ≤ pc) && decide (pc < r.1.2.1) && r.1.2.2.1 == x) = false := by
      intro r hr
      simp only [p_catch, Option.map_eq_none_iff, List.find?_eq_none] at hpc
      have h9 := hpc r.1 (List.mem_map_of_mem hr)
      simpa using h9
    refine vx_outP hown hlocks (fun z hz => ?_) hce hcv hcf (fun t ht _ => xc_of hI hxe (hnone hpc) t (by rw [ht]; exact Nat.le_refl _) (fun q _ => by rw [ht])) hI.2.2.2.2.2.2 hcl hsl
    rw [htab] at hz
    obtain ⟨r, hr, rfl⟩ := List.mem_map.mp hz
    exact hpass r hr (hall r hr)
  | some z =>
    have hQ := hsome z hpc
    simp only [p_catch, Option.map_eq_some_iff] at hpc
    obtain ⟨q, hq, rfl⟩ := hpc
    rw [List.find?_map, Option.map_eq_some_iff] at hq
    obtain ⟨r, hr, rfl⟩ := hq
    rw [List.find?_eq_some_iff_append] at hr
    obtain ⟨hyes, pre, suf, hsplit, hno⟩ := hr
    have hyes : (decide (r.1.1 ≤ pc) && decide (pc < r.1.2.1) && r.1.2.2.1 == x) = true := hyes
    have hrm : r ∈ rows := by rw [hsplit]; simp
    have hk := hrows r hrm
    simp only [hkOK, Bool.and_eq_true, decide_eq_true_eq, beq_iff_eq] at hk
    obtain ⟨⟨h4, hct⟩, hcode⟩ := hk
    simp only [Bool.and_eq_true, beq_iff_eq] at hyes
    obtain ⟨hcov, hxx⟩ := hyes
    refine vx_catch (own := RL) (name := xnm.getD r.1.2.2.1 "") (E := E) hown (pre.map ent) (ent r) (suf.map ent) (by rw [htab, hsplit]; simp) (fun z hz => ?_) (by show (decide (r.1.1 ≤ pc) && decide (pc < r.1.2.1)) = true; rw [hcov.1, hcov.2]; rfl) ?_ ?_ ?_ hce hcv hcf ?_
    · obtain ⟨r', hr', rfl⟩ := List.mem_map.mp hz
      refine hpass r' (by rw [hsplit]; simp [hr']) ?_
      have h9 : (!(decide (r'.1.1 ≤ pc) && decide (pc < r'.1.2.1) && r'.1.2.2.1 == x)) = true := hno r' hr'
      rwa [Bool.not_eq_true'] at h9
    · show r.2.2 ≠ 0
      rw [hct]
      exact (by decide : ∀ y, y < 4 → xct y ≠ 0) _ h4
    · show (Cond.classLink RL r.2.2 _).before args s = true
      rw [hct]
      exact hts _ (TBL_of ⟨xct_ok _ h4, rfl⟩)
    · rw [hE, hxx]
      exact va_Nw.use rfl (hXK.2.1 _ (xcs_ok x hxlt) rfl)
    · have hret9 : ∀ (pc9 : Nat) (ls9 : Array Slot), decode (pB M) pc9 = .ok (.ireturn, 1) → W p l e R s m args below meth c H locs cells slots (vx_MQ below (QcP D cy b ws0 s.heap.size Q) (XcP D cy b ws0 s.heap.size Q) args s (pC M) (pS M) (va_A ws0 s.heap.size)) (F0 m pc9 ls9 [.int (Int32.ofInt r.1.2.2.2)]) := fun pc9 ls9 hd9 =>
        hRR .ireturn pc9 ls9 (some (.int (Int32.ofInt r.1.2.2.2))) (some (.int (Int32.ofInt r.1.2.2.2))) h ws H locs cells slots hd9 ⟨.int, hri, vp_nar_int _⟩ hQ ⟨_, _, rfl, rfl, rfl⟩ hI hcl hsl
      rw [Bool.or_eq_true, List.any_eq_true, List.any_eq_true] at hcode
      rcases hcode with ⟨k, -, hk⟩ | ⟨k, -, hk⟩
      · simp only [Bool.and_eq_true, decide_eq_true_eq, dcd] at hk
        obtain ⟨⟨⟨k1, k2⟩, k3⟩, k4⟩ := hk
        exact lv_astore hx hb k1 hl k2 rfl (fun ls2 hl2 => lv_iconst hx hb k3 rfl (hret9 _ _ k4))
      · simp only [Bool.and_eq_true, decide_eq_true_eq, dcd] at hk
        obtain ⟨⟨⟨k1, k2⟩, k3⟩, k4⟩ := hk
        exact lv_astore_n hx hb k1 rfl hl k2 rfl (fun ls2 hl2 => lv_iconst hx hb k3 rfl (hret9 _ _ k4))
end FN2

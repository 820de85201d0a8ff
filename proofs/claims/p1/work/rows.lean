section
/-! ===== BEGIN words of one list among another's, by their places ===== -/
theorem goodIn_r {big : List Cond} (ws : List Cond) (ps : List Nat) (hp : ws = ps.filterMap (fun i => big[i]?)) (h : ws.all goodWord = true) : GoodIn big ws := by
  intro w hw
  have h1 := List.all_eq_true.mp h w hw
  rw [hp] at hw
  obtain ⟨i, -, hi⟩ := List.mem_filterMap.mp hw
  have hm : w ∈ big := by first | exact List.mem_of_getElem? hi | exact List.getElem?_mem hi
  exact ⟨hm, good_of_word h1⟩
theorem goodIn_app {big a b : List Cond} (ha : GoodIn big a) (hb : GoodIn big b) : GoodIn big (a ++ b) := fun w h => (List.mem_append.mp h).elim (ha w) (hb w)
theorem goodIn_ca {big a b : List Cond} {c : Cond} (ha : GoodIn big (c :: a)) (hb : GoodIn big b) : GoodIn big (c :: (a ++ b)) := fun w h => (List.mem_cons.mp h).elim (fun e => ha w (List.mem_cons.mpr (Or.inl e))) (fun h => (List.mem_append.mp h).elim (fun h => ha w (List.mem_cons.mpr (Or.inr h))) (hb w))
theorem goodIn_sub {big ws : List Cond} (hm : ∀ w ∈ ws, w ∈ big) (h : ws.all goodWord = true) : GoodIn big ws := fun w hw => ⟨hm w hw, good_of_word (List.all_eq_true.mp h w hw)⟩
/-! ===== END ===== -/

/-! ===== BEGIN new T[n][m]: the outer array a place, the inner ones among the pooled ===== -/
/-- f, but v at every address of l -/
def vr_up {α : Type} (f : Nat → α) (l : List Nat) (v : α) : Nat → α := fun a => if a ∈ l then v else f a
theorem vr_up_in {α : Type} {f : Nat → α} {l : List Nat} {v : α} {a : Nat} (h : a ∈ l) : vr_up f l v a = v := if_pos h
theorem vr_up_ne {α : Type} {f : Nat → α} {l : List Nat} {v : α} {a : Nat} (h : a ∉ l) : vr_up f l v a = f a := if_neg h
theorem vr_rows {L l : List Nat} {f : Nat → va_E} {e : va_E} (h : ∀ a, a ∈ l → a ∉ L) : va_pl L f ++ l.map (fun a => (a, e)) = va_pl (L ++ l) (vr_up f l e) := by
  unfold va_pl
  rw [List.map_append]
  congr 1
  · apply List.map_congr_left
    intro a ha
    rw [vr_up_ne (fun q => h a q ha)]
  · apply List.map_congr_left
    intro a ha
    rw [vr_up_in ha]
theorem vr_lay {X rows : va_W} {x : Nat × va_E} {pl : va_W} {D : va_G} {cl : List vw_C} {H : Heap} (hP : va_P D cl (((X ++ pl) ++ [x]) ++ rows) H) : va_P D cl ((X ++ [x]) ++ (pl ++ rows)) H := by
  rw [List.append_assoc (X ++ pl)] at hP
  have h := va_P.swap hP
  rw [← List.append_assoc X] at h
  have h2 := va_P.swap h
  rw [List.append_assoc (X ++ [x])] at h2
  exact h2
theorem vr_layD {X rows : va_W} {x : Nat × va_E} {pl : va_W} {A : Nat → Prop} (hD : va_D A (((X ++ pl) ++ [x]) ++ rows)) : va_D A ((X ++ [x]) ++ (pl ++ rows)) := by
  rw [List.append_assoc (X ++ pl)] at hD
  have h := va_D.swap hD
  rw [← List.append_assoc X] at h
  have h2 := va_D.swap h
  rw [List.append_assoc (X ++ [x])] at h2
  exact h2
theorem vr_outer (c : ClassId) (N h0 : Nat) : ∀ i : Nat, Jvm.Free.Multi.outerC c N h0 i = arrV c N (fun j => va_rf (if j < i then some (h0 + 1 + j) else none))
  | 0 => by
    show ({ cls := c, slots := Array.replicate N .null, vm := .none } : Cell) = _
    rw [arrV_new]
    refine congrArg (arrV c N) (funext fun j => ?_)
    simp [va_rf]
  | i + 1 => by
    show (Jvm.Free.Multi.outerC c N h0 i).setSlot i (.ref (h0 + 1 + i)) = _
    rw [vr_outer c N h0 i, arrV_store]
    refine congrArg (arrV c N) (funext fun j => ?_)
    by_cases e : j = i
    · subst e
      simp [updV, va_rf]
    · by_cases h : j < i
      · simp [updV, e, h, Nat.lt_succ_of_lt h]
      · simp [updV, e, h, show ¬ j < i + 1 by omega]
def va_AOA (ty : FieldType) (U : State) : Prop := (Cond.arrayOver (.array ty)).before #[] U = true
theorem va_AOA.use {ty : FieldType} {A : Array Value} {U : State} (h : va_AOA ty U) : (Cond.arrayOver (.array ty)).before A U = true := h
section VGM
variable {p : Program} {l : Launch} {e : Env} {R : Room} {s : State} {m : MethodId} {args : Array Value} {below : List Frame} {meth : Method} {c : Code} {H : Heap} {locs : List Loc} {cells slots : Nat} {Q : State → Prop}
variable {cc : ByteArray} {pc : Nat} {ls : Array Slot} {rest : List Value} {D : va_G} {cl : List vw_C} {A : Nat → Prop} {a : Nat} {tys : List (ClassId × FieldType)} {ws : va_W} {H0 : Heap}
theorem va_mna {X : va_W} {L : List Nat} {f : Nat → va_E} {cc : ByteArray} (hexec : p.tables.exec = Jvm.exec) (hb : c.code = cc) {own : String} {index : Nat} {ty : FieldType} {cy : ClassId} (hown : s.vm.findClass own = some m.cls) (hclink : (Cond.classLink own index ("[" ++ (FieldType.array ty).toString)).before args s = true) (hover : va_AOA ty s) (harr : (Cond.arrayClass ty).before args s = true) (hcy : s.vm.findClass (FieldType.array ty).toString = some cy)
    (hK : va_K D cl tys s) (hP : va_P D cl (X ++ va_pl L f) H) (hD : va_D A (X ++ va_pl L f)) (hS : va_S A H0 H locs) (hA : ∀ q, H0.size ≤ q → A q) {n k : Int32} {N' K' : Nat} {z : vp_A} (hn : ¬ n < 0) (hk : ¬ k < 0) (hN : n.toNatClampNeg = N') (hM : k.toNatClampNeg = K')
    (hb1 : N' * 4 ≤ 536870912) (hb2 : K' * componentBytes ty ≤ 536870912) (hb3 : K' ≤ 536870912) (hdf : fits ty (defaultValue ty) = true) (hdd : (defaultValue ty).isDefault = true) (hcells : cells + (1 + N') ≤ R.cells) (hslots : slots + (N' + N' * K') ≤ R.slots) (hz : ∀ c : ClassId, Jvm.Free.Multi.innerC c K' (defaultValue ty) = vp_cell c z) (hdg : decode cc pc = .ok (.multianewarray index 2, 4))
    (kk : ∀ (q : Nat) (r : Nat → Nat) (cA : ClassId) (H1 : Heap), (∀ i j : Nat, i < N' → j < N' → r i = r j → i = j) → (∀ i : Nat, i < N' → r i ∉ L) → va_K D cl (tys ++ [(cA, .array ty)]) s →
      va_P D cl ((X ++ [(q, .inl (cA, N', .inr (.inr (.inr (.inr (fun i => if i < N' then some (r i) else none))))))]) ++ va_pl (L ++ (List.range N').map r) (vr_up f ((List.range N').map r) (.inl (cy, z)))) H1 → va_D A ((X ++ [(q, .inl (cA, N', .inr (.inr (.inr (.inr (fun i => if i < N' then some (r i) else none))))))]) ++ va_pl (L ++ (List.range N').map r) (vr_up f ((List.range N').map r) (.inl (cy, z)))) → va_S A H0 H1 locs →
      W p l e R s m args below meth c H1 locs (cells + 1 + N') (slots + N' + N' * K') Q (F0 m (pc + 4) ls (.ref q :: rest))) : W p l e R s m args below meth c H locs cells slots Q (F0 m pc ls (.int k :: .int n :: rest)) := by
  subst hN
  subst hM
  intro T hT Xs
  obtain ⟨vm₁, cA, comp, -, fA, fC, hO, -, X', step⟩ := Xs.multianewarray2F hexec hown hclink (va_AOA.use hover) harr (g := F0 m pc ls (.int k :: .int n :: rest)) rfl (by rw [hb]; exact hdg) rfl hn hk hb1 hb2 hb3 hdf hdd hcells hslots
  have ec : some cy = some comp := hcy.symm.trans fC
  cases ec
  generalize hF : Jvm.Free.Multi.fill (T.setVm vm₁) cA cy n.toNatClampNeg k.toNatClampNeg (defaultValue ty) n.toNatClampNeg = F at X' step
  have hTh : (T.setVm vm₁).heap = H := hT
  obtain ⟨f1, f2, -, -⟩ := Jvm.Free.Multi.fill_facts (T.setVm vm₁) cA cy n.toNatClampNeg k.toNatClampNeg (defaultValue ty) n.toNatClampNeg
  rw [hF, hTh] at f1 f2
  have hold : ∀ x : Nat, x < H.size → F.heap[x]? = H[x]? := fun x hx => by
    have := Jvm.Free.Multi.fill_old (T.setVm vm₁) cA cy n.toNatClampNeg k.toNatClampNeg (defaultValue ty) (a := x) (by rw [hTh]; exact hx) n.toNatClampNeg
    rw [hF, hTh] at this
    exact this
  have hrow : ∀ j : Nat, j < n.toNatClampNeg → F.heap[H.size + 1 + j]? = some (vp_cell cy z) := fun j hj => by
    have := Jvm.Free.Multi.fill_inner (T.setVm vm₁) cA cy n.toNatClampNeg k.toNatClampNeg (defaultValue ty) n.toNatClampNeg j hj
    rw [hF, hTh, hz] at this
    exact this
  have hout : Jvm.Free.Multi.outerC cA n.toNatClampNeg H.size n.toNatClampNeg = vp_cell cA (n.toNatClampNeg, .inr (.inr (.inr (.inr (fun i => if i < n.toNatClampNeg then some (H.size + 1 + i) else none))))) := by
    rw [vp_cell_q]
    exact vr_outer cA n.toNatClampNeg H.size n.toNatClampNeg
  rw [hout] at f2
  have hlt : ∀ a, a ∈ L → a < H.size := fun a ha => by
    obtain ⟨k9, hk9⟩ := va_pl_get (X := X) (f := f) ha
    exact (hP k9 _ hk9).lt
  have hnl : ∀ i : Nat, i < n.toNatClampNeg → H.size + 1 + i ∉ L := fun i _ h => by
    have := hlt _ h
    omega
  have hnm : ∀ a, a ∈ (List.range n.toNatClampNeg).map (fun i => H.size + 1 + i) → a ∉ L := fun a ha h => by
    obtain ⟨i, -, rfl⟩ := List.mem_map.mp ha
    have := hlt _ h
    omega
  have hP0 : va_P D cl (X ++ va_pl L f) F.heap := hP.kept (fun k9 x hx => hold x.1 ((hP k9 x hx).lt))
  have hP1 : va_P D cl ((X ++ va_pl L f) ++ [(H.size, .inl (cA, n.toNatClampNeg, .inr (.inr (.inr (.inr (fun i => if i < n.toNatClampNeg then some (H.size + 1 + i) else none))))))]) F.heap := hP0.app (fun k9 x hx => by
    have h0 : k9 < 1 := (List.getElem?_eq_some_iff.mp hx).1
    rw [show k9 = 0 by omega] at hx
    cases hx
    exact f2)
  have hP2 : va_P D cl (((X ++ va_pl L f) ++ [(H.size, .inl (cA, n.toNatClampNeg, .inr (.inr (.inr (.inr (fun i => if i < n.toNatClampNeg then some (H.size + 1 + i) else none))))))]) ++ ((List.range n.toNatClampNeg).map (fun i => H.size + 1 + i)).map (fun a => (a, .inl (cy, z)))) F.heap := hP1.app (fun k9 x hx => by
    obtain ⟨a, ha, rfl⟩ := List.mem_map.mp (List.mem_of_getElem? hx)
    obtain ⟨i, hi, rfl⟩ := List.mem_map.mp ha
    exact hrow i (List.mem_range.mp hi))
  have hD2 : va_D A (((X ++ va_pl L f) ++ [(H.size, .inl (cA, n.toNatClampNeg, .inr (.inr (.inr (.inr (fun i => if i < n.toNatClampNeg then some (H.size + 1 + i) else none))))))]) ++ ((List.range n.toNatClampNeg).map (fun i => H.size + 1 + i)).map (fun a => (a, .inl (cy, z)))) := by
    have hD1 := hD.push (e := .inl (cA, n.toNatClampNeg, .inr (.inr (.inr (.inr (fun i => if i < n.toNatClampNeg then some (H.size + 1 + i) else none)))))) hP rfl (hA _ hS.1)
    generalize hW1 : (X ++ va_pl L f) ++ [(H.size, .inl (cA, n.toNatClampNeg, .inr (.inr (.inr (.inr (fun i => if i < n.toNatClampNeg then some (H.size + 1 + i) else none))))))] = W1 at hD1 hP1 ⊢
    have hle : ∀ (k9 : Nat) (x : Nat × va_E), W1[k9]? = some x → x.1 ≤ H.size := fun k9 x hx => by
      rw [← hW1] at hx
      by_cases hl : k9 < (X ++ va_pl L f).length
      · rw [List.getElem?_append_left hl] at hx
        exact Nat.le_of_lt ((hP k9 x hx).lt)
      · rw [List.getElem?_append_right (by omega)] at hx
        have h0 : k9 - (X ++ va_pl L f).length < 1 := (List.getElem?_eq_some_iff.mp hx).1
        rw [show k9 - (X ++ va_pl L f).length = 0 by omega] at hx
        cases hx
        exact Nat.le_refl _
    have hr : ∀ (k9 : Nat) (x : Nat × va_E), (((List.range n.toNatClampNeg).map (fun i => H.size + 1 + i)).map (fun a => ((a, .inl (cy, z)) : Nat × va_E)))[k9]? = some x → x.1 = H.size + 1 + k9 := fun k9 x hx => by
      rw [List.getElem?_map, List.getElem?_map] at hx
      by_cases h9 : k9 < n.toNatClampNeg
      · rw [List.getElem?_range h9] at hx
        cases hx
        rfl
      · have hn0 : (List.range n.toNatClampNeg)[k9]? = none := List.getElem?_eq_none (by rw [List.length_range]; omega)
        rw [hn0] at hx
        cases hx
    refine ⟨fun i j x y hi hj hxy => ?_, fun k9 x hx => ?_⟩
    · by_cases h1 : i < W1.length <;> by_cases h2 : j < W1.length
      · rw [List.getElem?_append_left h1] at hi
        rw [List.getElem?_append_left h2] at hj
        exact hD1.1 i j x y hi hj hxy
      · rw [List.getElem?_append_left h1] at hi
        rw [List.getElem?_append_right (by omega)] at hj
        have := hle _ _ hi
        have := hr _ _ hj
        omega
      · rw [List.getElem?_append_right (by omega)] at hi
        rw [List.getElem?_append_left h2] at hj
        have := hle _ _ hj
        have := hr _ _ hi
        omega
      · rw [List.getElem?_append_right (by omega)] at hi hj
        have := hr _ _ hi
        have := hr _ _ hj
        omega
    · by_cases h1 : k9 < W1.length
      · rw [List.getElem?_append_left h1] at hx
        exact hD1.2 k9 x hx
      · rw [List.getElem?_append_right (by omega)] at hx
        have := hr _ _ hx
        exact hA _ (by have := hS.1; omega)
  have hAr : ArrOfT s cA (.array ty) := fun N9 z9 => by
    obtain ⟨-, k9, hk9, cm9, hkk9⟩ := (hO 0 0 0).1
    exact ⟨(fun q hq => by cases hq), k9, hk9, cm9, hkk9⟩
  have hK2 : va_K D cl (tys ++ [(cA, .array ty)]) s := ⟨hK.1, fun k9 x hx => by
    by_cases hl : k9 < tys.length
    · rw [List.getElem?_append_left hl] at hx
      exact hK.2 k9 x hx
    · rw [List.getElem?_append_right (by omega)] at hx
      have h0 : k9 - tys.length < 1 := (List.getElem?_eq_some_iff.mp hx).1
      rw [show k9 - tys.length = 0 by omega] at hx
      cases hx
      exact ⟨hAr, fA⟩⟩
  obtain ⟨t, a1, b1⟩ := kk H.size (fun i => H.size + 1 + i) cA F.heap (fun i j _ _ h => by have h9 : H.size + 1 + i = H.size + 1 + j := h; omega) hnl hK2 (by rw [← vr_rows hnm]; exact vr_lay hP2) (by rw [← vr_rows hnm]; exact vr_layD hD2) ⟨by rw [f1]; have := hS.1; omega, fun x h1 h2 => (hold x (Nat.lt_of_lt_of_le h1 hS.1)).trans (hS.2.1 x h1 h2), hS.2.2⟩ F rfl X'
  refine ⟨t, step t ?_, b1⟩
  have e : T.heap.size = H.size := by rw [hT]
  rw [e]
  exact a1
end VGM
/-! ===== END ===== -/

/-! ===== BEGIN exceptions that leave a method, and their catching by the caller (launches without stack traces) ===== -/
section VXA
/-! The laws vx_back, vx_callV, vx_callS, vx_callSW, vx_throw0, vx_throwS follow proofs of the library, with one case more: JvmDerived/Free/Laws.lean (Back.of_free), Shelf42/LK1.lean (callV, callS), Shelf/KitTraced.lean (throwNew0V, throwNewS). -/
/-- where a method has thrown q: the class by its name, the cell, what was written, the world -/
def vx_T (XC : String → State → State → Prop) (st : State) (q : Addr) (t : State) (mc ms : Nat) (free : Addr → Prop) : Prop :=
  ∃ (E : String) (ce : Cell) (L : List Loc), XC E st t ∧ t.heap[q]? = some ce ∧ ce.vm = .none ∧ st.vm.findClass E = some ce.cls ∧ st.WarmedH t.vm ∧ st.sameButNew ({ t with vm := st.vm } : State) L mc ms ∧ ∀ z ∈ L, free z.base
def vx_Q (Qc : Array Value → State → Outcome → State → Prop) (XC : String → State → State → Prop) (mc ms : Nat) (free : Addr → Prop) : Array Value → State → Outcome → State → Prop := fun a st o t =>
  (Qc a st o t ∧ ∃ L, FrameEnd st o t L mc ms ∧ ∀ q ∈ L, free q.base) ∨ ∃ q, o = .threw q ∧ vx_T XC st q t mc ms free
/-- a callee that returns or throws -/
def vx_Met (l : Launch) (y : MethodName) (ws : List Cond) (rm : Room) (Pc : Array Value → State → Prop) (Qc : Array Value → State → Outcome → State → Prop) (XC : String → State → State → Prop) (mc ms : Nat) (free : Addr → Prop) : Prop :=
  MetFree l y (headSpec ws rm) Pc (fun _ _ _ _ _ => True) (vx_Q Qc XC mc ms free)
def vx_Post (XC : String → State → State → Prop) (mc ms : Nat) (free : Addr → Prop) : Pt → Array Value → Addr → Pt → Prop := fun A a q B =>
  ∃ (g : JFrame) (mk : MethodId) (t : State) (L : List Loc) (E : String) (ce : Cell), B.U.heap = t.heap ∧ B.U.vm = t.vm ∧ XC E (A.U.calling g mk a) t ∧ t.heap[q]? = some ce ∧ ce.vm = .none ∧ A.U.vm.findClass E = some ce.cls ∧ B.locs = A.locs ++ L ∧ (∀ z ∈ L, free z.base) ∧ B.cells = A.cells + mc ∧ B.slots = A.slots + ms
def vx_Back (l : Launch) (R : Room) (p : Program) (e : Env) (below : List Frame) (s : State) (sargs : Array Value) (y : MethodName) (len W9 : Nat)
    (Pre : Pt → Array Value → Prop) (Post : Pt → Array Value → Option Value → Pt → Prop) (PostX : Pt → Array Value → Addr → Pt → Prop) : Prop :=
  ∀ (m : MethodId) (meth : Method) (c : Code) (A : Pt) (g : JFrame) (ig : Instr) (mk : MethodId) (a : Array Value),
    Stand p l e R s m sargs below meth c A.U A.locs A.cells A.slots → g.method = m → g.locals.size = c.maxLocals → decode c.code g.pc = .ok (ig, len) →
    2 * g.monitorRoom + (g.stack.map fun v => v.category).sum ≤ W9 → A.U.methodNamed? y = some mk → Pre A a →
    (∃ (v : Option Value) (B : Pt), Stand p l e R s m sargs below meth c B.U B.locs B.cells B.slots ∧ Post A a v B ∧
      Steps p.tables e below (doInvoke e (A.U.setTop g) [] mk a).1 (B.U.setTop { g with pc := g.pc + len, stack := v.toList ++ g.stack })) ∨
    (∃ (q : Addr) (B : Pt), Stand p l e R s m sargs below meth c B.U B.locs B.cells B.slots ∧ PostX A a q B ∧
      Steps p.tables e below (doInvoke e (A.U.setTop g) [] mk a).1 ((B.U.setTop g).pushFrame (.throwing q)))
section Payer
variable {l : Launch} {R : Room} {p : Program} {e : Env} {below : List Frame} {s : State} {sargs : Array Value} {y : MethodName} {len W9 : Nat}
theorem vx_back {ws : List Cond} {rm : Room} {Pc : Array Value → State → Prop} {Qc : Array Value → State → Outcome → State → Prop} {XC : String → State → State → Prop} {mc ms : Nat} {free : Addr → Prop} {bytes : ByteArray} {maxL : Nat} {ret : Option FieldType}
    (hM : vx_Met l y ws rm Pc Qc XC mc ms free) (hblind : FrameBlind Pc) (hrc : rm.cells = mc) (hrs : rm.slots = ms)
    (hframes : rm.frames + 1 ≤ R.frames) (hlocals : W9 + (maxL + 11) + rm.locals ≤ R.locals)
    (hws : ∀ w ∈ ws, ∀ a' U, s.WarmedH U.vm → w.before a' U = true) (hcode : Cond.code y bytes maxL ret ∈ ws) (hinit : ∀ a' U, s.WarmedH U.vm → (Cond.initialized y.cls).before a' U = true) :
    vx_Back l R p e below s sargs y len W9 (PreOf R mc ms Pc) (PostOf Qc mc ms free) (vx_Post XC mc ms free) := by
  intro m meth c A g ig mk a X hg hsize hdg hW hn hp
  have h1 : (headSpec ws rm).pre.before a A.U = true := atoms_intro fun w hw => hws w hw _ _ X.warmed
  have h2 : (Cond.code y bytes maxL ret).before a A.U = true := hws _ hcode _ _ X.warmed
  have h3 : (Cond.initialized y.cls).before a A.U = true := hinit _ _ X.warmed
  have h4 : A.cells + (headSpec ws rm).room.cells ≤ R.cells := by rw [show (headSpec ws rm).room.cells = mc from hrc]; exact hp.1
  have h5 : A.slots + (headSpec ws rm).room.slots ≤ R.slots := by rw [show (headSpec ws rm).room.slots = ms from hrs]; exact hp.2.1
  have hPc : Pc a (A.U.calling g mk a) := hblind _ _ _ _ hp.2.2
  obtain ⟨U, Ls, c0, s0⟩ := A
  dsimp only [Pt.U, Pt.locs, Pt.cells, Pt.slots] at h1 h2 h3 h4 h5 X hn hPc ⊢
  obtain ⟨methY, cY, hmY, hcY, -, hlY, -, -, -, -⟩ := Cond.code_spec hn h2
  obtain ⟨kY, hkY, -⟩ := className_of_methodNamed hn
  have hinitY : kY.init = .initialized := Cond.initialized_spec (findClass_of_methodNamed hn) hkY h3
  have h : At U g.method c below := by rw [hg]; exact X.here
  have hlocals9 : W9 + (maxL + 11) + (headSpec ws rm).room.locals ≤ R.locals := hlocals
  have happ : (headSpec ws rm).appliesLoose y e.platform (U.calling g mk a) = true :=
    Spec.appliesLoose_calling (g := g) h hdg hn hkY hinitY
      (X.room_calling (g := g) (R' := (headSpec ws rm).room) hsize hmY hcY hframes (by rw [hlY]; omega) h4 h5) h1
  obtain ⟨mid, hmid⟩ := h.above
  have hfr : (U.setTop g).frames = (.java g :: mid) ++ below := by rw [State.frames_setTop' g h.top, hmid]; rfl
  obtain ⟨o, s₂, hsteps, -, hend, hq⟩ := Steps.callFree hM p X.admits X.cas X.clock (acts := []) hfr happ hPc trivial
  have hq' : vx_Q Qc XC mc ms free a (U.calling g mk a) o s₂ := hq
  rw [State.frames_setTop' g h.top] at hend
  obtain ⟨g₀, hg0⟩ := Option.isSome_iff_exists.mp h.top
  obtain ⟨r, hr⟩ := State.topJava?_eq_some.mp hg0
  have hr' : (({ U with heap := s₂.heap, slotsUsed := s₂.slotsUsed } : State).setVm s₂.vm).frames = .java g₀ :: r := hr
  rcases hq' with ⟨hqc, L, hfe, hL⟩ | ⟨q, rfl, E, ce, L, hx, hce, hcv, hcl, hW₂, hsm, hL⟩
  · obtain ⟨⟨v, rfl⟩, hW₂, e2, q2, q3, q4, q5, q6⟩ := id hfe
    have e3 : s₂ = ({ (U.calling g mk a).setFrames s₂.frames with heap := s₂.heap, slotsUsed := s₂.slotsUsed } : State).setVm s₂.vm := by
      have : s₂ = ({ s₂ with vm := (U.calling g mk a).vm } : State).setVm s₂.vm := rfl
      rw [e2] at this
      exact this
    obtain ⟨c₂, i₂, len₂, hc₂, hd₂, hf₂⟩ := hend
    have hW' : U.WarmedH s₂.vm := hW₂
    have hcc : c₂ = c := by
      have h1 : s₂.code? g.method = U.code? g.method := by
        rw [State.code?_eq, State.code?_eq, hW'.alike.method?]
      exact Option.some.inj (hc₂.symm.trans (h1.trans h.code))
    subst hcc
    have hlen : len₂ = len := by rw [hdg] at hd₂; cases hd₂; rfl
    subst hlen
    have hs₂ : s₂ = (({ U with heap := s₂.heap, slotsUsed := s₂.slotsUsed } : State).setVm s₂.vm).setTop { g with pc := g.pc + len₂, stack := v.toList ++ g.stack } := by
      refine e3.trans ?_
      rw [hf₂, State.calling_eq h.top, State.setFrames_setFrames, State.setTop_of_frames _ hr', hr]
      rfl
    have hsame : U.sameButNew ({ U with heap := s₂.heap, slotsUsed := s₂.slotsUsed } : State) L mc ms := by
      refine ⟨?_, q2, q3, q4, q5, q6⟩
      obtain ⟨t, ht, -⟩ := State.frames_cons hr
      show ({ U with heap := s₂.heap, slotsUsed := s₂.slotsUsed } : State) = { U.setFrames U.frames with heap := s₂.heap, slotsUsed := s₂.slotsUsed }
      rw [State.setFrames_self ht]
    subst hg
    refine Or.inl ⟨v, ⟨(({ U with heap := s₂.heap, slotsUsed := s₂.slotsUsed } : State).setVm s₂.vm), Ls ++ L, c0 + mc, s0 + ms⟩,
      ⟨X.admits, X.cas, X.clock, X.frames, X.room, X.hears, X.method, X.code, (X.here.setHeapUsed s₂.heap s₂.slotsUsed).setVm hW'.alike, X.tail, State.WarmedH.trans X.warmed hW', X.limits, X.bytes, X.same.trans (hsame.setVm s.vm)⟩,
      ⟨g, mk, s₂, L, rfl, rfl, hqc, rfl, hL, rfl, rfl⟩, ?_⟩
    show Steps p.tables e below _ ((({ U with heap := s₂.heap, slotsUsed := s₂.slotsUsed } : State).setVm s₂.vm).setTop { g with pc := g.pc + len₂, stack := v.toList ++ g.stack })
    rw [← hs₂]
    exact hsteps
  · obtain ⟨e2, q2, q3, q4, q5, q6⟩ := id hsm
    have e3 : s₂ = ({ (U.calling g mk a).setFrames s₂.frames with heap := s₂.heap, slotsUsed := s₂.slotsUsed } : State).setVm s₂.vm := by
      have : s₂ = ({ s₂ with vm := (U.calling g mk a).vm } : State).setVm s₂.vm := rfl
      rw [e2] at this
      exact this
    have hf₂ : s₂.frames = .throwing q :: .java g :: U.frames.tail := hend
    have hW' : U.WarmedH s₂.vm := hW₂
    have hs₂ : s₂ = ((({ U with heap := s₂.heap, slotsUsed := s₂.slotsUsed } : State).setVm s₂.vm).setTop g).pushFrame (.throwing q) := by
      refine e3.trans ?_
      rw [hf₂, State.calling_eq h.top, State.setFrames_setFrames, State.pushFrame, State.frames_setTop _ hr', State.setTop_of_frames _ hr', State.setFrames_setFrames, hr]
      rfl
    have hsame : U.sameButNew ({ U with heap := s₂.heap, slotsUsed := s₂.slotsUsed } : State) L mc ms := by
      refine ⟨?_, q2, q3, q4, q5, q6⟩
      obtain ⟨t, ht, -⟩ := State.frames_cons hr
      show ({ U with heap := s₂.heap, slotsUsed := s₂.slotsUsed } : State) = { U.setFrames U.frames with heap := s₂.heap, slotsUsed := s₂.slotsUsed }
      rw [State.setFrames_self ht]
    subst hg
    refine Or.inr ⟨q, ⟨(({ U with heap := s₂.heap, slotsUsed := s₂.slotsUsed } : State).setVm s₂.vm), Ls ++ L, c0 + mc, s0 + ms⟩,
      ⟨X.admits, X.cas, X.clock, X.frames, X.room, X.hears, X.method, X.code, (X.here.setHeapUsed s₂.heap s₂.slotsUsed).setVm hW'.alike, X.tail, State.WarmedH.trans X.warmed hW', X.limits, X.bytes, X.same.trans (hsame.setVm s.vm)⟩,
      ⟨g, mk, s₂, L, E, ce, rfl, rfl, hx, hce, hcv, hcl, rfl, hL, rfl, rfl⟩, ?_⟩
    show Steps p.tables e below _ (((({ U with heap := s₂.heap, slotsUsed := s₂.slotsUsed } : State).setVm s₂.vm).setTop g).pushFrame (.throwing q))
    rw [← hs₂]
    exact hsteps
end Payer
section Calls
variable {p : Program} {l : Launch} {e : Env} {R : Room} {s : State} {m : MethodId} {args : Array Value} {below : List Frame} {meth : Method} {c : Code} {T : State} {locs : List Loc} {cells slots : Nat}
theorem vx_callV (X : Stand p l e R s m args below meth c T locs cells slots) (hexec : p.tables.exec = Jvm.exec) {own C : String} {index : Nat} {y : MethodName} {bytes : ByteArray} {maxL : Nat} {ret : Option FieldType}
    (hown : s.vm.findClass own = some m.cls) (hlink : (Cond.methodLink own index y).before args s = true) (hinst : (Cond.instanceMethod y).before args s = true) (hsel : (Cond.selects C y y).before args s = true)
    (hcode : (Cond.code y bytes maxL ret).before args s = true) (hy : y.cls ≠ "java/lang/invoke/MethodHandle" ∧ y.cls ≠ "java/lang/invoke/VarHandle")
    {W9 : Nat} {Pre : Pt → Array Value → Prop} {Post : Pt → Array Value → Option Value → Pt → Prop} {PostX : Pt → Array Value → Addr → Pt → Prop} (hK : vx_Back l R p e below s args y 3 W9 Pre Post PostX)
    {b : Addr} {cellB : Cell} (hcell : T.heap[b]? = some cellB) (hobj : cellB.vm.isStatics = false) (hcls : s.vm.findClass C = some cellB.cls)
    {g : JFrame} (hg : g.method = m) (hsize : g.locals.size = c.maxLocals) {argsL rest : List Value} (hlen : ∀ sig, parseMethodDescriptor y.desc = some sig → argsL.length = sig.parameters.length)
    (hstack : g.stack = argsL.reverse ++ .ref b :: rest) (hW : 2 * g.monitorRoom + (rest.map fun v => v.category).sum ≤ W9) (hdg : decode c.code g.pc = .ok (.invokevirtual index, 3))
    (hpre : ∀ vm₁, s.WarmedH vm₁ → Pre ⟨T.setVm vm₁, locs, cells, slots⟩ (Value.ref b :: argsL).toArray) :
    (∃ (v : Option Value) (vm₁ : Vm) (B : Pt), s.WarmedH vm₁ ∧ Stand p l e R s m args below meth c B.U B.locs B.cells B.slots ∧ Post ⟨T.setVm vm₁, locs, cells, slots⟩ (Value.ref b :: argsL).toArray v B ∧
      ∀ target, Steps p.tables e below (B.U.setTop { g with pc := g.pc + 3, stack := v.toList ++ rest }) target → Steps p.tables e below (T.setTop g) target) ∨
    (∃ (q : Addr) (vm₁ : Vm) (B : Pt), s.WarmedH vm₁ ∧ Stand p l e R s m args below meth c B.U B.locs B.cells B.slots ∧ PostX ⟨T.setVm vm₁, locs, cells, slots⟩ (Value.ref b :: argsL).toArray q B ∧
      Steps p.tables e below (T.setTop g) ((B.U.setTop { g with stack := rest }).pushFrame (.throwing q))) := by
  obtain ⟨mk, methM, hnamed, hmethM, hstM, habM⟩ := Cond.instanceMethod_spec hinst
  obtain ⟨methM', cM, hmethM', -, -, -, -, -, -, hsigM⟩ := Cond.code_spec hnamed hcode
  cases hmethM.symm.trans hmethM'
  obtain ⟨c2, r2, m2, q1, q2, q3, q4, kP, hkP, hkPi⟩ := Cond.selects_spec hsel
  cases hcls.symm.trans q1
  cases (State.methodFound?_of_named hnamed hy).symm.trans q2
  cases hnamed.symm.trans q3
  have hselP : selectMethod e.platform s.vm cellB.cls mk = .method mk := by rw [Launch.admits_selectMethod X.admits]; exact q4
  obtain ⟨vm₁, X₁, hstep₁⟩ := X.invokevirtual hexec hown hlink hnamed hmethM hstM hkP hkPi hy (a := b) (cell := cellB) hcell
    (fun z h => by rw [h] at hobj; cases hobj) hselP hmethM habM hkP hkPi (g := g) hg (argsL := argsL) (rest := rest) (hlen _ hsigM) hstack hdg
  rcases hK m meth c ⟨T.setVm vm₁, locs, cells, slots⟩ { g with stack := rest } (.invokevirtual index) mk (Value.ref b :: argsL).toArray X₁ hg hsize hdg hW (X₁.named hnamed) (hpre vm₁ X₁.warmed) with ⟨v, B, X', hpost, hsteps⟩ | ⟨q, B, X', hpost, hsteps⟩
  · exact Or.inl ⟨v, vm₁, B, X₁.warmed, X', hpost, fun target h => hstep₁ _ fun acts => by rw [doInvoke_state]; exact hsteps.trans h⟩
  · exact Or.inr ⟨q, vm₁, B, X₁.warmed, X', hpost, hstep₁ _ fun acts => by rw [doInvoke_state]; exact hsteps⟩
theorem vx_callS (X : Stand p l e R s m args below meth c T locs cells slots) (hexec : p.tables.exec = Jvm.exec) {own : String} {index : Nat} {y : MethodName} {bytes : ByteArray} {maxL : Nat} {ret : Option FieldType}
    (hown : s.vm.findClass own = some m.cls) (hlink : (Cond.methodLink own index y).before args s = true) (hstat : (Cond.static y).before args s = true) (hinit : (Cond.initialized y.cls).before args s = true)
    (hcode : (Cond.code y bytes maxL ret).before args s = true) (hy : y.cls ≠ "java/lang/invoke/MethodHandle" ∧ y.cls ≠ "java/lang/invoke/VarHandle")
    {W9 : Nat} {Pre : Pt → Array Value → Prop} {Post : Pt → Array Value → Option Value → Pt → Prop} {PostX : Pt → Array Value → Addr → Pt → Prop} (hK : vx_Back l R p e below s args y 3 W9 Pre Post PostX)
    {g : JFrame} (hg : g.method = m) (hsize : g.locals.size = c.maxLocals) {argsL rest : List Value} (hlen : ∀ sig, parseMethodDescriptor y.desc = some sig → argsL.length = sig.parameters.length)
    (hstack : g.stack = argsL.reverse ++ rest) (hW : 2 * g.monitorRoom + (rest.map fun v => v.category).sum ≤ W9) (hdg : decode c.code g.pc = .ok (.invokestatic index, 3))
    (hpre : ∀ vm₁, s.WarmedH vm₁ → Pre ⟨T.setVm vm₁, locs, cells, slots⟩ argsL.toArray) :
    (∃ (v : Option Value) (vm₁ : Vm) (B : Pt), s.WarmedH vm₁ ∧ Stand p l e R s m args below meth c B.U B.locs B.cells B.slots ∧ Post ⟨T.setVm vm₁, locs, cells, slots⟩ argsL.toArray v B ∧
      ∀ target, Steps p.tables e below (B.U.setTop { g with pc := g.pc + 3, stack := v.toList ++ rest }) target → Steps p.tables e below (T.setTop g) target) ∨
    (∃ (q : Addr) (vm₁ : Vm) (B : Pt), s.WarmedH vm₁ ∧ Stand p l e R s m args below meth c B.U B.locs B.cells B.slots ∧ PostX ⟨T.setVm vm₁, locs, cells, slots⟩ argsL.toArray q B ∧
      Steps p.tables e below (T.setTop g) ((B.U.setTop { g with stack := rest }).pushFrame (.throwing q))) := by
  obtain ⟨mk, hnamed⟩ := Cond.code_named hcode
  obtain ⟨methM, cM, hmethM, -, -, -, -, -, -, hsigM⟩ := Cond.code_spec hnamed hcode
  have hstatic : methM.isStatic = true := Cond.static_spec hnamed hmethM hstat
  obtain ⟨kP, hkP, -⟩ := className_of_methodNamed hnamed
  have hinitP : kP.init = .initialized := Cond.initialized_spec (findClass_of_methodNamed hnamed) hkP hinit
  obtain ⟨vm₁, X₁, hstep₁⟩ := X.invokestatic hexec hown hlink hnamed hmethM hstatic hkP hinitP hy (g := g) hg (argsL := argsL) (rest := rest) (hlen _ hsigM) hstack hdg
  rcases hK m meth c ⟨T.setVm vm₁, locs, cells, slots⟩ { g with stack := rest } (.invokestatic index) mk argsL.toArray X₁ hg hsize hdg hW (X₁.named hnamed) (hpre vm₁ X₁.warmed) with ⟨v, B, X', hpost, hsteps⟩ | ⟨q, B, X', hpost, hsteps⟩
  · exact Or.inl ⟨v, vm₁, B, X₁.warmed, X', hpost, fun target h => hstep₁ _ fun acts => by rw [doInvoke_state]; exact hsteps.trans h⟩
  · exact Or.inr ⟨q, vm₁, B, X₁.warmed, X', hpost, hstep₁ _ fun acts => by rw [doInvoke_state]; exact hsteps⟩
end Calls
theorem vx_cls {s : State} {T : State} {vm₁ : Vm} {E : String} {k : ClassId} (hW : s.WarmedH vm₁) (h : (T.setVm vm₁).vm.findClass E = some k) : s.vm.findClass E = some k := by
  have h1 : vm₁.findClass E = some k := h
  rw [hW.alike.findClass] at h1
  exact h1
/-- the method's frame g, with q thrown over it -/
def vx_W (p : Program) (l : Launch) (e : Env) (R : Room) (s : State) (m : MethodId) (args : Array Value) (below : List Frame) (meth : Method) (c : Code) (H : Heap) (locs : List Loc) (cells slots : Nat) (Q : State → Prop) (g : JFrame) (q : Addr) : Prop :=
  ∀ T : State, T.heap = H → Stand p l e R s m args below meth c T locs cells slots → ∃ t, Steps p.tables e below ((T.setTop g).pushFrame (.throwing q)) t ∧ Q t
def vx_Run (p : Program) (l : Launch) (e : Env) (R : Room) (s : State) (m : MethodId) (args : Array Value) (below : List Frame) (meth : Method) (c : Code) (H : Heap) (locs : List Loc) (cells slots mc ms : Nat) (g : JFrame) (rest : List Value) (Qa : State → Outcome → State → Prop) (XC : String → State → State → Prop) (free : Addr → Prop) : Prop :=
  ∀ T : State, T.heap = H → Stand p l e R s m args below meth c T locs cells slots →
    (∃ (v : Option Value) (st₀ t T' : State) (L : List Loc), st₀.heap = H ∧ Stand p l e R s m args below meth c T' (locs ++ L) (cells + mc) (slots + ms) ∧ (∀ q ∈ L, free q.base) ∧ T'.heap = t.heap ∧ T'.vm = t.vm ∧ Qa st₀ (.returned v) t ∧
      Goes p e below T g T' { g with pc := g.pc + 3, stack := v.toList ++ rest }) ∨
    (∃ (q : Addr) (st₀ t T' : State) (L : List Loc) (E : String) (ce : Cell), st₀.heap = H ∧ Stand p l e R s m args below meth c T' (locs ++ L) (cells + mc) (slots + ms) ∧ (∀ z ∈ L, free z.base) ∧ T'.heap = t.heap ∧ T'.vm = t.vm ∧ XC E st₀ t ∧ t.heap[q]? = some ce ∧ ce.vm = .none ∧ s.vm.findClass E = some ce.cls ∧
      Steps p.tables e below (T.setTop g) ((T'.setTop { g with stack := rest }).pushFrame (.throwing q)))
def vx_X {S : Type} (px : S → Prop) (B : String → S → State → Prop) (A : Nat → Prop) : String → State → State → Prop := fun E st t => ∃ u : S, px u ∧ B E u t ∧ va_F A st t
section Runs
variable {p : Program} {l : Launch} {e : Env} {R : Room} {s : State} {m : MethodId} {args : Array Value} {below : List Frame} {meth : Method} {c : Code} {H : Heap} {locs : List Loc} {cells slots : Nat}
variable {y : MethodName} {bytes cc : ByteArray} {maxL nL mc ms n index : Nat} {ret : Option FieldType} {ws : List Cond} {rm : Room} {Pc : Array Value → State → Prop} {Qc : Array Value → State → Outcome → State → Prop} {XC : String → State → State → Prop} {free : Addr → Prop} {Ts : List Cond} {own C : String} {b : Addr} {As rest : List Value} {g : JFrame}
theorem vx_callBack (cb : CallB R s args own index y bytes maxL ret ws rm mc ms n) (hM : vx_Met l y ws rm Pc Qc XC mc ms free) (hbl : FrameBlind Pc) : vx_Back l R p e below s args y 3 8 (PreOf R mc ms Pc) (PostOf Qc mc ms free) (vx_Post XC mc ms free) := by
  obtain ⟨hrc, hrs, hfr, hlo, hws, hcw, -, hini, -⟩ := cb
  exact vx_back (bytes := bytes) (maxL := maxL) (ret := ret) hM hbl hrc hrs hfr hlo hws hcw (fun a' U hW => word_at hW (Or.inl (by first | rfl | simp [Cond.onTables, Cond.keeps, Cond.steady])) hini)
theorem vx_runV (S : CallFix p m c cc nL s args Ts own) (hM : vx_Met l y ws rm Pc Qc XC mc ms free) (cw : CallW R s args own C index y bytes maxL ret ws rm mc ms n) (hp : PreV s H C b Pc As)
    (hg : g.method = m) (hn : As.length = n) (hsize : g.locals.size = nL) (hstack : g.stack = As.reverse ++ .ref b :: rest) (hW : 2 * g.monitorRoom + (rest.map fun v => v.category).sum ≤ 8) (hdg : decode cc g.pc = .ok (.invokevirtual index, 3)) (hf : cells + mc ≤ R.cells ∧ slots + ms ≤ R.slots) :
    vx_Run p l e R s m args below meth c H locs cells slots mc ms g rest (Qc (Value.ref b :: As).toArray) XC free := by
  have hK : vx_Back l R p e below s args y 3 8 (PreOf R mc ms Pc) (PostOf Qc mc ms free) (vx_Post XC mc ms free) := vx_callBack cw.1 hM hp.1
  obtain ⟨⟨-, -, -, -, -, -, hcode, -, hy, hlen, hl⟩, hin, hse⟩ := cw
  obtain ⟨hx, hb, hml, ho, -⟩ := S
  obtain ⟨-, ⟨cellB, hcB, hoB, hclB⟩, hPc⟩ := hp
  intro T hT X
  rcases vx_callV X hx (C := C) (bytes := bytes) (maxL := maxL) (ret := ret) ho hl hin hse hcode hy hK (by rw [hT]; exact hcB) hoB hclB hg (hsize.trans hml.symm) (argsL := As) (rest := rest) (fun sig h => hn.trans (hlen sig h)) hstack hW (by rw [hb]; exact hdg)
    (fun vm₁ hW₁ => ⟨hf.1, hf.2, hPc (T.setVm vm₁) hT hW₁⟩) with ⟨v, vm₁, ⟨U', l2, c2, s2⟩, hW₁, X', ⟨g', mk, t, L, e1, e2, hq, h1, hL, h2, h3⟩, st⟩ | ⟨q, vm₁, ⟨U', l2, c2, s2⟩, hW₁, X', ⟨g', mk, t, L, E, ce, e1, e2, hq, hce, hcv, hcl, h1, hL, h2, h3⟩, st⟩
  · dsimp only [Pt.U, Pt.locs, Pt.cells, Pt.slots] at X' e1 e2 h1 h2 h3 st
    subst h1; subst h2; subst h3
    exact Or.inl ⟨v, (T.setVm vm₁).calling g' mk (Value.ref b :: As).toArray, t, U', L, hT, X', hL, e1, e2, hq, st⟩
  · dsimp only [Pt.U, Pt.locs, Pt.cells, Pt.slots] at X' e1 e2 h1 h2 h3 st hcl
    subst h1; subst h2; subst h3
    exact Or.inr ⟨q, (T.setVm vm₁).calling g' mk (Value.ref b :: As).toArray, t, U', L, E, ce, hT, X', hL, e1, e2, hq, hce, hcv, vx_cls hW₁ hcl, st⟩
theorem vx_runS (S : CallFix p m c cc nL s args Ts own) (hM : vx_Met l y ws rm Pc Qc XC mc ms free) (cw : CallB R s args own index y bytes maxL ret ws rm mc ms n ∧ (Cond.static y).before args s = true) (hp : PreS s H Pc As)
    (hg : g.method = m) (hn : As.length = n) (hsize : g.locals.size = nL) (hstack : g.stack = As.reverse ++ rest) (hW : 2 * g.monitorRoom + (rest.map fun v => v.category).sum ≤ 8) (hdg : decode cc g.pc = .ok (.invokestatic index, 3)) (hf : cells + mc ≤ R.cells ∧ slots + ms ≤ R.slots) :
    vx_Run p l e R s m args below meth c H locs cells slots mc ms g rest (Qc As.toArray) XC free := by
  have hK : vx_Back l R p e below s args y 3 8 (PreOf R mc ms Pc) (PostOf Qc mc ms free) (vx_Post XC mc ms free) := vx_callBack cw.1 hM hp.1
  obtain ⟨⟨-, -, -, -, -, -, hcode, hini, hy, hlen, hl⟩, hstt⟩ := cw
  obtain ⟨hx, hb, hml, ho, -⟩ := S
  intro T hT X
  rcases vx_callS X hx (bytes := bytes) (maxL := maxL) (ret := ret) ho hl hstt hini hcode hy hK hg (hsize.trans hml.symm) (argsL := As) (rest := rest) (fun sig h => hn.trans (hlen sig h)) hstack hW (by rw [hb]; exact hdg)
    (fun vm₁ hW₁ => ⟨hf.1, hf.2, hp.2 (T.setVm vm₁) hT hW₁⟩) with ⟨v, vm₁, ⟨U', l2, c2, s2⟩, hW₁, X', ⟨g', mk, t, L, e1, e2, hq, h1, hL, h2, h3⟩, st⟩ | ⟨q, vm₁, ⟨U', l2, c2, s2⟩, hW₁, X', ⟨g', mk, t, L, E, ce, e1, e2, hq, hce, hcv, hcl, h1, hL, h2, h3⟩, st⟩
  · dsimp only [Pt.U, Pt.locs, Pt.cells, Pt.slots] at X' e1 e2 h1 h2 h3 st
    subst h1; subst h2; subst h3
    exact Or.inl ⟨v, (T.setVm vm₁).calling g' mk As.toArray, t, U', L, hT, X', hL, e1, e2, hq, st⟩
  · dsimp only [Pt.U, Pt.locs, Pt.cells, Pt.slots] at X' e1 e2 h1 h2 h3 st hcl
    subst h1; subst h2; subst h3
    exact Or.inr ⟨q, (T.setVm vm₁).calling g' mk As.toArray, t, U', L, E, ce, hT, X', hL, e1, e2, hq, hce, hcv, vx_cls hW₁ hcl, st⟩
end Runs
section Rows
variable {p : Program} {l : Launch} {e : Env} {R : Room} {s : State} {m : MethodId} {args : Array Value} {below : List Frame} {meth : Method} {c : Code} {H : Heap} {locs : List Loc} {cells slots : Nat} {Q : State → Prop}
variable {mc ms : Nat} {free : Addr → Prop} {A0 A1 : Nat → Prop} {H0 : Heap} {a : Array Value} {pc : Nat} {ls : Array Slot} {st0 rest : List Value}
theorem vx_keep {st₀ t T' : State} {L : List Loc} (h0 : st₀.heap = H) (e1 : T'.heap = t.heap) (hS : va_S A0 H0 H locs) (hA : ∀ q, q < H.size → A1 q → A0 q) (hf : ∀ q, free q → A0 q) (hL : ∀ q ∈ L, free q.base) (hF : va_F A1 st₀ t) :
    H.size ≤ T'.heap.size ∧ (∀ q : Nat, q < H.size → ¬ A1 q → T'.heap[q]? = H[q]?) ∧ va_S A0 H0 T'.heap (locs ++ L) := by
  obtain ⟨hz, hk⟩ := hF
  rw [h0] at hz hk
  exact ⟨by rw [e1]; exact hz, fun q h1 h2 => by rw [e1]; exact hk q h1 h2,
    ⟨Nat.le_trans hS.1 (by rw [e1]; exact hz), fun q h1 h2 => by rw [e1, hk q (Nat.lt_of_lt_of_le h1 hS.1) (fun z => h2 (hA q (Nat.lt_of_lt_of_le h1 hS.1) z))]; exact hS.2.1 q h1 h2, fun q hq => by
      rcases List.mem_append.mp hq with h | h
      · exact hS.2.2 q h
      · exact hf _ (hL q h)⟩⟩
theorem vx_calli {S SX : Type} {post : Int32 → S → Prop} {px : SX → Prop} {B : S → State → Prop} {BX : String → SX → State → Prop} {AX : Nat → Prop} (hr : vx_Run p l e R s m args below meth c H locs cells slots mc ms (F0 m pc ls st0) rest (va_Qi post B A1 a) (vx_X px BX AX) free) (hS : va_S A0 H0 H locs) (hA : ∀ q, q < H.size → A1 q → A0 q) (hf : ∀ q, free q → A0 q) (hAX : ∀ q, q < H.size → AX q → A0 q)
    (kx : ∀ (E : String) (ce : Cell) (q9 : Addr) (u : SX) (t : State) (H1 : Heap) (locs1 : List Loc), t.heap = H1 → s.vm.Alike t.vm → px u → BX E u t → H.size ≤ H1.size → (∀ q : Nat, q < H.size → ¬ AX q → H1[q]? = H[q]?) → va_S A0 H0 H1 locs1 → H1[q9]? = some ce → ce.vm = .none → s.vm.findClass E = some ce.cls → vx_W p l e R s m args below meth c H1 locs1 (cells + mc) (slots + ms) Q (F0 m pc ls rest) q9)
    (kk : ∀ (r : Int32) (u : S) (t : State) (H1 : Heap) (locs1 : List Loc), t.heap = H1 → s.vm.Alike t.vm → post r u → B u t → H.size ≤ H1.size → (∀ q : Nat, q < H.size → ¬ A1 q → H1[q]? = H[q]?) → va_S A0 H0 H1 locs1 → W p l e R s m args below meth c H1 locs1 (cells + mc) (slots + ms) Q (F0 m (pc + 3) ls (.int r :: rest))) : W p l e R s m args below meth c H locs cells slots Q (F0 m pc ls st0) := by
  intro T hT X
  rcases hr T hT X with ⟨v, st₀, t, T', L, h0, X', hL, e1, e2, ⟨⟨r, u, hv, hp, hb⟩, hF⟩, st⟩ | ⟨q, st₀, t, T', L, E, ce, h0, X', hL, e1, e2, ⟨u, hp, hb, hF⟩, hce, hcv, hcl, st⟩
  · cases hv
    obtain ⟨k1, k2, k3⟩ := vx_keep h0 e1 hS hA hf hL hF
    obtain ⟨t2, a1, b1⟩ := kk r u t T'.heap (locs ++ L) e1.symm (by rw [← e2]; exact X'.warmed.alike) hp hb k1 k2 k3 T' rfl X'
    exact ⟨t2, st t2 a1, b1⟩
  · obtain ⟨k1, k2, k3⟩ := vx_keep h0 e1 hS hAX hf hL hF
    obtain ⟨t2, a1, b1⟩ := kx E ce q u t T'.heap (locs ++ L) e1.symm (by rw [← e2]; exact X'.warmed.alike) hp hb k1 k2 k3 (by rw [e1]; exact hce) hcv hcl T' rfl X'
    exact ⟨t2, st.trans a1, b1⟩
theorem vx_calll {S SX : Type} {post : Int64 → S → Prop} {px : SX → Prop} {B : S → State → Prop} {BX : String → SX → State → Prop} {AX : Nat → Prop} (hr : vx_Run p l e R s m args below meth c H locs cells slots mc ms (F0 m pc ls st0) rest (va_Ql post B A1 a) (vx_X px BX AX) free) (hS : va_S A0 H0 H locs) (hA : ∀ q, q < H.size → A1 q → A0 q) (hf : ∀ q, free q → A0 q) (hAX : ∀ q, q < H.size → AX q → A0 q)
    (kx : ∀ (E : String) (ce : Cell) (q9 : Addr) (u : SX) (t : State) (H1 : Heap) (locs1 : List Loc), t.heap = H1 → s.vm.Alike t.vm → px u → BX E u t → H.size ≤ H1.size → (∀ q : Nat, q < H.size → ¬ AX q → H1[q]? = H[q]?) → va_S A0 H0 H1 locs1 → H1[q9]? = some ce → ce.vm = .none → s.vm.findClass E = some ce.cls → vx_W p l e R s m args below meth c H1 locs1 (cells + mc) (slots + ms) Q (F0 m pc ls rest) q9)
    (kk : ∀ (r : Int64) (u : S) (t : State) (H1 : Heap) (locs1 : List Loc), t.heap = H1 → s.vm.Alike t.vm → post r u → B u t → H.size ≤ H1.size → (∀ q : Nat, q < H.size → ¬ A1 q → H1[q]? = H[q]?) → va_S A0 H0 H1 locs1 → W p l e R s m args below meth c H1 locs1 (cells + mc) (slots + ms) Q (F0 m (pc + 3) ls (.long r :: rest))) : W p l e R s m args below meth c H locs cells slots Q (F0 m pc ls st0) := by
  intro T hT X
  rcases hr T hT X with ⟨v, st₀, t, T', L, h0, X', hL, e1, e2, ⟨⟨r, u, hv, hp, hb⟩, hF⟩, st⟩ | ⟨q, st₀, t, T', L, E, ce, h0, X', hL, e1, e2, ⟨u, hp, hb, hF⟩, hce, hcv, hcl, st⟩
  · cases hv
    obtain ⟨k1, k2, k3⟩ := vx_keep h0 e1 hS hA hf hL hF
    obtain ⟨t2, a1, b1⟩ := kk r u t T'.heap (locs ++ L) e1.symm (by rw [← e2]; exact X'.warmed.alike) hp hb k1 k2 k3 T' rfl X'
    exact ⟨t2, st t2 a1, b1⟩
  · obtain ⟨k1, k2, k3⟩ := vx_keep h0 e1 hS hAX hf hL hF
    obtain ⟨t2, a1, b1⟩ := kx E ce q u t T'.heap (locs ++ L) e1.symm (by rw [← e2]; exact X'.warmed.alike) hp hb k1 k2 k3 (by rw [e1]; exact hce) hcv hcl T' rfl X'
    exact ⟨t2, st.trans a1, b1⟩
theorem vx_callf {S SX : Type} {post : UInt32 → S → Prop} {px : SX → Prop} {B : S → State → Prop} {BX : String → SX → State → Prop} {AX : Nat → Prop} (hr : vx_Run p l e R s m args below meth c H locs cells slots mc ms (F0 m pc ls st0) rest (va_Qf post B A1 a) (vx_X px BX AX) free) (hS : va_S A0 H0 H locs) (hA : ∀ q, q < H.size → A1 q → A0 q) (hf : ∀ q, free q → A0 q) (hAX : ∀ q, q < H.size → AX q → A0 q)
    (kx : ∀ (E : String) (ce : Cell) (q9 : Addr) (u : SX) (t : State) (H1 : Heap) (locs1 : List Loc), t.heap = H1 → s.vm.Alike t.vm → px u → BX E u t → H.size ≤ H1.size → (∀ q : Nat, q < H.size → ¬ AX q → H1[q]? = H[q]?) → va_S A0 H0 H1 locs1 → H1[q9]? = some ce → ce.vm = .none → s.vm.findClass E = some ce.cls → vx_W p l e R s m args below meth c H1 locs1 (cells + mc) (slots + ms) Q (F0 m pc ls rest) q9)
    (kk : ∀ (r : UInt32) (u : S) (t : State) (H1 : Heap) (locs1 : List Loc), t.heap = H1 → s.vm.Alike t.vm → post r u → B u t → H.size ≤ H1.size → (∀ q : Nat, q < H.size → ¬ A1 q → H1[q]? = H[q]?) → va_S A0 H0 H1 locs1 → W p l e R s m args below meth c H1 locs1 (cells + mc) (slots + ms) Q (F0 m (pc + 3) ls (.float r :: rest))) : W p l e R s m args below meth c H locs cells slots Q (F0 m pc ls st0) := by
  intro T hT X
  rcases hr T hT X with ⟨v, st₀, t, T', L, h0, X', hL, e1, e2, ⟨⟨r, u, hv, hp, hb⟩, hF⟩, st⟩ | ⟨q, st₀, t, T', L, E, ce, h0, X', hL, e1, e2, ⟨u, hp, hb, hF⟩, hce, hcv, hcl, st⟩
  · cases hv
    obtain ⟨k1, k2, k3⟩ := vx_keep h0 e1 hS hA hf hL hF
    obtain ⟨t2, a1, b1⟩ := kk r u t T'.heap (locs ++ L) e1.symm (by rw [← e2]; exact X'.warmed.alike) hp hb k1 k2 k3 T' rfl X'
    exact ⟨t2, st t2 a1, b1⟩
  · obtain ⟨k1, k2, k3⟩ := vx_keep h0 e1 hS hAX hf hL hF
    obtain ⟨t2, a1, b1⟩ := kx E ce q u t T'.heap (locs ++ L) e1.symm (by rw [← e2]; exact X'.warmed.alike) hp hb k1 k2 k3 (by rw [e1]; exact hce) hcv hcl T' rfl X'
    exact ⟨t2, st.trans a1, b1⟩
theorem vx_calld {S SX : Type} {post : UInt64 → S → Prop} {px : SX → Prop} {B : S → State → Prop} {BX : String → SX → State → Prop} {AX : Nat → Prop} (hr : vx_Run p l e R s m args below meth c H locs cells slots mc ms (F0 m pc ls st0) rest (va_Qd post B A1 a) (vx_X px BX AX) free) (hS : va_S A0 H0 H locs) (hA : ∀ q, q < H.size → A1 q → A0 q) (hf : ∀ q, free q → A0 q) (hAX : ∀ q, q < H.size → AX q → A0 q)
    (kx : ∀ (E : String) (ce : Cell) (q9 : Addr) (u : SX) (t : State) (H1 : Heap) (locs1 : List Loc), t.heap = H1 → s.vm.Alike t.vm → px u → BX E u t → H.size ≤ H1.size → (∀ q : Nat, q < H.size → ¬ AX q → H1[q]? = H[q]?) → va_S A0 H0 H1 locs1 → H1[q9]? = some ce → ce.vm = .none → s.vm.findClass E = some ce.cls → vx_W p l e R s m args below meth c H1 locs1 (cells + mc) (slots + ms) Q (F0 m pc ls rest) q9)
    (kk : ∀ (r : UInt64) (u : S) (t : State) (H1 : Heap) (locs1 : List Loc), t.heap = H1 → s.vm.Alike t.vm → post r u → B u t → H.size ≤ H1.size → (∀ q : Nat, q < H.size → ¬ A1 q → H1[q]? = H[q]?) → va_S A0 H0 H1 locs1 → W p l e R s m args below meth c H1 locs1 (cells + mc) (slots + ms) Q (F0 m (pc + 3) ls (.double r :: rest))) : W p l e R s m args below meth c H locs cells slots Q (F0 m pc ls st0) := by
  intro T hT X
  rcases hr T hT X with ⟨v, st₀, t, T', L, h0, X', hL, e1, e2, ⟨⟨r, u, hv, hp, hb⟩, hF⟩, st⟩ | ⟨q, st₀, t, T', L, E, ce, h0, X', hL, e1, e2, ⟨u, hp, hb, hF⟩, hce, hcv, hcl, st⟩
  · cases hv
    obtain ⟨k1, k2, k3⟩ := vx_keep h0 e1 hS hA hf hL hF
    obtain ⟨t2, a1, b1⟩ := kk r u t T'.heap (locs ++ L) e1.symm (by rw [← e2]; exact X'.warmed.alike) hp hb k1 k2 k3 T' rfl X'
    exact ⟨t2, st t2 a1, b1⟩
  · obtain ⟨k1, k2, k3⟩ := vx_keep h0 e1 hS hAX hf hL hF
    obtain ⟨t2, a1, b1⟩ := kx E ce q u t T'.heap (locs ++ L) e1.symm (by rw [← e2]; exact X'.warmed.alike) hp hb k1 k2 k3 (by rw [e1]; exact hce) hcv hcl T' rfl X'
    exact ⟨t2, st.trans a1, b1⟩
theorem vx_callv {S SX : Type} {post : S → Prop} {px : SX → Prop} {B : S → State → Prop} {BX : String → SX → State → Prop} {AX : Nat → Prop} (hr : vx_Run p l e R s m args below meth c H locs cells slots mc ms (F0 m pc ls st0) rest (va_Qv post B A1 a) (vx_X px BX AX) free) (hS : va_S A0 H0 H locs) (hA : ∀ q, q < H.size → A1 q → A0 q) (hf : ∀ q, free q → A0 q) (hAX : ∀ q, q < H.size → AX q → A0 q)
    (kx : ∀ (E : String) (ce : Cell) (q9 : Addr) (u : SX) (t : State) (H1 : Heap) (locs1 : List Loc), t.heap = H1 → s.vm.Alike t.vm → px u → BX E u t → H.size ≤ H1.size → (∀ q : Nat, q < H.size → ¬ AX q → H1[q]? = H[q]?) → va_S A0 H0 H1 locs1 → H1[q9]? = some ce → ce.vm = .none → s.vm.findClass E = some ce.cls → vx_W p l e R s m args below meth c H1 locs1 (cells + mc) (slots + ms) Q (F0 m pc ls rest) q9)
    (kk : ∀ (u : S) (t : State) (H1 : Heap) (locs1 : List Loc), t.heap = H1 → s.vm.Alike t.vm → post u → B u t → H.size ≤ H1.size → (∀ q : Nat, q < H.size → ¬ A1 q → H1[q]? = H[q]?) → va_S A0 H0 H1 locs1 → W p l e R s m args below meth c H1 locs1 (cells + mc) (slots + ms) Q (F0 m (pc + 3) ls (rest))) : W p l e R s m args below meth c H locs cells slots Q (F0 m pc ls st0) := by
  intro T hT X
  rcases hr T hT X with ⟨v, st₀, t, T', L, h0, X', hL, e1, e2, ⟨⟨u, hv, hp, hb⟩, hF⟩, st⟩ | ⟨q, st₀, t, T', L, E, ce, h0, X', hL, e1, e2, ⟨u, hp, hb, hF⟩, hce, hcv, hcl, st⟩
  · cases hv
    obtain ⟨k1, k2, k3⟩ := vx_keep h0 e1 hS hA hf hL hF
    obtain ⟨t2, a1, b1⟩ := kk u t T'.heap (locs ++ L) e1.symm (by rw [← e2]; exact X'.warmed.alike) hp hb k1 k2 k3 T' rfl X'
    exact ⟨t2, st t2 a1, b1⟩
  · obtain ⟨k1, k2, k3⟩ := vx_keep h0 e1 hS hAX hf hL hF
    obtain ⟨t2, a1, b1⟩ := kx E ce q u t T'.heap (locs ++ L) e1.symm (by rw [← e2]; exact X'.warmed.alike) hp hb k1 k2 k3 (by rw [e1]; exact hce) hcv hcl T' rfl X'
    exact ⟨t2, st.trans a1, b1⟩
/-- caught by the row x of this method's table; the rows ahead don't take it -/
theorem vx_catch {own name : String} {E : String} {ce : Cell} {q : Addr} (hown : s.vm.findClass own = some m.cls) (pre : List ExceptionTableEntry) (x : ExceptionTableEntry) (suf : List ExceptionTableEntry) (hsplit : c.exceptionTable.toList = pre ++ x :: suf)
    (hpass : ∀ z ∈ pre, covers z pc = false ∨ (z.catchType ≠ 0 ∧ ∃ nm : String, (Cond.classLink own z.catchType nm).before args s = true ∧ va_Nc E nm s)) (hx : covers x pc = true) (h0 : x.catchType ≠ 0)
    (hlink : (Cond.classLink own x.catchType name).before args s = true) (hcast : (Cond.castable E name).before args s = true) (hcell : H[q]? = some ce) (hv : ce.vm = .none) (hcl : s.vm.findClass E = some ce.cls)
    (kk : W p l e R s m args below meth c H locs cells slots Q (F0 m x.handlerPc ls [.ref q])) : vx_W p l e R s m args below meth c H locs cells slots Q (F0 m pc ls rest) q := by
  intro T hT X
  have hpl : e.platform.magicAccessors = ({} : Platform).magicAccessors := by rw [X.admits.platform]
  obtain ⟨c3, c4, hc3, hc4, hasg⟩ := Cond.castable_spec hcast
  cases Option.some.inj (hc3.symm.trans hcl)
  obtain ⟨c5, hc5, hcl5⟩ := Cond.classLink_spec hown hlink e.platform hpl
  cases Option.some.inj (hc4.symm.trans hc5)
  obtain ⟨vm', X', st⟩ := X.thenCaughtThrough q (g := F0 m pc ls rest) rfl (Steps.refl _) (by rw [hT]; exact hcell) (by rw [hv]; rfl) (by obtain ⟨k9, h9, -⟩ := Vm.findClass_spec hcl; exact ⟨k9, h9⟩) pre x suf hsplit
    (fun z hz => by
      rcases hpass z hz with h | ⟨hz0, nm, hl1, hn1⟩
      · exact Or.inl h
      · obtain ⟨c6, hc6, hcl6⟩ := Cond.classLink_spec hown hl1 e.platform hpl
        obtain ⟨a8, b8, h1, h2, h3⟩ := hn1
        cases Option.some.inj (h1.symm.trans hcl)
        cases Option.some.inj (h2.symm.trans hc6)
        exact Or.inr ⟨hz0, _, hcl6, h3⟩) hx (Or.inr ⟨h0, c4, hcl5, hasg⟩)
  obtain ⟨t, a1, b1⟩ := kk (T.setVm vm') hT X'
  exact ⟨t, st.trans a1, b1⟩
end Rows
section Ends
variable {p : Program} {l : Launch} {e : Env} {R : Room} {s : State} {m : MethodId} {args : Array Value} {below : List Frame} {meth : Method} {c : Code} {H : Heap} {locs : List Loc} {cells slots : Nat} {Q : State → Prop}
variable {mc ms : Nat} {free : Addr → Prop} {A0 A1 : Nat → Prop} {H0 : Heap} {a : Array Value} {ls : Array Slot} {st0 rest : List Value}
variable {Qc : Array Value → State → Outcome → State → Prop} {XC : String → State → State → Prop}
/-- what a body that may throw owes at its end -/
def vx_MQ (below : List Frame) (Qc : Array Value → State → Outcome → State → Prop) (XC : String → State → State → Prop) (a : Array Value) (s : State) (mc ms : Nat) (free : Addr → Prop) : State → Prop := fun t =>
  ∃ o, t.status = .running ∧ Ended t below o ∧ vx_Q Qc XC mc ms free a s o t
theorem vx_ret {g : JFrame} {mc ms : Nat} (k : W p l e R s m args below meth c H locs cells slots (MQ below Qc args s mc ms free) g) : W p l e R s m args below meth c H locs cells slots (vx_MQ below Qc XC args s mc ms free) g := by
  intro T hT X
  obtain ⟨t, a1, o, b1, b2, b3, b4⟩ := k T hT X
  exact ⟨t, a1, o, b1, b2, Or.inl ⟨b3, b4⟩⟩
/-- not caught here: it goes on to the caller -/
theorem vx_widen {g : JFrame} {q : Addr} {k n : Nat} (h1 : cells ≤ k) (h2 : slots ≤ n) (kk : vx_W p l e R s m args below meth c H locs k n Q g q) : vx_W p l e R s m args below meth c H locs cells slots Q g q := fun T hT X => kk T hT (stand_widen X h1 h2)
theorem vx_out {pc : Nat} {E : String} {ce : Cell} {q : Addr} {mc ms : Nat} (hout : ∀ x ∈ c.exceptionTable.toList, covers x pc = false) (hlocks : meth.locks = false) (hcell : H[q]? = some ce) (hv : ce.vm = .none) (hcl : s.vm.findClass E = some ce.cls)
    (hx : ∀ t : State, t.heap = H → s.vm.Alike t.vm → XC E s t) (hf : ∀ z ∈ locs, free z.base) (hc : cells ≤ mc) (hs : slots ≤ ms) :
    vx_W p l e R s m args below meth c H locs cells slots (vx_MQ below Qc XC args s mc ms free) (F0 m pc ls rest) q := by
  intro T hT X
  obtain ⟨st1, hrun, hend, hW, hsm⟩ := X.leaveThrown q (g := F0 m pc ls rest) rfl rfl rfl hout hlocks
  have hcell9 : (T.setFrames (.throwing q :: below)).heap[q]? = some ce := by
    show T.heap[q]? = some ce
    rw [hT]; exact hcell
  exact ⟨_, st1, .threw q, hrun, hend, Or.inr ⟨q, rfl, E, ce, locs, hx _ hT hW.alike, hcell9, hv, hcl, hW, hsm.mono hc hs, hf⟩⟩
theorem vx_frame {U : State} {k n : Nat} (h : s.sameButNew ({ U with vm := s.vm } : State) locs k n) : s.heap.size ≤ U.heap.size ∧ ∀ q : Nat, q < s.heap.size → (∀ z ∈ locs, z.base ≠ q) → U.heap[q]? = s.heap[q]? := by
  obtain ⟨-, h2, -, -, -, h6⟩ := h
  refine ⟨h2, fun q hq hz => ?_⟩
  obtain ⟨c9, e1, e2, e3, e4⟩ := h6 q _ (Array.getElem?_eq_getElem hq)
  have hs : c9.slots = (s.heap[q]).slots := Array.ext_getElem? fun i => e4 i fun hm => hz _ hm rfl
  have h9 : c9 = s.heap[q] := by
    rw [hs] at e2
    exact e2
  have e5 : U.heap[q]? = some c9 := e1
  rw [e5, h9, Array.getElem?_eq_getElem hq]
/-- the words of a throw but the four that speak of the heap -/
def vx_no (w : Cond) : Bool := decide (w ≠ .isRef (.static Bundle.tN "UNASSIGNED_STACK" Bundle.steD)) && decide (w ≠ .isRef (.static Bundle.tN "SUPPRESSED_SENTINEL" Bundle.listD)) && decide (w ≠ .laysStatic Bundle.tN "UNASSIGNED_STACK" Bundle.steD) && decide (w ≠ .laysStatic Bundle.tN "SUPPRESSED_SENTINEL" Bundle.listD)
def vx_at0 (own : String) (ic : Nat) (X : String) (names : List String) : List Cond := (Bundle.ownAtoms0 own ic X names).filter vx_no
def vx_atS (own : String) (ic : Nat) (X : String) (names : List String) : List Cond := (Bundle.ownAtoms own ic X names).filter vx_no
/-- a word that the tables alone decide, or a good one -/
def vx_ot (w : Cond) : Bool := w.onTables || goodWord w
theorem vx_ot_at {args a' : Array Value} {s U : State} {w : Cond} (hW : s.WarmedH U.vm) (hvm : s.vm = U.vm) (hg : vx_ot w = true) (h : w.before args s = true) : w.before a' U = true := by
  simp only [vx_ot, Bool.or_eq_true] at hg
  rcases hg with hg | hg
  · exact va_tabs hg hvm h
  · exact word_at hW (good_of_word hg) h
/-- a list's words: the good ones out of the method's own list, the others by premises of their own -/
theorem vx_hat {args : Array Value} {s : State} {L B : List Cond} (h1 : ∀ w ∈ L.filter goodWord, w.before args s = true) (h2 : ∀ w ∈ L.filter (fun w => !goodWord w), w ∈ B) (h3 : ∀ w ∈ B, w.before args s = true) : ∀ w ∈ L, w.before args s = true := by
  intro w hw
  by_cases g : goodWord w = true
  · exact h1 w (List.mem_filter.mpr ⟨hw, g⟩)
  · refine h3 w (h2 w (List.mem_filter.mpr ⟨hw, ?_⟩))
    show (!goodWord w) = true
    cases hgw : goodWord w
    · rfl
    · exact absurd hgw g
theorem vx_c {args : Array Value} {s : State} {w : Cond} {B : List Cond} (h : w.before args s = true) (t : ∀ w ∈ B, w.before args s = true) : ∀ w' ∈ w :: B, w'.before args s = true := fun w' h' => (List.mem_cons.mp h').elim (fun e => by rw [e]; exact h) (t w')
theorem vx_n {args : Array Value} {s : State} : ∀ w ∈ ([] : List Cond), w.before args s = true := fun _ h => nomatch h
theorem vx_own {args : Array Value} {s : State} {L : List Cond} (h1 : ∀ w ∈ L.filter vx_no, w.before args s = true)
    (hU : (Cond.isRef (.static Bundle.tN "UNASSIGNED_STACK" Bundle.steD)).before args s = true) (hN : (Cond.isRef (.static Bundle.tN "SUPPRESSED_SENTINEL" Bundle.listD)).before args s = true)
    (lU : (Cond.laysStatic Bundle.tN "UNASSIGNED_STACK" Bundle.steD).before args s = true) (lN : (Cond.laysStatic Bundle.tN "SUPPRESSED_SENTINEL" Bundle.listD).before args s = true) : ∀ w ∈ L, w.before args s = true := by
  intro w hw
  by_cases e1 : w = .isRef (.static Bundle.tN "UNASSIGNED_STACK" Bundle.steD)
  · rw [e1]; exact hU
  · by_cases e2 : w = .isRef (.static Bundle.tN "SUPPRESSED_SENTINEL" Bundle.listD)
    · rw [e2]; exact hN
    · by_cases e3 : w = .laysStatic Bundle.tN "UNASSIGNED_STACK" Bundle.steD
      · rw [e3]; exact lU
      · by_cases e4 : w = .laysStatic Bundle.tN "SUPPRESSED_SENTINEL" Bundle.listD
        · rw [e4]; exact lN
        · exact h1 w (List.mem_filter.mpr ⟨hw, by unfold vx_no; rw [decide_eq_true e1, decide_eq_true e2, decide_eq_true e3, decide_eq_true e4]; rfl⟩)
/-- where a static field lies, its class's statics cell in H -/
def vx_L (C n d : String) (A : Nat → Prop) (U : State) (H : Heap) : Prop := ∃ (c : ClassId) (k : Class) (i : Nat) (f : Field) (a : Nat) (cell : Cell), U.vm.findClass C = some c ∧ U.fieldFound? C n d = some (c, k, i, f) ∧ f.isStatic = true ∧ k.statics = some a ∧ H[a]? = some cell ∧ cell.vm.isStatics = true ∧ cell.cls = c ∧ f.slot < cell.slots.size ∧ k.staticTypes[f.slot]? = some f.type ∧ ¬ A a
theorem vx_L.moved {C n d : String} {A : Nat → Prop} {u U : State} {H : Heap} (hvm : u.vm.Alike U.vm) (h : vx_L C n d A u H) : vx_L C n d A U H := by
  obtain ⟨c, k, i, f, a, cell, h1, h2, h3, h4, h5, h6, h7, h8, h9, h10⟩ := h
  obtain ⟨k', hi', he⟩ := State.fieldFound?_setVm hvm h2
  exact ⟨c, k', i, f, a, cell, by rw [hvm.findClass]; exact h1, hi', h3, by rw [he]; exact h4, h5, h6, h7, h8, by rw [he]; exact h9, h10⟩
theorem vx_L.kept {C n d : String} {A : Nat → Prop} {U : State} {H H1 : Heap} (h : vx_L C n d A U H) (hq : ∀ a : Nat, a < H.size → ¬ A a → H1[a]? = H[a]?) : vx_L C n d A U H1 := by
  obtain ⟨c, k, i, f, a, cell, h1, h2, h3, h4, h5, h6, h7, h8, h9, h10⟩ := h
  exact ⟨c, k, i, f, a, cell, h1, h2, h3, h4, by rw [hq a (Array.getElem?_eq_some_iff.mp h5).1 h10]; exact h5, h6, h7, h8, h9, h10⟩
theorem vx_L.narrow {C n d : String} {A B : Nat → Prop} {U : State} {H : Heap} (h : vx_L C n d A U H) (hAB : ∀ q, B q → A q) : vx_L C n d B U H := by
  obtain ⟨c, k, i, f, a, cell, h1, h2, h3, h4, h5, h6, h7, h8, h9, h10⟩ := h
  exact ⟨c, k, i, f, a, cell, h1, h2, h3, h4, h5, h6, h7, h8, h9, fun z => h10 (hAB _ z)⟩
theorem vx_L.word {C n d : String} {A : Nat → Prop} {s : State} {args : Array Value} (h : vx_L C n d A s s.heap) : (Cond.laysStatic C n d).before args s = true := by
  obtain ⟨c, k, i, f, a, cell, h1, h2, h3, h4, h5, h6, h7, h8, h9, -⟩ := h
  show (Cond.laysStatic C n d).holds args s none s [] = true
  exact Cond.laysStatic_of h1 h2 h3 h4 h5 h6 h7 h8 h9
/-- .. and what it holds: null or some reference -/
def vx_Zq (C n d : String) (A : Nat → Prop) (U : State) (H : Heap) : Prop := va_Zq C n d A U H ∧ vx_L C n d A U H
theorem vx_Zq.moved {C n d : String} {A : Nat → Prop} {u U : State} {H : Heap} (hvm : u.vm.Alike U.vm) (h : vx_Zq C n d A u H) : vx_Zq C n d A U H := ⟨va_Zq.moved hvm h.1, vx_L.moved hvm h.2⟩
theorem vx_Zq.kept {C n d : String} {A : Nat → Prop} {U : State} {H H1 : Heap} (h : vx_Zq C n d A U H) (hq : ∀ a : Nat, a < H.size → ¬ A a → H1[a]? = H[a]?) : vx_Zq C n d A U H1 := ⟨va_Zq.kept h.1 hq, vx_L.kept h.2 hq⟩
theorem vx_Zq.narrow {C n d : String} {A B : Nat → Prop} {U : State} {H : Heap} (h : vx_Zq C n d A U H) (hAB : ∀ q, B q → A q) : vx_Zq C n d B U H := ⟨va_Zq.narrow h.1 hAB, vx_L.narrow h.2 hAB⟩
theorem vx_Zqof {args : Array Value} {s : State} {C n d : String} {A : Nat → Prop} (hl : (Cond.laysStatic C n d).before args s = true) (hini : (Cond.initialized C).before args s = true) (h : (Cond.isRef (.static C n d)).before args s = true) (hA : ∀ a : Nat, a < s.heap.size → ¬ A a) : vx_Zq C n d A s s.heap := by
  refine ⟨va_Zqof hl hini h hA, ?_⟩
  obtain ⟨c, k, i, f, a, cell, h1, h2, h3, h4, h5, h6, h7, h8, h9⟩ := Cond.laysStatic_spec hl
  exact ⟨c, k, i, f, a, cell, h1, h2, h3, h4, h5, h6, h7, h8, h9, hA a (Array.getElem?_eq_some_iff.mp h5).1⟩
theorem vx_isRef {C n d : String} {v : Value} {A : Nat → Prop} {s : State} {args : Array Value} (h : va_Z C n d v A s s.heap) (hv : v.isRef = true) : (Cond.isRef (.static C n d)).before args s = true := by
  obtain ⟨cf, kf, fi, f, a, cell, h1, h2, h3, h4, h5, h6, h7, -⟩ := h
  have he : (Term.static C n d).eval args s none [] s = some v := by
    simp [Term.eval, State.fieldNamed?, h1, h2, h4, h5, h6, h7]
  simp only [Cond.before, Cond.holds, Cond.value, he]
  cases v <;> simp_all [Value.isRef]
theorem vx_isRefq {C n d : String} {A : Nat → Prop} {s : State} {args : Array Value} (h : va_Zq C n d A s s.heap) : (Cond.isRef (.static C n d)).before args s = true := by
  rcases h with h | ⟨t, h⟩
  · exact vx_isRef h rfl
  · exact vx_isRef h rfl
/-- the same frame, seen from here: as if the method were called anew in this heap -/
theorem vx_rebase {T : State} (X : Stand p l e R s m args below meth c T locs cells slots) {R' : Room} (hf : R'.frames ≤ R.frames) (hl : R'.locals ≤ R.locals) (hc : cells + R'.cells ≤ R.cells) (hs : slots + R'.slots ≤ R.slots) :
    Stand p l e R' ((T.setVm s.vm).setFrames (.invoking m args :: below)) m args below meth c T [] 0 0 := by
  have htop : (T.setVm s.vm).topJava?.isSome := X.here.top
  have hF : ((T.setVm s.vm).setFrames (.invoking m args :: below)).frames = .invoking m args :: below := State.frames_setFrames _ (State.cur_lt_of_top htop)
  obtain ⟨g₀, hg0⟩ := Option.isSome_iff_exists.mp htop
  obtain ⟨r, hr⟩ := State.topJava?_eq_some.mp hg0
  have hl9 : e.platform.stackLimits (T.setVm s.vm).me = e.platform.stackLimits s.me := X.limits
  have hb9 : (T.setVm s.vm).me.stackBytes = s.me.stackBytes := X.bytes
  refine ⟨X.admits, X.cas, X.clock, hF, ?_, X.hears, X.method, X.code, X.here, X.tail, X.warmed, ?_, ?_, ?_⟩
  · have h := X.room
    have hU : ((T.setVm s.vm).setFrames (.invoking m args :: below)).localsInUse = s.localsInUse := by
      rw [State.localsInUse_invoking hF (meth := meth) (c := c) X.method X.code, State.localsInUse_invoking X.frames X.method X.code]
    simp only [State.hasRoom, Bool.and_eq_true, decide_eq_true_eq] at h ⊢
    obtain ⟨⟨⟨⟨h1, h2, h3, h4, h5, h6⟩, h7⟩, h8⟩, h9⟩ := h
    rw [X.frames, List.length_cons] at h2 h3
    have q1 := X.heapSize
    have q2 := X.used
    simp only [hF, hU, List.length_cons, State.stackLimits_setFrames, State.stackBytes_setFrames, hl9, hb9]
    refine ⟨⟨⟨⟨by omega, by omega, by omega, by omega, by omega, h6⟩, ?_⟩, ?_⟩, X.book⟩
    · show T.heap.size + R'.cells ≤ e.platform.maxCells
      omega
    · show T.slotsUsed + R'.slots ≤ e.platform.maxSlots
      omega
  · rw [State.stackLimits_setFrames]; rfl
  · rw [State.stackBytes_setFrames]; rfl
  · refine ⟨?_, Nat.le_refl _, Nat.le_refl _, ?_, ?_, fun a c9 h9 => ⟨c9, h9, rfl, rfl, fun _ _ => rfl⟩⟩
    · obtain ⟨t, ht, -⟩ := State.frames_cons hr
      show T.setVm s.vm = { ((T.setVm s.vm).setFrames (.invoking m args :: below)).setFrames (T.setVm s.vm).frames with heap := T.heap, slotsUsed := T.slotsUsed }
      rw [State.setFrames_setFrames, State.setFrames_self ht]
      rfl
    · show T.slotsUsed = T.slotsUsed + ((T.heap.toList.drop T.heap.size).map (·.slots.size)).sum
      rw [List.drop_eq_nil_of_le (Nat.le_of_eq Array.length_toList)]
      rfl
    · show ((T.heap.toList.drop T.heap.size).map (·.slots.size)).sum ≤ 0
      rw [List.drop_eq_nil_of_le (Nat.le_of_eq Array.length_toList)]
      exact Nat.le_refl _
/-- 'throw new E()': new; dup; invokespecial; athrow -/
theorem vx_throw0 {cc : ByteArray} {pc : Nat} (hexec : p.tables.exec = Jvm.exec) (hb : c.code = cc) (hl : l.stackTraces = false) {own cls : String} {names : List String} {ik ic mc ms : Nat} {A : Nat → Prop}
    (hown : s.vm.findClass own = some m.cls) (hcls : Bundle.fit cls = true) (hnames : ∀ n ∈ names, Bundle.fit n = true)
    (hk : (Cond.classLink own ik cls).before args s = true) (hini : (Cond.initialized cls).before args s = true) (hat : ∀ w ∈ vx_at0 own ic cls names, w.before args s = true)
    (hgood : ∀ w ∈ Cond.classLink own ik cls :: Cond.initialized cls :: vx_at0 own ic cls names, vx_ot w = true)
    (hU : vx_Zq Bundle.tN "UNASSIGNED_STACK" Bundle.steD A s s.heap) (hN : vx_Zq Bundle.tN "SUPPRESSED_SENTINEL" Bundle.listD A s s.heap) (hS : va_S A s.heap H locs) (hsize : ls.size = c.maxLocals)
    (d0 : decode cc pc = .ok (.new ik, 3)) (d3 : decode cc (pc + 3) = .ok (.dup, 1)) (d4 : decode cc (pc + 4) = .ok (.invokespecial ic, 3)) (d7 : decode cc (pc + 7) = .ok (.athrow, 1))
    (hout : ∀ x ∈ c.exceptionTable.toList, covers x (pc + 7) = false)
    (hRframes : names.length + 3 < R.frames) (hRlocals : (rest.map fun v => v.category).sum + (13 * (names.length + 1) + 42) ≤ R.locals) (hRcells : cells + 1 ≤ R.cells) (hRslots : slots + 6 ≤ R.slots) (hlocks : meth.locks = false)
    (hx : ∀ t : State, s.vm.Alike t.vm → H.size ≤ t.heap.size → (∀ q : Nat, q < H.size → t.heap[q]? = H[q]?) → XC cls s t)
    (hf : ∀ z ∈ locs, free z.base) (hc : cells + 1 ≤ mc) (hs : slots + 6 ≤ ms) :
    W p l e R s m args below meth c H locs cells slots (vx_MQ below Qc XC args s mc ms free) (F0 m pc ls rest) := by
  intro T hT X
  have htr : e.platform.stackTraces = false := (show e.platform.stackTraces = l.stackTraces by rw [X.admits.platform]).trans hl
  have Y := vx_rebase X (R' := { frames := R.frames, locals := R.locals, cells := 1, slots := 6 }) (Nat.le_refl _) (Nat.le_refl _) hRcells hRslots
  obtain ⟨s', hA⟩ : ∃ z, z = (T.setVm s.vm).setFrames (.invoking m args :: below) := ⟨_, rfl⟩
  rw [← hA] at Y
  have hvm : s'.vm = s.vm := by rw [hA]; rfl
  have hhp : s'.heap = H := by rw [hA]; exact hT
  have hW0 : s.WarmedH s'.vm := by rw [hvm]; exact State.WarmedH.refl s
  have hat' : ∀ w ∈ vx_at0 own ic cls names, w.before args s' = true := fun w hw => vx_ot_at hW0 hvm.symm (hgood w (List.mem_cons_of_mem _ (List.mem_cons_of_mem _ hw))) (hat w hw)
  have hk' : (Cond.classLink own ik cls).before args s' = true := vx_ot_at hW0 hvm.symm (hgood _ List.mem_cons_self) hk
  have hini' : (Cond.initialized cls).before args s' = true := vx_ot_at hW0 hvm.symm (hgood _ (List.mem_cons_of_mem _ List.mem_cons_self)) hini
  have hU' : vx_Zq Bundle.tN "UNASSIGNED_STACK" Bundle.steD A s' s'.heap := by rw [hhp]; exact vx_Zq.moved hW0.alike (hU.kept hS.2.1)
  have hN' : vx_Zq Bundle.tN "SUPPRESSED_SENTINEL" Bundle.listD A s' s'.heap := by rw [hhp]; exact vx_Zq.moved hW0.alike (hN.kept hS.2.1)
  have h : ∀ w ∈ Bundle.ownAtoms0 own ic cls names, w.before args s' = true := vx_own hat' (vx_isRefq hU'.1) (vx_isRefq hN'.1) hU'.2.word hN'.2.word
  have hown' : s'.vm.findClass own = some m.cls := by rw [hvm]; exact hown
  have hins : (Cond.instantiable cls 6).before args s' = true := h _ (by simp [Bundle.ownAtoms0])
  obtain ⟨vm₁, cX, kX, hfX, hkX, -, -, X₁, st1⟩ := Y.newCold hexec (own := own) (C := cls) (index := ik) (n := 6) hown' hk' hins hini'
    (g := F0 m pc ls rest) rfl (by rw [hb]; exact d0) (Nat.le_refl _) (Nat.le_refl _)
  generalize hT1 : (T.setVm vm₁).pushCell { cls := cX, slots := kX.instanceTypes.map defaultValue, vm := .none } = T1 at X₁ st1
  have hcat : (Value.ref T.heap.size).category = 1 := rfl
  have hcellA : T1.heap[T.heap.size]? = some (freshCell cX kX) := by rw [← hT1]; exact State.heap_pushCell_size _ _
  have d3' : decode c.code (pc + 3) = .ok (.dup, 1) := by rw [hb]; exact d3
  obtain ⟨U, hsteps, hrun, hend, hW, hsame, ce, hce, hO⟩ := X₁.ctorThrow0 hexec htr (own := own) (cls := cls) (names := names) (ic := ic) hown' hcls hnames h (fun x hx => nomatch hx) hfX hkX hcellA (by rw [hhp, hT]; exact Nat.le_refl _)
    (g := { method := m, pc := pc + 4, locals := ls, stack := .ref T.heap.size :: .ref T.heap.size :: rest, locked := none }) rfl hsize rfl rfl (rest := rest) rfl
    (by rw [hb]; exact d4) (by rw [hb]; exact d7) hout hRframes (by simp only [List.map_cons, List.sum_cons, hcat]; omega) hlocks
  obtain ⟨f1, f2⟩ := vx_frame hsame
  rw [hhp] at f1 f2
  have hWs : s.WarmedH U.vm := State.WarmedH.trans hW0 hW
  have hcl : s.vm.findClass cls = some ce.cls := by
    have h9 := hO.cls
    rw [hvm] at h9
    exact h9
  have hall : s.sameButNew ({ U with vm := s.vm } : State) locs mc ms := by
    subst hA
    obtain ⟨e1, e2⟩ := hsame
    rw [State.setFrames_setFrames] at e1
    have h2 : (T.setVm s.vm).sameButNew ({ U with vm := s.vm } : State) [] (0 + 1) (0 + 6) := ⟨e1, e2⟩
    have h3 := X.same.trans h2
    rw [List.append_nil] at h3
    exact h3.mono hc hs
  refine ⟨U, ?_, .threw T.heap.size, hrun, hend, Or.inr ⟨T.heap.size, rfl, cls, ce, locs, hx U hWs.alike f1 (fun q hq => f2 q hq (fun z hz => nomatch hz)), hce, hO.vm, hcl, hWs, hall, hf⟩⟩
  refine st1 _ ?_
  show Steps p.tables e below (T1.setTop { method := m, pc := pc + 3, locals := ls, stack := .ref T.heap.size :: rest, locked := none }) _
  jvm_step X₁.here [X₁.here.top, hexec, d3', Value.category]
  exact hsteps
/-- 'throw new E("text")': new; dup; ldc; invokespecial; athrow -/
theorem vx_throwS {cc : ByteArray} {pc : Nat} (hexec : p.tables.exec = Jvm.exec) (hb : c.code = cc) (hl : l.stackTraces = false) {own cls text : String} {names : List String} {ik is ic mc ms sa : Nat} {A : Nat → Prop}
    (hown : s.vm.findClass own = some m.cls) (hcls : Bundle.fit cls = true) (hnames : ∀ n ∈ names, Bundle.fit n = true)
    (hk : (Cond.classLink own ik cls).before args s = true) (hini : (Cond.initialized cls).before args s = true) (hstr : vk_R own is text sa s) (hat : ∀ w ∈ vx_atS own ic cls names, w.before args s = true)
    (hgood : ∀ w ∈ Cond.classLink own ik cls :: Cond.initialized cls :: vx_atS own ic cls names, vx_ot w = true)
    (hU : vx_Zq Bundle.tN "UNASSIGNED_STACK" Bundle.steD A s s.heap) (hN : vx_Zq Bundle.tN "SUPPRESSED_SENTINEL" Bundle.listD A s s.heap) (hS : va_S A s.heap H locs) (hsize : ls.size = c.maxLocals)
    (d0 : decode cc pc = .ok (.new ik, 3)) (d3 : decode cc (pc + 3) = .ok (.dup, 1)) (d4 : decode cc (pc + 4) = .ok (.ldc is, 2)) (d6 : decode cc (pc + 6) = .ok (.invokespecial ic, 3)) (d9 : decode cc (pc + 9) = .ok (.athrow, 1))
    (hout : ∀ x ∈ c.exceptionTable.toList, covers x (pc + 9) = false)
    (hRframes : names.length + 3 < R.frames) (hRlocals : (rest.map fun v => v.category).sum + (13 * (names.length + 1) + 43) ≤ R.locals) (hRcells : cells + 1 ≤ R.cells) (hRslots : slots + 6 ≤ R.slots) (hlocks : meth.locks = false)
    (hx : ∀ t : State, s.vm.Alike t.vm → H.size ≤ t.heap.size → (∀ q : Nat, q < H.size → t.heap[q]? = H[q]?) → XC cls s t)
    (hf : ∀ z ∈ locs, free z.base) (hc : cells + 1 ≤ mc) (hs : slots + 6 ≤ ms) :
    W p l e R s m args below meth c H locs cells slots (vx_MQ below Qc XC args s mc ms free) (F0 m pc ls rest) := by
  intro T hT X
  have htr : e.platform.stackTraces = false := (show e.platform.stackTraces = l.stackTraces by rw [X.admits.platform]).trans hl
  have Y := vx_rebase X (R' := { frames := R.frames, locals := R.locals, cells := 1, slots := 6 }) (Nat.le_refl _) (Nat.le_refl _) hRcells hRslots
  obtain ⟨s', hA⟩ : ∃ z, z = (T.setVm s.vm).setFrames (.invoking m args :: below) := ⟨_, rfl⟩
  rw [← hA] at Y
  have hvm : s'.vm = s.vm := by rw [hA]; rfl
  have hhp : s'.heap = H := by rw [hA]; exact hT
  have hW0 : s.WarmedH s'.vm := by rw [hvm]; exact State.WarmedH.refl s
  have hat' : ∀ w ∈ vx_atS own ic cls names, w.before args s' = true := fun w hw => vx_ot_at hW0 hvm.symm (hgood w (List.mem_cons_of_mem _ (List.mem_cons_of_mem _ hw))) (hat w hw)
  have hk' : (Cond.classLink own ik cls).before args s' = true := vx_ot_at hW0 hvm.symm (hgood _ List.mem_cons_self) hk
  have hini' : (Cond.initialized cls).before args s' = true := vx_ot_at hW0 hvm.symm (hgood _ (List.mem_cons_of_mem _ List.mem_cons_self)) hini
  have hU' : vx_Zq Bundle.tN "UNASSIGNED_STACK" Bundle.steD A s' s'.heap := by rw [hhp]; exact vx_Zq.moved hW0.alike (hU.kept hS.2.1)
  have hN' : vx_Zq Bundle.tN "SUPPRESSED_SENTINEL" Bundle.listD A s' s'.heap := by rw [hhp]; exact vx_Zq.moved hW0.alike (hN.kept hS.2.1)
  have h : ∀ w ∈ Bundle.ownAtoms own ic cls names, w.before args s' = true := vx_own hat' (vx_isRefq hU'.1) (vx_isRefq hN'.1) hU'.2.word hN'.2.word
  have hown' : s'.vm.findClass own = some m.cls := by rw [hvm]; exact hown
  have hins : (Cond.instantiable cls 6).before args s' = true := h _ (by simp [Bundle.ownAtoms])
  obtain ⟨vm₁, cX, kX, hfX, hkX, -, -, X₁, st1⟩ := Y.newCold hexec (own := own) (C := cls) (index := ik) (n := 6) hown' hk' hins hini'
    (g := F0 m pc ls rest) rfl (by rw [hb]; exact d0) (Nat.le_refl _) (Nat.le_refl _)
  generalize hT1 : (T.setVm vm₁).pushCell { cls := cX, slots := kX.instanceTypes.map defaultValue, vm := .none } = T1 at X₁ st1
  have hcat : (Value.ref T.heap.size).category = 1 := rfl
  have hcellA : T1.heap[T.heap.size]? = some (freshCell cX kX) := by rw [← hT1]; exact State.heap_pushCell_size _ _
  have d3' : decode c.code (pc + 3) = .ok (.dup, 1) := by rw [hb]; exact d3
  have d4' : decode c.code (pc + 4) = .ok (.ldc is, 2) := by rw [hb]; exact d4
  have hstr' : vk_R own is text sa s' := vk_R.warm hW0 hstr
  obtain ⟨U, hsteps, hrun, hend, hW, hsame, ce, hce, hO⟩ := X₁.ctorThrowS hexec htr (own := own) (cls := cls) (names := names) (ic := ic) hown' hcls hnames h (fun x hx => nomatch hx) hfX hkX hcellA (by rw [hhp, hT]; exact Nat.le_refl _) (msg := .ref sa) rfl
    (g := { method := m, pc := pc + 6, locals := ls, stack := .ref sa :: .ref T.heap.size :: .ref T.heap.size :: rest, locked := none }) rfl hsize rfl rfl (rest := rest) rfl
    (by rw [hb]; exact d6) (by rw [hb]; exact d9) hout hRframes (by simp only [List.map_cons, List.sum_cons, hcat]; omega) hlocks
  obtain ⟨f1, f2⟩ := vx_frame hsame
  rw [hhp] at f1 f2
  have hWs : s.WarmedH U.vm := State.WarmedH.trans hW0 hW
  have hcl : s.vm.findClass cls = some ce.cls := by
    have h9 := hO.cls
    rw [hvm] at h9
    exact h9
  have hall : s.sameButNew ({ U with vm := s.vm } : State) locs mc ms := by
    subst hA
    obtain ⟨e1, e2⟩ := hsame
    rw [State.setFrames_setFrames] at e1
    have h2 : (T.setVm s.vm).sameButNew ({ U with vm := s.vm } : State) [] (0 + 1) (0 + 6) := ⟨e1, e2⟩
    have h3 := X.same.trans h2
    rw [List.append_nil] at h3
    exact h3.mono hc hs
  refine ⟨U, ?_, .threw T.heap.size, hrun, hend, Or.inr ⟨T.heap.size, rfl, cls, ce, locs, hx U hWs.alike f1 (fun q hq => f2 q hq (fun z hz => nomatch hz)), hce, hO.vm, hcl, hWs, hall, hf⟩⟩
  refine st1 _ ?_
  show Steps p.tables e below (T1.setTop { method := m, pc := pc + 3, locals := ls, stack := .ref T.heap.size :: rest, locked := none }) _
  jvm_step X₁.here [X₁.here.top, hexec, d3', Value.category]
  exact X₁.ldcString hexec (own := own) (text := text) (index := is) (a := sa) hown' hstr'.1 hstr'.2
    (g := { method := m, pc := pc + 4, locals := ls, stack := .ref T.heap.size :: .ref T.heap.size :: rest, locked := none }) rfl d4' _ hsteps
/-- 'throw new E("text")', the text by a wide index -/
theorem vx_throwSW {cc : ByteArray} {pc : Nat} (hexec : p.tables.exec = Jvm.exec) (hb : c.code = cc) (hl : l.stackTraces = false) {own cls text : String} {names : List String} {ik is ic mc ms sa : Nat} {A : Nat → Prop}
    (hown : s.vm.findClass own = some m.cls) (hcls : Bundle.fit cls = true) (hnames : ∀ n ∈ names, Bundle.fit n = true)
    (hk : (Cond.classLink own ik cls).before args s = true) (hini : (Cond.initialized cls).before args s = true) (hstr : vk_R own is text sa s) (hat : ∀ w ∈ vx_atS own ic cls names, w.before args s = true)
    (hgood : ∀ w ∈ Cond.classLink own ik cls :: Cond.initialized cls :: vx_atS own ic cls names, vx_ot w = true)
    (hU : vx_Zq Bundle.tN "UNASSIGNED_STACK" Bundle.steD A s s.heap) (hN : vx_Zq Bundle.tN "SUPPRESSED_SENTINEL" Bundle.listD A s s.heap) (hS : va_S A s.heap H locs) (hsize : ls.size = c.maxLocals)
    (d0 : decode cc pc = .ok (.new ik, 3)) (d3 : decode cc (pc + 3) = .ok (.dup, 1)) (d4 : decode cc (pc + 4) = .ok (.ldc_w is, 3)) (d7 : decode cc (pc + 7) = .ok (.invokespecial ic, 3)) (d10 : decode cc (pc + 10) = .ok (.athrow, 1))
    (hout : ∀ x ∈ c.exceptionTable.toList, covers x (pc + 10) = false)
    (hRframes : names.length + 3 < R.frames) (hRlocals : (rest.map fun v => v.category).sum + (13 * (names.length + 1) + 43) ≤ R.locals) (hRcells : cells + 1 ≤ R.cells) (hRslots : slots + 6 ≤ R.slots) (hlocks : meth.locks = false)
    (hx : ∀ t : State, s.vm.Alike t.vm → H.size ≤ t.heap.size → (∀ q : Nat, q < H.size → t.heap[q]? = H[q]?) → XC cls s t)
    (hf : ∀ z ∈ locs, free z.base) (hc : cells + 1 ≤ mc) (hs : slots + 6 ≤ ms) :
    W p l e R s m args below meth c H locs cells slots (vx_MQ below Qc XC args s mc ms free) (F0 m pc ls rest) := by
  intro T hT X
  have htr : e.platform.stackTraces = false := (show e.platform.stackTraces = l.stackTraces by rw [X.admits.platform]).trans hl
  have Y := vx_rebase X (R' := { frames := R.frames, locals := R.locals, cells := 1, slots := 6 }) (Nat.le_refl _) (Nat.le_refl _) hRcells hRslots
  obtain ⟨s', hA⟩ : ∃ z, z = (T.setVm s.vm).setFrames (.invoking m args :: below) := ⟨_, rfl⟩
  rw [← hA] at Y
  have hvm : s'.vm = s.vm := by rw [hA]; rfl
  have hhp : s'.heap = H := by rw [hA]; exact hT
  have hW0 : s.WarmedH s'.vm := by rw [hvm]; exact State.WarmedH.refl s
  have hat' : ∀ w ∈ vx_atS own ic cls names, w.before args s' = true := fun w hw => vx_ot_at hW0 hvm.symm (hgood w (List.mem_cons_of_mem _ (List.mem_cons_of_mem _ hw))) (hat w hw)
  have hk' : (Cond.classLink own ik cls).before args s' = true := vx_ot_at hW0 hvm.symm (hgood _ List.mem_cons_self) hk
  have hini' : (Cond.initialized cls).before args s' = true := vx_ot_at hW0 hvm.symm (hgood _ (List.mem_cons_of_mem _ List.mem_cons_self)) hini
  have hU' : vx_Zq Bundle.tN "UNASSIGNED_STACK" Bundle.steD A s' s'.heap := by rw [hhp]; exact vx_Zq.moved hW0.alike (hU.kept hS.2.1)
  have hN' : vx_Zq Bundle.tN "SUPPRESSED_SENTINEL" Bundle.listD A s' s'.heap := by rw [hhp]; exact vx_Zq.moved hW0.alike (hN.kept hS.2.1)
  have h : ∀ w ∈ Bundle.ownAtoms own ic cls names, w.before args s' = true := vx_own hat' (vx_isRefq hU'.1) (vx_isRefq hN'.1) hU'.2.word hN'.2.word
  have hown' : s'.vm.findClass own = some m.cls := by rw [hvm]; exact hown
  have hins : (Cond.instantiable cls 6).before args s' = true := h _ (by simp [Bundle.ownAtoms])
  obtain ⟨vm₁, cX, kX, hfX, hkX, -, -, X₁, st1⟩ := Y.newCold hexec (own := own) (C := cls) (index := ik) (n := 6) hown' hk' hins hini'
    (g := F0 m pc ls rest) rfl (by rw [hb]; exact d0) (Nat.le_refl _) (Nat.le_refl _)
  generalize hT1 : (T.setVm vm₁).pushCell { cls := cX, slots := kX.instanceTypes.map defaultValue, vm := .none } = T1 at X₁ st1
  have hcat : (Value.ref T.heap.size).category = 1 := rfl
  have hcellA : T1.heap[T.heap.size]? = some (freshCell cX kX) := by rw [← hT1]; exact State.heap_pushCell_size _ _
  have d3' : decode c.code (pc + 3) = .ok (.dup, 1) := by rw [hb]; exact d3
  have d4' : decode c.code (pc + 4) = .ok (.ldc_w is, 3) := by rw [hb]; exact d4
  have hstr' : vk_R own is text sa s' := vk_R.warm hW0 hstr
  obtain ⟨U, hsteps, hrun, hend, hW, hsame, ce, hce, hO⟩ := X₁.ctorThrowS hexec htr (own := own) (cls := cls) (names := names) (ic := ic) hown' hcls hnames h (fun x hx => nomatch hx) hfX hkX hcellA (by rw [hhp, hT]; exact Nat.le_refl _) (msg := .ref sa) rfl
    (g := { method := m, pc := pc + 7, locals := ls, stack := .ref sa :: .ref T.heap.size :: .ref T.heap.size :: rest, locked := none }) rfl hsize rfl rfl (rest := rest) rfl
    (by rw [hb]; exact d7) (by rw [hb]; exact d10) hout hRframes (by simp only [List.map_cons, List.sum_cons, hcat]; omega) hlocks
  obtain ⟨f1, f2⟩ := vx_frame hsame
  rw [hhp] at f1 f2
  have hWs : s.WarmedH U.vm := State.WarmedH.trans hW0 hW
  have hcl : s.vm.findClass cls = some ce.cls := by
    have h9 := hO.cls
    rw [hvm] at h9
    exact h9
  have hall : s.sameButNew ({ U with vm := s.vm } : State) locs mc ms := by
    subst hA
    obtain ⟨e1, e2⟩ := hsame
    rw [State.setFrames_setFrames] at e1
    have h2 : (T.setVm s.vm).sameButNew ({ U with vm := s.vm } : State) [] (0 + 1) (0 + 6) := ⟨e1, e2⟩
    have h3 := X.same.trans h2
    rw [List.append_nil] at h3
    exact h3.mono hc hs
  refine ⟨U, ?_, .threw T.heap.size, hrun, hend, Or.inr ⟨T.heap.size, rfl, cls, ce, locs, hx U hWs.alike f1 (fun q hq => f2 q hq (fun z hz => nomatch hz)), hce, hO.vm, hcl, hWs, hall, hf⟩⟩
  refine st1 _ ?_
  show Steps p.tables e below (T1.setTop { method := m, pc := pc + 3, locals := ls, stack := .ref T.heap.size :: rest, locked := none }) _
  jvm_step X₁.here [X₁.here.top, hexec, d3', Value.category]
  exact X₁.ldcStringW hexec (own := own) (text := text) (index := is) (a := sa) hown' hstr'.1 hstr'.2
    (g := { method := m, pc := pc + 4, locals := ls, stack := .ref T.heap.size :: .ref T.heap.size :: rest, locked := none }) rfl d4' _ hsteps
end Ends
section Bodies
variable {l : Launch}
theorem vx_ofW {y : MethodName} {ws ws' : List Cond} {rm : Room} {Pc : Array Value → State → Prop} {Qc : Array Value → State → Outcome → State → Prop} {XC : String → State → State → Prop} {mc ms : Nat} {free : Addr → Prop} {cc : ByteArray} {maxL : Nat} {ret : Option FieldType}
    (hy : plainName y.cls = true) (hw : ws = Cond.code y cc maxL ret :: ws')
    (body : ∀ p e s m args below meth c s₁, BodyLoose p l y (headSpec ws rm) cc maxL ret e s m args below meth c s₁ → c.maxLocals = maxL → (∀ x ∈ c.exceptionTable.toList, False) → Pc args s →
      W p l e (headSpec ws rm).room s m args below meth c s.heap [] 0 0 (vx_MQ below Qc XC args s mc ms free) (entryFrame m args maxL)) : vx_Met l y ws rm Pc Qc XC mc ms free := by
  refine MetFree.of_bodyS (code := cc) (maxLocals := maxL) (ret := ret) hy ?_ ?_
  · intro args s m h hn
    obtain ⟨meth, c, h1, h2, h3, h4, h5, h6, -, -⟩ := Cond.code_spec hn (atoms_spec (ws := ws) h _ (by rw [hw]; exact List.mem_cons_self))
    exact ⟨meth, c, h1, h2, h3, h4, h5, h6⟩
  · intro p e s m args below meth c s₁ B hml hP _
    have hh0 : s₁.heap = s.heap := by rw [B.state]; rfl
    have ht : ∀ x ∈ c.exceptionTable.toList, False := by
      obtain ⟨meth9, c9, h1, h2, -, -, -, -, h7, -⟩ := Cond.code_spec B.named (atoms_spec (ws := ws) B.pre _ (by rw [hw]; exact List.mem_cons_self))
      cases Option.some.inj (h1.symm.trans B.method)
      cases Option.some.inj (h2.symm.trans (Stand.of_body B).code)
      intro x hx
      rw [Array.isEmpty_iff.mp h7] at hx
      cases hx
    obtain ⟨t, a1, o, b1, b2, b3⟩ := body p e s m args below meth c s₁ B hml ht hP s₁ hh0 (Stand.of_body B)
    exact ⟨t, o, a1, b1, b2, b3⟩
/-- the table of a body with handlers -/
theorem vx_table {p : Program} {x y : MethodName} {S : Spec} {cc bytes : ByteArray} {maxL maxL' : Nat} {ret ret' : Option FieldType} {e : Env} {s s₁ : State} {m : MethodId} {args : Array Value} {below : List Frame} {meth : Method} {c : Code} {hh : List (Nat × Nat × Nat × Nat)}
    (B : BodyLoose p l y S cc maxL ret e s m args below meth c s₁) (h : (Cond.codeWith y bytes maxL' ret' hh).before args s = true) : c.exceptionTable.toList = tableOf hh := by
  obtain ⟨m9, meth9, c9, hn9, h1, h2, -, -, h6, -⟩ := Cond.codeWith_spec h
  cases Option.some.inj (hn9.symm.trans B.named)
  cases Option.some.inj (h1.symm.trans B.method)
  cases Option.some.inj (h2.symm.trans (Stand.of_body B).code)
  rw [← h6, table_eq]
end Bodies
end VXA
/-! ===== END ===== -/
/-! ===== BEGIN a static call of a method with an exception table ===== -/
section VXS
variable {p : Program} {l : Launch} {e : Env} {R : Room} {s : State} {m : MethodId} {args : Array Value} {below : List Frame} {meth : Method} {c : Code} {T : State} {H : Heap} {locs : List Loc} {cells slots : Nat}
abbrev vx_CSW (R : Room) (s : State) (args : Array Value) (own : String) (index : Nat) (y : MethodName) (bytes : ByteArray) (maxL : Nat) (ret : Option FieldType) (hh : List (Nat × Nat × Nat × Nat)) (ws : List Cond) (rm : Room) (mc ms n : Nat) : Prop :=
  (rm.cells = mc ∧ rm.slots = ms ∧ rm.frames + 1 ≤ R.frames ∧ 8 + (maxL + 11) + rm.locals ≤ R.locals ∧ (∀ w ∈ ws, ∀ (a' : Array Value) (U : State), s.WarmedH U.vm → w.before a' U = true) ∧ Cond.codeWith y bytes maxL ret hh ∈ ws) ∧
  (Cond.codeWith y bytes maxL ret hh).before args s = true ∧ (Cond.initialized y.cls).before args s = true ∧ (y.cls ≠ "java/lang/invoke/MethodHandle" ∧ y.cls ≠ "java/lang/invoke/VarHandle") ∧
  (∀ sig, parseMethodDescriptor y.desc = some sig → n = sig.parameters.length) ∧ (Cond.methodLink own index y).before args s = true ∧ (Cond.static y).before args s = true
theorem vx_cwSW {own : String} {index maxL mc ms : Nat} {y : MethodName} {bytes : ByteArray} {ret : Option FieldType} {hh : List (Nat × Nat × Nat × Nat)} {Ts ws ws' : List Cond} {rm : Room} (n : Nat) (ht : ∀ w ∈ Ts, w.before args s = true) (hT : GoodIn Ts (va_wsS own index y ws)) (hw : ws = Cond.codeWith y bytes maxL ret hh :: ws') (hrc : rm.cells = mc) (hrs : rm.slots = ms)
    (hd : y.cls ≠ "java/lang/invoke/MethodHandle" ∧ y.cls ≠ "java/lang/invoke/VarHandle" ∧ (parseMethodDescriptor y.desc).map (fun d => d.parameters.length) = some n) (hR : rm.frames + 1 ≤ R.frames ∧ 8 + (maxL + 11) + rm.locals ≤ R.locals) :
    vx_CSW R s args own index y bytes maxL ret hh ws rm mc ms n := by
  have ok : ∀ w ∈ va_wsS own index y ws, w.before args s = true := fun w h => ht w (hT w h).1
  have hG : GoodIn Ts ws := fun w h => hT w (by unfold va_wsS; exact List.mem_append_right _ h)
  have hc : Cond.codeWith y bytes maxL ret hh ∈ ws := by rw [hw]; exact List.mem_cons_self
  refine ⟨⟨hrc, hrs, hR.1, hR.2, pay_in ht hG, hc⟩, ht _ (hG _ hc).1, ok _ (by simp [va_wsS]), ⟨hd.1, hd.2.1⟩, fun sig h => ?_, ok _ (by simp [va_wsS]), ok _ (by simp [va_wsS])⟩
  have h2 := hd.2.2
  rw [h] at h2
  exact (Option.some.inj h2).symm
theorem vx_callSW (X : Stand p l e R s m args below meth c T locs cells slots) (hexec : p.tables.exec = Jvm.exec) {own : String} {index : Nat} {y : MethodName} {bytes : ByteArray} {maxL : Nat} {ret : Option FieldType} {hh : List (Nat × Nat × Nat × Nat)}
    (hown : s.vm.findClass own = some m.cls) (hlink : (Cond.methodLink own index y).before args s = true) (hstat : (Cond.static y).before args s = true) (hinit : (Cond.initialized y.cls).before args s = true)
    (hcode : (Cond.codeWith y bytes maxL ret hh).before args s = true) (hy : y.cls ≠ "java/lang/invoke/MethodHandle" ∧ y.cls ≠ "java/lang/invoke/VarHandle")
    {W9 : Nat} {Pre : Pt → Array Value → Prop} {Post : Pt → Array Value → Option Value → Pt → Prop} (hK : Back l R p e below s args y 3 W9 Pre Post)
    {g : JFrame} (hg : g.method = m) (hsize : g.locals.size = c.maxLocals) {argsL rest : List Value} (hlen : ∀ sig, parseMethodDescriptor y.desc = some sig → argsL.length = sig.parameters.length)
    (hstack : g.stack = argsL.reverse ++ rest) (hW : 2 * g.monitorRoom + (rest.map fun v => v.category).sum ≤ W9) (hdg : decode c.code g.pc = .ok (.invokestatic index, 3))
    (hpre : ∀ vm₁, s.WarmedH vm₁ → Pre ⟨T.setVm vm₁, locs, cells, slots⟩ argsL.toArray) :
    ∃ (v : Option Value) (vm₁ : Vm) (B : Pt), s.WarmedH vm₁ ∧ Stand p l e R s m args below meth c B.U B.locs B.cells B.slots ∧ Post ⟨T.setVm vm₁, locs, cells, slots⟩ argsL.toArray v B ∧
      ∀ target, Steps p.tables e below (B.U.setTop { g with pc := g.pc + 3, stack := v.toList ++ rest }) target → Steps p.tables e below (T.setTop g) target := by
  obtain ⟨mk, methM, cM, hnamed, hmethM, -, -, -, -, -, -, hsigM⟩ := Cond.codeWith_spec hcode
  have hstatic : methM.isStatic = true := Cond.static_spec hnamed hmethM hstat
  obtain ⟨kP, hkP, -⟩ := className_of_methodNamed hnamed
  have hinitP : kP.init = .initialized := Cond.initialized_spec (findClass_of_methodNamed hnamed) hkP hinit
  obtain ⟨vm₁, X₁, hstep₁⟩ := X.invokestatic hexec hown hlink hnamed hmethM hstatic hkP hinitP hy (g := g) hg (argsL := argsL) (rest := rest) (hlen _ hsigM) hstack hdg
  obtain ⟨v, B, X', hpost, hsteps⟩ := hK m meth c ⟨T.setVm vm₁, locs, cells, slots⟩ { g with stack := rest } (.invokestatic index) mk argsL.toArray X₁ hg hsize hdg hW (X₁.named hnamed) (hpre vm₁ X₁.warmed)
  exact ⟨v, vm₁, B, X₁.warmed, X', hpost, fun target h => hstep₁ _ fun acts => by rw [doInvoke_state]; exact hsteps.trans h⟩
theorem vx_runSW {y : MethodName} {bytes cc : ByteArray} {maxL nL mc ms n index : Nat} {ret : Option FieldType} {hh : List (Nat × Nat × Nat × Nat)} {ws : List Cond} {rm : Room} {Pc : Array Value → State → Prop} {Qc : Array Value → State → Outcome → State → Prop} {free : Addr → Prop} {Ts : List Cond} {own : String} {As rest : List Value} {g : JFrame}
    (S : CallFix p m c cc nL s args Ts own) (hM : Met l y ws rm Pc Qc mc ms free) (cw : vx_CSW R s args own index y bytes maxL ret hh ws rm mc ms n) (hp : PreS s H Pc As)
    (hg : g.method = m) (hn : As.length = n) (hsize : g.locals.size = nL) (hstack : g.stack = As.reverse ++ rest) (hW : 2 * g.monitorRoom + (rest.map fun v => v.category).sum ≤ 8) (hdg : decode cc g.pc = .ok (.invokestatic index, 3)) (hf : cells + mc ≤ R.cells ∧ slots + ms ≤ R.slots) :
    va_Run p l e R s m args below meth c H locs cells slots mc ms g rest (Qc As.toArray) (free) := by
  obtain ⟨⟨hrc, hrs, hfr, hlo, hws, hcw⟩, hcode, hini, hy, hlen, hl, hstt⟩ := cw
  have hK : Back l R p e below s args y 3 8 (PreOf R mc ms Pc) (PostOf Qc mc ms free) := va_backW (hh := hh) (bytes := bytes) (maxL := maxL) (ret := ret) hM hp.1 hrc hrs hfr hlo hws hcw (fun a' U hW => word_at hW (Or.inl (by first | rfl | simp [Cond.onTables, Cond.keeps, Cond.steady])) hini)
  obtain ⟨hx, hb, hml, ho, -⟩ := S
  intro T hT X
  obtain ⟨v, vm₁, ⟨U', l2, c2, s2⟩, hW₁, X', ⟨g', mk, t, L, e1, e2, hq, h1, hL, h2, h3⟩, st⟩ := vx_callSW X hx (hh := hh) (bytes := bytes) (maxL := maxL) (ret := ret) ho hl hstt hini hcode hy hK hg (hsize.trans hml.symm) (argsL := As) (rest := rest) (fun sig h => hn.trans (hlen sig h)) hstack hW (by rw [hb]; exact hdg)
    (fun vm₁ hW₁ => ⟨hf.1, hf.2, hp.2 (T.setVm vm₁) hT hW₁⟩)
  dsimp only [Pt.U, Pt.locs, Pt.cells, Pt.slots] at X' e1 e2 h1 h2 h3 st
  subst h1; subst h2; subst h3
  exact ⟨v, (T.setVm vm₁).calling g' mk As.toArray, t, U', L, hT, X', hL, e1, e2, hq, st⟩
/-- not caught here, past rows that name other classes: it goes on to the caller -/
theorem vx_outP {p : Program} {l : Launch} {e : Env} {R : Room} {s : State} {m : MethodId} {args : Array Value} {below : List Frame} {meth : Method} {c : Code} {H : Heap} {locs : List Loc} {cells slots : Nat} {free : Addr → Prop} {ls : Array Slot} {rest : List Value} {Qc : Array Value → State → Outcome → State → Prop} {XC : String → State → State → Prop}
    {pc : Nat} {own E : String} {ce : Cell} {q : Addr} {mc ms : Nat} (hown : s.vm.findClass own = some m.cls) (hlocks : meth.locks = false)
    (hpass : ∀ z ∈ c.exceptionTable.toList, covers z pc = false ∨ (z.catchType ≠ 0 ∧ ∃ nm : String, (Cond.classLink own z.catchType nm).before args s = true ∧ va_Nc E nm s)) (hcell : H[q]? = some ce) (hv : ce.vm = .none) (hcl : s.vm.findClass E = some ce.cls)
    (hx : ∀ t : State, t.heap = H → s.vm.Alike t.vm → XC E s t) (hf : ∀ z ∈ locs, free z.base) (hc : cells ≤ mc) (hs : slots ≤ ms) :
    vx_W p l e R s m args below meth c H locs cells slots (vx_MQ below Qc XC args s mc ms free) (F0 m pc ls rest) q := by
  intro T hT X
  have hpl : e.platform.magicAccessors = ({} : Platform).magicAccessors := by rw [X.admits.platform]
  obtain ⟨vm', hW', X', st⟩ := X.outThrough hlocks q (g := F0 m pc ls rest) rfl rfl rfl (cell := ce) (by rw [hT]; exact hcell) (by rw [hv]; rfl)
    (by obtain ⟨k9, h9, -⟩ := Vm.findClass_spec hcl; exact ⟨k9, h9⟩) (fun z hz => by
      rcases hpass z hz with h | ⟨hz0, nm, hl1, hn1⟩
      · exact Or.inl h
      · obtain ⟨c6, hc6, hcl6⟩ := Cond.classLink_spec hown hl1 e.platform hpl
        obtain ⟨a8, b8, h1, h2, h3⟩ := hn1
        cases Option.some.inj (h1.symm.trans hcl)
        cases Option.some.inj (h2.symm.trans hc6)
        exact Or.inr ⟨hz0, _, hcl6, h3⟩)
  obtain ⟨g₀, hfr⟩ := X'.frames_eq
  have hcell9 : ((T.setVm vm').setFrames (.throwing q :: below)).heap[q]? = some ce := by
    show T.heap[q]? = some ce
    rw [hT]; exact hcell
  have hend : Ended ((T.setVm vm').setFrames (.throwing q :: below)) below (.threw q) := State.frames_setFrames _ (State.cur_lt_of_frames hfr)
  refine ⟨(T.setVm vm').setFrames (.throwing q :: below), ?_, .threw q, X'.here.running, hend, Or.inr ⟨q, rfl, E, ce, locs, hx _ hT (X'.ends _).1.alike, hcell9, hv, hcl, (X'.ends _).1, (X'.ends _).2.mono hc hs, hf⟩⟩
  rw [X.pushThrowing_eq]
  exact st
/-- a thing of a world lies in the heap -/
theorem vx_lt {D : va_G} {cl : List vw_C} {ws : va_W} {H1 : Heap} (h : va_P D cl ws H1) {k : Nat} {q : Nat × va_E} (hk : ws[k]? = some q) : q.1 < H1.size := (h k q hk).lt
end VXS
/-! ===== END ===== -/
/-! ===== BEGIN methods with a table of their own: called by a name, returning or throwing ===== -/
section VXH
/-! vx_backW, vx_callVX, vx_callSX, vx_callVW, vx_runVW, vx_runVX, vx_runSX, vx_ofWH follow the same proofs as their sisters above (Free/Laws.lean, Shelf42/LK1.lean); vx_outP calls Shelf42/NT130.lean (outThrough). -/
section
variable {l : Launch} {R : Room} {p : Program} {e : Env} {below : List Frame} {s : State} {sargs : Array Value} {y : MethodName} {len W9 : Nat}
theorem vx_backW {ws : List Cond} {rm : Room} {Pc : Array Value → State → Prop} {Qc : Array Value → State → Outcome → State → Prop} {XC : String → State → State → Prop} {mc ms : Nat} {free : Addr → Prop} {bytes : ByteArray} {maxL : Nat} {ret : Option FieldType} {hh : List (Nat × Nat × Nat × Nat)}
    (hM : vx_Met l y ws rm Pc Qc XC mc ms free) (hblind : FrameBlind Pc) (hrc : rm.cells = mc) (hrs : rm.slots = ms)
    (hframes : rm.frames + 1 ≤ R.frames) (hlocals : W9 + (maxL + 11) + rm.locals ≤ R.locals)
    (hws : ∀ w ∈ ws, ∀ a' U, s.WarmedH U.vm → w.before a' U = true) (hcode : Cond.codeWith y bytes maxL ret hh ∈ ws) (hinit : ∀ a' U, s.WarmedH U.vm → (Cond.initialized y.cls).before a' U = true) :
    vx_Back l R p e below s sargs y len W9 (PreOf R mc ms Pc) (PostOf Qc mc ms free) (vx_Post XC mc ms free) := by
  intro m meth c A g ig mk a X hg hsize hdg hW hn hp
  have h1 : (headSpec ws rm).pre.before a A.U = true := atoms_intro fun w hw => hws w hw _ _ X.warmed
  have h2 : (Cond.codeWith y bytes maxL ret hh).before a A.U = true := hws _ hcode _ _ X.warmed
  have h3 : (Cond.initialized y.cls).before a A.U = true := hinit _ _ X.warmed
  have h4 : A.cells + (headSpec ws rm).room.cells ≤ R.cells := by rw [show (headSpec ws rm).room.cells = mc from hrc]; exact hp.1
  have h5 : A.slots + (headSpec ws rm).room.slots ≤ R.slots := by rw [show (headSpec ws rm).room.slots = ms from hrs]; exact hp.2.1
  have hPc : Pc a (A.U.calling g mk a) := hblind _ _ _ _ hp.2.2
  obtain ⟨U, Ls, c0, s0⟩ := A
  dsimp only [Pt.U, Pt.locs, Pt.cells, Pt.slots] at h1 h2 h3 h4 h5 X hn hPc ⊢
  obtain ⟨m9, methY, cY, hn9, hmY, hcY, -, hlY, -⟩ := Cond.codeWith_spec h2
  cases Option.some.inj (hn9.symm.trans hn)
  obtain ⟨kY, hkY, -⟩ := className_of_methodNamed hn
  have hinitY : kY.init = .initialized := Cond.initialized_spec (findClass_of_methodNamed hn) hkY h3
  have h : At U g.method c below := by rw [hg]; exact X.here
  have hlocals9 : W9 + (maxL + 11) + (headSpec ws rm).room.locals ≤ R.locals := hlocals
  have happ : (headSpec ws rm).appliesLoose y e.platform (U.calling g mk a) = true :=
    Spec.appliesLoose_calling (g := g) h hdg hn hkY hinitY
      (X.room_calling (g := g) (R' := (headSpec ws rm).room) hsize hmY hcY hframes (by rw [hlY]; omega) h4 h5) h1
  obtain ⟨mid, hmid⟩ := h.above
  have hfr : (U.setTop g).frames = (.java g :: mid) ++ below := by rw [State.frames_setTop' g h.top, hmid]; rfl
  obtain ⟨o, s₂, hsteps, -, hend, hq⟩ := Steps.callFree hM p X.admits X.cas X.clock (acts := []) hfr happ hPc trivial
  have hq' : vx_Q Qc XC mc ms free a (U.calling g mk a) o s₂ := hq
  rw [State.frames_setTop' g h.top] at hend
  obtain ⟨g₀, hg0⟩ := Option.isSome_iff_exists.mp h.top
  obtain ⟨r, hr⟩ := State.topJava?_eq_some.mp hg0
  have hr' : (({ U with heap := s₂.heap, slotsUsed := s₂.slotsUsed } : State).setVm s₂.vm).frames = .java g₀ :: r := hr
  rcases hq' with ⟨hqc, L, hfe, hL⟩ | ⟨q, rfl, E, ce, L, hx, hce, hcv, hcl, hW₂, hsm, hL⟩
  · obtain ⟨⟨v, rfl⟩, hW₂, e2, q2, q3, q4, q5, q6⟩ := id hfe
    have e3 : s₂ = ({ (U.calling g mk a).setFrames s₂.frames with heap := s₂.heap, slotsUsed := s₂.slotsUsed } : State).setVm s₂.vm := by
      have : s₂ = ({ s₂ with vm := (U.calling g mk a).vm } : State).setVm s₂.vm := rfl
      rw [e2] at this
      exact this
    obtain ⟨c₂, i₂, len₂, hc₂, hd₂, hf₂⟩ := hend
    have hW' : U.WarmedH s₂.vm := hW₂
    have hcc : c₂ = c := by
      have h1 : s₂.code? g.method = U.code? g.method := by
        rw [State.code?_eq, State.code?_eq, hW'.alike.method?]
      exact Option.some.inj (hc₂.symm.trans (h1.trans h.code))
    subst hcc
    have hlen : len₂ = len := by rw [hdg] at hd₂; cases hd₂; rfl
    subst hlen
    have hs₂ : s₂ = (({ U with heap := s₂.heap, slotsUsed := s₂.slotsUsed } : State).setVm s₂.vm).setTop { g with pc := g.pc + len₂, stack := v.toList ++ g.stack } := by
      refine e3.trans ?_
      rw [hf₂, State.calling_eq h.top, State.setFrames_setFrames, State.setTop_of_frames _ hr', hr]
      rfl
    have hsame : U.sameButNew ({ U with heap := s₂.heap, slotsUsed := s₂.slotsUsed } : State) L mc ms := by
      refine ⟨?_, q2, q3, q4, q5, q6⟩
      obtain ⟨t, ht, -⟩ := State.frames_cons hr
      show ({ U with heap := s₂.heap, slotsUsed := s₂.slotsUsed } : State) = { U.setFrames U.frames with heap := s₂.heap, slotsUsed := s₂.slotsUsed }
      rw [State.setFrames_self ht]
    subst hg
    refine Or.inl ⟨v, ⟨(({ U with heap := s₂.heap, slotsUsed := s₂.slotsUsed } : State).setVm s₂.vm), Ls ++ L, c0 + mc, s0 + ms⟩,
      ⟨X.admits, X.cas, X.clock, X.frames, X.room, X.hears, X.method, X.code, (X.here.setHeapUsed s₂.heap s₂.slotsUsed).setVm hW'.alike, X.tail, State.WarmedH.trans X.warmed hW', X.limits, X.bytes, X.same.trans (hsame.setVm s.vm)⟩,
      ⟨g, mk, s₂, L, rfl, rfl, hqc, rfl, hL, rfl, rfl⟩, ?_⟩
    show Steps p.tables e below _ ((({ U with heap := s₂.heap, slotsUsed := s₂.slotsUsed } : State).setVm s₂.vm).setTop { g with pc := g.pc + len₂, stack := v.toList ++ g.stack })
    rw [← hs₂]
    exact hsteps
  · obtain ⟨e2, q2, q3, q4, q5, q6⟩ := id hsm
    have e3 : s₂ = ({ (U.calling g mk a).setFrames s₂.frames with heap := s₂.heap, slotsUsed := s₂.slotsUsed } : State).setVm s₂.vm := by
      have : s₂ = ({ s₂ with vm := (U.calling g mk a).vm } : State).setVm s₂.vm := rfl
      rw [e2] at this
      exact this
    have hf₂ : s₂.frames = .throwing q :: .java g :: U.frames.tail := hend
    have hW' : U.WarmedH s₂.vm := hW₂
    have hs₂ : s₂ = ((({ U with heap := s₂.heap, slotsUsed := s₂.slotsUsed } : State).setVm s₂.vm).setTop g).pushFrame (.throwing q) := by
      refine e3.trans ?_
      rw [hf₂, State.calling_eq h.top, State.setFrames_setFrames, State.pushFrame, State.frames_setTop _ hr', State.setTop_of_frames _ hr', State.setFrames_setFrames, hr]
      rfl
    have hsame : U.sameButNew ({ U with heap := s₂.heap, slotsUsed := s₂.slotsUsed } : State) L mc ms := by
      refine ⟨?_, q2, q3, q4, q5, q6⟩
      obtain ⟨t, ht, -⟩ := State.frames_cons hr
      show ({ U with heap := s₂.heap, slotsUsed := s₂.slotsUsed } : State) = { U.setFrames U.frames with heap := s₂.heap, slotsUsed := s₂.slotsUsed }
      rw [State.setFrames_self ht]
    subst hg
    refine Or.inr ⟨q, ⟨(({ U with heap := s₂.heap, slotsUsed := s₂.slotsUsed } : State).setVm s₂.vm), Ls ++ L, c0 + mc, s0 + ms⟩,
      ⟨X.admits, X.cas, X.clock, X.frames, X.room, X.hears, X.method, X.code, (X.here.setHeapUsed s₂.heap s₂.slotsUsed).setVm hW'.alike, X.tail, State.WarmedH.trans X.warmed hW', X.limits, X.bytes, X.same.trans (hsame.setVm s.vm)⟩,
      ⟨g, mk, s₂, L, E, ce, rfl, rfl, hx, hce, hcv, hcl, rfl, hL, rfl, rfl⟩, ?_⟩
    show Steps p.tables e below _ (((({ U with heap := s₂.heap, slotsUsed := s₂.slotsUsed } : State).setVm s₂.vm).setTop g).pushFrame (.throwing q))
    rw [← hs₂]
    exact hsteps
end
variable {p : Program} {l : Launch} {e : Env} {R : Room} {s : State} {m : MethodId} {args : Array Value} {below : List Frame} {meth : Method} {c : Code} {T : State} {H : Heap} {locs : List Loc} {cells slots : Nat}
theorem vx_callVX (X : Stand p l e R s m args below meth c T locs cells slots) (hexec : p.tables.exec = Jvm.exec) {own C : String} {index : Nat} {y : MethodName} {bytes : ByteArray} {maxL : Nat} {ret : Option FieldType} {hh : List (Nat × Nat × Nat × Nat)}
    (hown : s.vm.findClass own = some m.cls) (hlink : (Cond.methodLink own index y).before args s = true) (hinst : (Cond.instanceMethod y).before args s = true) (hsel : (Cond.selects C y y).before args s = true)
    (hcode : (Cond.codeWith y bytes maxL ret hh).before args s = true) (hy : y.cls ≠ "java/lang/invoke/MethodHandle" ∧ y.cls ≠ "java/lang/invoke/VarHandle")
    {W9 : Nat} {Pre : Pt → Array Value → Prop} {Post : Pt → Array Value → Option Value → Pt → Prop} {PostX : Pt → Array Value → Addr → Pt → Prop} (hK : vx_Back l R p e below s args y 3 W9 Pre Post PostX)
    {b : Addr} {cellB : Cell} (hcell : T.heap[b]? = some cellB) (hobj : cellB.vm.isStatics = false) (hcls : s.vm.findClass C = some cellB.cls)
    {g : JFrame} (hg : g.method = m) (hsize : g.locals.size = c.maxLocals) {argsL rest : List Value} (hlen : ∀ sig, parseMethodDescriptor y.desc = some sig → argsL.length = sig.parameters.length)
    (hstack : g.stack = argsL.reverse ++ .ref b :: rest) (hW : 2 * g.monitorRoom + (rest.map fun v => v.category).sum ≤ W9) (hdg : decode c.code g.pc = .ok (.invokevirtual index, 3))
    (hpre : ∀ vm₁, s.WarmedH vm₁ → Pre ⟨T.setVm vm₁, locs, cells, slots⟩ (Value.ref b :: argsL).toArray) :
    (∃ (v : Option Value) (vm₁ : Vm) (B : Pt), s.WarmedH vm₁ ∧ Stand p l e R s m args below meth c B.U B.locs B.cells B.slots ∧ Post ⟨T.setVm vm₁, locs, cells, slots⟩ (Value.ref b :: argsL).toArray v B ∧
      ∀ target, Steps p.tables e below (B.U.setTop { g with pc := g.pc + 3, stack := v.toList ++ rest }) target → Steps p.tables e below (T.setTop g) target) ∨
    (∃ (q : Addr) (vm₁ : Vm) (B : Pt), s.WarmedH vm₁ ∧ Stand p l e R s m args below meth c B.U B.locs B.cells B.slots ∧ PostX ⟨T.setVm vm₁, locs, cells, slots⟩ (Value.ref b :: argsL).toArray q B ∧
      Steps p.tables e below (T.setTop g) ((B.U.setTop { g with stack := rest }).pushFrame (.throwing q))) := by
  obtain ⟨mk, methM, hnamed, hmethM, hstM, habM⟩ := Cond.instanceMethod_spec hinst
  obtain ⟨m8, methM', cM, hn8, hmethM', -, -, -, -, -, -, hsigM⟩ := Cond.codeWith_spec hcode
  cases Option.some.inj (hn8.symm.trans hnamed)
  cases hmethM.symm.trans hmethM'
  obtain ⟨c2, r2, m2, q1, q2, q3, q4, kP, hkP, hkPi⟩ := Cond.selects_spec hsel
  cases hcls.symm.trans q1
  cases (State.methodFound?_of_named hnamed hy).symm.trans q2
  cases hnamed.symm.trans q3
  have hselP : selectMethod e.platform s.vm cellB.cls mk = .method mk := by rw [Launch.admits_selectMethod X.admits]; exact q4
  obtain ⟨vm₁, X₁, hstep₁⟩ := X.invokevirtual hexec hown hlink hnamed hmethM hstM hkP hkPi hy (a := b) (cell := cellB) hcell
    (fun z h => by rw [h] at hobj; cases hobj) hselP hmethM habM hkP hkPi (g := g) hg (argsL := argsL) (rest := rest) (hlen _ hsigM) hstack hdg
  rcases hK m meth c ⟨T.setVm vm₁, locs, cells, slots⟩ { g with stack := rest } (.invokevirtual index) mk (Value.ref b :: argsL).toArray X₁ hg hsize hdg hW (X₁.named hnamed) (hpre vm₁ X₁.warmed) with ⟨v, B, X', hpost, hsteps⟩ | ⟨q, B, X', hpost, hsteps⟩
  · exact Or.inl ⟨v, vm₁, B, X₁.warmed, X', hpost, fun target h => hstep₁ _ fun acts => by rw [doInvoke_state]; exact hsteps.trans h⟩
  · exact Or.inr ⟨q, vm₁, B, X₁.warmed, X', hpost, hstep₁ _ fun acts => by rw [doInvoke_state]; exact hsteps⟩
theorem vx_callSX (X : Stand p l e R s m args below meth c T locs cells slots) (hexec : p.tables.exec = Jvm.exec) {own : String} {index : Nat} {y : MethodName} {bytes : ByteArray} {maxL : Nat} {ret : Option FieldType} {hh : List (Nat × Nat × Nat × Nat)}
    (hown : s.vm.findClass own = some m.cls) (hlink : (Cond.methodLink own index y).before args s = true) (hstat : (Cond.static y).before args s = true) (hinit : (Cond.initialized y.cls).before args s = true)
    (hcode : (Cond.codeWith y bytes maxL ret hh).before args s = true) (hy : y.cls ≠ "java/lang/invoke/MethodHandle" ∧ y.cls ≠ "java/lang/invoke/VarHandle")
    {W9 : Nat} {Pre : Pt → Array Value → Prop} {Post : Pt → Array Value → Option Value → Pt → Prop} {PostX : Pt → Array Value → Addr → Pt → Prop} (hK : vx_Back l R p e below s args y 3 W9 Pre Post PostX)
    {g : JFrame} (hg : g.method = m) (hsize : g.locals.size = c.maxLocals) {argsL rest : List Value} (hlen : ∀ sig, parseMethodDescriptor y.desc = some sig → argsL.length = sig.parameters.length)
    (hstack : g.stack = argsL.reverse ++ rest) (hW : 2 * g.monitorRoom + (rest.map fun v => v.category).sum ≤ W9) (hdg : decode c.code g.pc = .ok (.invokestatic index, 3))
    (hpre : ∀ vm₁, s.WarmedH vm₁ → Pre ⟨T.setVm vm₁, locs, cells, slots⟩ argsL.toArray) :
    (∃ (v : Option Value) (vm₁ : Vm) (B : Pt), s.WarmedH vm₁ ∧ Stand p l e R s m args below meth c B.U B.locs B.cells B.slots ∧ Post ⟨T.setVm vm₁, locs, cells, slots⟩ argsL.toArray v B ∧
      ∀ target, Steps p.tables e below (B.U.setTop { g with pc := g.pc + 3, stack := v.toList ++ rest }) target → Steps p.tables e below (T.setTop g) target) ∨
    (∃ (q : Addr) (vm₁ : Vm) (B : Pt), s.WarmedH vm₁ ∧ Stand p l e R s m args below meth c B.U B.locs B.cells B.slots ∧ PostX ⟨T.setVm vm₁, locs, cells, slots⟩ argsL.toArray q B ∧
      Steps p.tables e below (T.setTop g) ((B.U.setTop { g with stack := rest }).pushFrame (.throwing q))) := by
  obtain ⟨mk, methM, cM, hnamed, hmethM, -, -, -, -, -, -, hsigM⟩ := Cond.codeWith_spec hcode
  have hstatic : methM.isStatic = true := Cond.static_spec hnamed hmethM hstat
  obtain ⟨kP, hkP, -⟩ := className_of_methodNamed hnamed
  have hinitP : kP.init = .initialized := Cond.initialized_spec (findClass_of_methodNamed hnamed) hkP hinit
  obtain ⟨vm₁, X₁, hstep₁⟩ := X.invokestatic hexec hown hlink hnamed hmethM hstatic hkP hinitP hy (g := g) hg (argsL := argsL) (rest := rest) (hlen _ hsigM) hstack hdg
  rcases hK m meth c ⟨T.setVm vm₁, locs, cells, slots⟩ { g with stack := rest } (.invokestatic index) mk argsL.toArray X₁ hg hsize hdg hW (X₁.named hnamed) (hpre vm₁ X₁.warmed) with ⟨v, B, X', hpost, hsteps⟩ | ⟨q, B, X', hpost, hsteps⟩
  · exact Or.inl ⟨v, vm₁, B, X₁.warmed, X', hpost, fun target h => hstep₁ _ fun acts => by rw [doInvoke_state]; exact hsteps.trans h⟩
  · exact Or.inr ⟨q, vm₁, B, X₁.warmed, X', hpost, hstep₁ _ fun acts => by rw [doInvoke_state]; exact hsteps⟩
theorem vx_callVW (X : Stand p l e R s m args below meth c T locs cells slots) (hexec : p.tables.exec = Jvm.exec) {own C : String} {index : Nat} {y : MethodName} {bytes : ByteArray} {maxL : Nat} {ret : Option FieldType} {hh : List (Nat × Nat × Nat × Nat)}
    (hown : s.vm.findClass own = some m.cls) (hlink : (Cond.methodLink own index y).before args s = true) (hinst : (Cond.instanceMethod y).before args s = true) (hsel : (Cond.selects C y y).before args s = true)
    (hcode : (Cond.codeWith y bytes maxL ret hh).before args s = true) (hy : y.cls ≠ "java/lang/invoke/MethodHandle" ∧ y.cls ≠ "java/lang/invoke/VarHandle")
    {W9 : Nat} {Pre : Pt → Array Value → Prop} {Post : Pt → Array Value → Option Value → Pt → Prop} (hK : Back l R p e below s args y 3 W9 Pre Post)
    {b : Addr} {cellB : Cell} (hcell : T.heap[b]? = some cellB) (hobj : cellB.vm.isStatics = false) (hcls : s.vm.findClass C = some cellB.cls)
    {g : JFrame} (hg : g.method = m) (hsize : g.locals.size = c.maxLocals) {argsL rest : List Value} (hlen : ∀ sig, parseMethodDescriptor y.desc = some sig → argsL.length = sig.parameters.length)
    (hstack : g.stack = argsL.reverse ++ .ref b :: rest) (hW : 2 * g.monitorRoom + (rest.map fun v => v.category).sum ≤ W9) (hdg : decode c.code g.pc = .ok (.invokevirtual index, 3))
    (hpre : ∀ vm₁, s.WarmedH vm₁ → Pre ⟨T.setVm vm₁, locs, cells, slots⟩ (Value.ref b :: argsL).toArray) :
    ∃ (v : Option Value) (vm₁ : Vm) (B : Pt), s.WarmedH vm₁ ∧ Stand p l e R s m args below meth c B.U B.locs B.cells B.slots ∧ Post ⟨T.setVm vm₁, locs, cells, slots⟩ (Value.ref b :: argsL).toArray v B ∧
      ∀ target, Steps p.tables e below (B.U.setTop { g with pc := g.pc + 3, stack := v.toList ++ rest }) target → Steps p.tables e below (T.setTop g) target := by
  obtain ⟨mk, methM, hnamed, hmethM, hstM, habM⟩ := Cond.instanceMethod_spec hinst
  obtain ⟨m8, methM', cM, hn8, hmethM', -, -, -, -, -, -, hsigM⟩ := Cond.codeWith_spec hcode
  cases Option.some.inj (hn8.symm.trans hnamed)
  cases hmethM.symm.trans hmethM'
  obtain ⟨c2, r2, m2, q1, q2, q3, q4, kP, hkP, hkPi⟩ := Cond.selects_spec hsel
  cases hcls.symm.trans q1
  cases (State.methodFound?_of_named hnamed hy).symm.trans q2
  cases hnamed.symm.trans q3
  have hselP : selectMethod e.platform s.vm cellB.cls mk = .method mk := by rw [Launch.admits_selectMethod X.admits]; exact q4
  obtain ⟨vm₁, X₁, hstep₁⟩ := X.invokevirtual hexec hown hlink hnamed hmethM hstM hkP hkPi hy (a := b) (cell := cellB) hcell
    (fun z h => by rw [h] at hobj; cases hobj) hselP hmethM habM hkP hkPi (g := g) hg (argsL := argsL) (rest := rest) (hlen _ hsigM) hstack hdg
  obtain ⟨v, B, X', hpost, hsteps⟩ := hK m meth c ⟨T.setVm vm₁, locs, cells, slots⟩ { g with stack := rest } (.invokevirtual index) mk (Value.ref b :: argsL).toArray X₁ hg hsize hdg hW (X₁.named hnamed) (hpre vm₁ X₁.warmed)
  exact ⟨v, vm₁, B, X₁.warmed, X', hpost, fun target h => hstep₁ _ fun acts => by rw [doInvoke_state]; exact hsteps.trans h⟩
abbrev vx_CVW (R : Room) (s : State) (args : Array Value) (own C : String) (index : Nat) (y : MethodName) (bytes : ByteArray) (maxL : Nat) (ret : Option FieldType) (hh : List (Nat × Nat × Nat × Nat)) (ws : List Cond) (rm : Room) (mc ms n : Nat) : Prop :=
  (rm.cells = mc ∧ rm.slots = ms ∧ rm.frames + 1 ≤ R.frames ∧ 8 + (maxL + 11) + rm.locals ≤ R.locals ∧ (∀ w ∈ ws, ∀ (a' : Array Value) (U : State), s.WarmedH U.vm → w.before a' U = true) ∧ Cond.codeWith y bytes maxL ret hh ∈ ws) ∧
  (Cond.codeWith y bytes maxL ret hh).before args s = true ∧ (Cond.initialized y.cls).before args s = true ∧ (y.cls ≠ "java/lang/invoke/MethodHandle" ∧ y.cls ≠ "java/lang/invoke/VarHandle") ∧
  (∀ sig, parseMethodDescriptor y.desc = some sig → n = sig.parameters.length) ∧ (Cond.methodLink own index y).before args s = true ∧ (Cond.instanceMethod y).before args s = true ∧ (Cond.selects C y y).before args s = true
theorem vx_cwVW {own C : String} {index maxL mc ms : Nat} {y : MethodName} {bytes : ByteArray} {ret : Option FieldType} {hh : List (Nat × Nat × Nat × Nat)} {Ts ws ws' : List Cond} {rm : Room} (n : Nat) (ht : ∀ w ∈ Ts, w.before args s = true) (hT : GoodIn Ts (wsV own index C y ws)) (hw : ws = Cond.codeWith y bytes maxL ret hh :: ws') (hrc : rm.cells = mc) (hrs : rm.slots = ms)
    (hd : y.cls = C ∧ y.cls ≠ "java/lang/invoke/MethodHandle" ∧ y.cls ≠ "java/lang/invoke/VarHandle" ∧ (parseMethodDescriptor y.desc).map (fun d => d.parameters.length) = some n) (hR : rm.frames + 1 ≤ R.frames ∧ 8 + (maxL + 11) + rm.locals ≤ R.locals) :
    vx_CVW R s args own C index y bytes maxL ret hh ws rm mc ms n := by
  obtain ⟨hC, hd⟩ := hd
  subst hC
  have ok : ∀ w ∈ wsV own index y.cls y ws, w.before args s = true := fun w h => ht w (hT w h).1
  have hG : GoodIn Ts ws := fun w h => hT w (by unfold wsV; exact List.mem_append_right _ h)
  have hc : Cond.codeWith y bytes maxL ret hh ∈ ws := by rw [hw]; exact List.mem_cons_self
  refine ⟨⟨hrc, hrs, hR.1, hR.2, pay_in ht hG, hc⟩, ht _ (hG _ hc).1, ok _ (by simp [wsV]), ⟨hd.1, hd.2.1⟩, fun sig h => ?_, ok _ (by simp [wsV]), ok _ (by simp [wsV]), ok _ (by simp [wsV])⟩
  have h2 := hd.2.2
  rw [h] at h2
  exact (Option.some.inj h2).symm
theorem vx_runVW {y : MethodName} {bytes cc : ByteArray} {maxL nL mc ms n index : Nat} {ret : Option FieldType} {hh : List (Nat × Nat × Nat × Nat)} {ws : List Cond} {rm : Room} {Pc : Array Value → State → Prop} {Qc : Array Value → State → Outcome → State → Prop} {free : Addr → Prop} {Ts : List Cond} {own C : String} {b : Addr} {As rest : List Value} {g : JFrame}
    (S : CallFix p m c cc nL s args Ts own) (hM : Met l y ws rm Pc Qc mc ms free) (cw : vx_CVW R s args own C index y bytes maxL ret hh ws rm mc ms n) (hp : PreV s H C b Pc As)
    (hg : g.method = m) (hn : As.length = n) (hsize : g.locals.size = nL) (hstack : g.stack = As.reverse ++ .ref b :: rest) (hW : 2 * g.monitorRoom + (rest.map fun v => v.category).sum ≤ 8) (hdg : decode cc g.pc = .ok (.invokevirtual index, 3)) (hf : cells + mc ≤ R.cells ∧ slots + ms ≤ R.slots) :
    va_Run p l e R s m args below meth c H locs cells slots mc ms g rest (Qc (Value.ref b :: As).toArray) free := by
  obtain ⟨⟨hrc, hrs, hfr, hlo, hws, hcw⟩, hcode, hini, hy, hlen, hl, hin, hse⟩ := cw
  have hK : Back l R p e below s args y 3 8 (PreOf R mc ms Pc) (PostOf Qc mc ms free) := va_backW (hh := hh) (bytes := bytes) (maxL := maxL) (ret := ret) hM hp.1 hrc hrs hfr hlo hws hcw (fun a' U hW => word_at hW (Or.inl (by first | rfl | simp [Cond.onTables, Cond.keeps, Cond.steady])) hini)
  obtain ⟨hx, hb, hml, ho, -⟩ := S
  obtain ⟨-, ⟨cellB, hcB, hoB, hclB⟩, hPc⟩ := hp
  intro T hT X
  obtain ⟨v, vm₁, ⟨U', l2, c2, s2⟩, hW₁, X', ⟨g', mk, t, L, e1, e2, hq, h1, hL, h2, h3⟩, st⟩ := vx_callVW X hx (C := C) (hh := hh) (bytes := bytes) (maxL := maxL) (ret := ret) ho hl hin hse hcode hy hK (by rw [hT]; exact hcB) hoB hclB hg (hsize.trans hml.symm) (argsL := As) (rest := rest) (fun sig h => hn.trans (hlen sig h)) hstack hW (by rw [hb]; exact hdg)
    (fun vm₁ hW₁ => ⟨hf.1, hf.2, hPc (T.setVm vm₁) hT hW₁⟩)
  dsimp only [Pt.U, Pt.locs, Pt.cells, Pt.slots] at X' e1 e2 h1 h2 h3 st
  subst h1; subst h2; subst h3
  exact ⟨v, (T.setVm vm₁).calling g' mk (Value.ref b :: As).toArray, t, U', L, hT, X', hL, e1, e2, hq, st⟩
section
variable {y : MethodName} {bytes cc : ByteArray} {maxL nL mc ms n index : Nat} {ret : Option FieldType} {ws : List Cond} {rm : Room} {Pc : Array Value → State → Prop} {Qc : Array Value → State → Outcome → State → Prop} {XC : String → State → State → Prop} {free : Addr → Prop} {Ts : List Cond} {own C : String} {b : Addr} {As rest : List Value} {g : JFrame}
theorem vx_runVX {hh : List (Nat × Nat × Nat × Nat)} (S : CallFix p m c cc nL s args Ts own) (hM : vx_Met l y ws rm Pc Qc XC mc ms free) (cw : vx_CVW R s args own C index y bytes maxL ret hh ws rm mc ms n) (hp : PreV s H C b Pc As)
    (hg : g.method = m) (hn : As.length = n) (hsize : g.locals.size = nL) (hstack : g.stack = As.reverse ++ .ref b :: rest) (hW : 2 * g.monitorRoom + (rest.map fun v => v.category).sum ≤ 8) (hdg : decode cc g.pc = .ok (.invokevirtual index, 3)) (hf : cells + mc ≤ R.cells ∧ slots + ms ≤ R.slots) :
    vx_Run p l e R s m args below meth c H locs cells slots mc ms g rest (Qc (Value.ref b :: As).toArray) XC free := by
  obtain ⟨⟨hrc, hrs, hfr, hlo, hws, hcw⟩, hcode, hini, hy, hlen, hl, hin, hse⟩ := cw
  have hK : vx_Back l R p e below s args y 3 8 (PreOf R mc ms Pc) (PostOf Qc mc ms free) (vx_Post XC mc ms free) := vx_backW (hh := hh) (bytes := bytes) (maxL := maxL) (ret := ret) hM hp.1 hrc hrs hfr hlo hws hcw (fun a' U hW => word_at hW (Or.inl (by first | rfl | simp [Cond.onTables, Cond.keeps, Cond.steady])) hini)
  obtain ⟨hx, hb, hml, ho, -⟩ := S
  obtain ⟨-, ⟨cellB, hcB, hoB, hclB⟩, hPc⟩ := hp
  intro T hT X
  rcases vx_callVX X hx (C := C) (hh := hh) (bytes := bytes) (maxL := maxL) (ret := ret) ho hl hin hse hcode hy hK (by rw [hT]; exact hcB) hoB hclB hg (hsize.trans hml.symm) (argsL := As) (rest := rest) (fun sig h => hn.trans (hlen sig h)) hstack hW (by rw [hb]; exact hdg)
    (fun vm₁ hW₁ => ⟨hf.1, hf.2, hPc (T.setVm vm₁) hT hW₁⟩) with ⟨v, vm₁, ⟨U', l2, c2, s2⟩, hW₁, X', ⟨g', mk, t, L, e1, e2, hq, h1, hL, h2, h3⟩, st⟩ | ⟨q, vm₁, ⟨U', l2, c2, s2⟩, hW₁, X', ⟨g', mk, t, L, E, ce, e1, e2, hq, hce, hcv, hcl, h1, hL, h2, h3⟩, st⟩
  · dsimp only [Pt.U, Pt.locs, Pt.cells, Pt.slots] at X' e1 e2 h1 h2 h3 st
    subst h1; subst h2; subst h3
    exact Or.inl ⟨v, (T.setVm vm₁).calling g' mk (Value.ref b :: As).toArray, t, U', L, hT, X', hL, e1, e2, hq, st⟩
  · dsimp only [Pt.U, Pt.locs, Pt.cells, Pt.slots] at X' e1 e2 h1 h2 h3 st hcl
    subst h1; subst h2; subst h3
    exact Or.inr ⟨q, (T.setVm vm₁).calling g' mk (Value.ref b :: As).toArray, t, U', L, E, ce, hT, X', hL, e1, e2, hq, hce, hcv, vx_cls hW₁ hcl, st⟩
theorem vx_runSX {hh : List (Nat × Nat × Nat × Nat)} (S : CallFix p m c cc nL s args Ts own) (hM : vx_Met l y ws rm Pc Qc XC mc ms free) (cw : vx_CSW R s args own index y bytes maxL ret hh ws rm mc ms n) (hp : PreS s H Pc As)
    (hg : g.method = m) (hn : As.length = n) (hsize : g.locals.size = nL) (hstack : g.stack = As.reverse ++ rest) (hW : 2 * g.monitorRoom + (rest.map fun v => v.category).sum ≤ 8) (hdg : decode cc g.pc = .ok (.invokestatic index, 3)) (hf : cells + mc ≤ R.cells ∧ slots + ms ≤ R.slots) :
    vx_Run p l e R s m args below meth c H locs cells slots mc ms g rest (Qc As.toArray) XC free := by
  obtain ⟨⟨hrc, hrs, hfr, hlo, hws, hcw⟩, hcode, hini, hy, hlen, hl, hstt⟩ := cw
  have hK : vx_Back l R p e below s args y 3 8 (PreOf R mc ms Pc) (PostOf Qc mc ms free) (vx_Post XC mc ms free) := vx_backW (hh := hh) (bytes := bytes) (maxL := maxL) (ret := ret) hM hp.1 hrc hrs hfr hlo hws hcw (fun a' U hW => word_at hW (Or.inl (by first | rfl | simp [Cond.onTables, Cond.keeps, Cond.steady])) hini)
  obtain ⟨hx, hb, hml, ho, -⟩ := S
  intro T hT X
  rcases vx_callSX X hx (hh := hh) (bytes := bytes) (maxL := maxL) (ret := ret) ho hl hstt hini hcode hy hK hg (hsize.trans hml.symm) (argsL := As) (rest := rest) (fun sig h => hn.trans (hlen sig h)) hstack hW (by rw [hb]; exact hdg)
    (fun vm₁ hW₁ => ⟨hf.1, hf.2, hp.2 (T.setVm vm₁) hT hW₁⟩) with ⟨v, vm₁, ⟨U', l2, c2, s2⟩, hW₁, X', ⟨g', mk, t, L, e1, e2, hq, h1, hL, h2, h3⟩, st⟩ | ⟨q, vm₁, ⟨U', l2, c2, s2⟩, hW₁, X', ⟨g', mk, t, L, E, ce, e1, e2, hq, hce, hcv, hcl, h1, hL, h2, h3⟩, st⟩
  · dsimp only [Pt.U, Pt.locs, Pt.cells, Pt.slots] at X' e1 e2 h1 h2 h3 st
    subst h1; subst h2; subst h3
    exact Or.inl ⟨v, (T.setVm vm₁).calling g' mk As.toArray, t, U', L, hT, X', hL, e1, e2, hq, st⟩
  · dsimp only [Pt.U, Pt.locs, Pt.cells, Pt.slots] at X' e1 e2 h1 h2 h3 st hcl
    subst h1; subst h2; subst h3
    exact Or.inr ⟨q, (T.setVm vm₁).calling g' mk As.toArray, t, U', L, E, ce, hT, X', hL, e1, e2, hq, hce, hcv, vx_cls hW₁ hcl, st⟩
end
end VXH
theorem vx_ofWH {l : Launch} {y : MethodName} {ws ws' : List Cond} {rm : Room} {Pc : Array Value → State → Prop} {Qc : Array Value → State → Outcome → State → Prop} {XC : String → State → State → Prop} {mc ms : Nat} {free : Addr → Prop} {cc : ByteArray} {maxL : Nat} {ret : Option FieldType} {hh : List (Nat × Nat × Nat × Nat)}
    (hy : plainName y.cls = true) (hw : ws = Cond.codeWith y cc maxL ret hh :: ws')
    (body : ∀ p e s m args below meth c s₁, BodyLoose p l y (headSpec ws rm) cc maxL ret e s m args below meth c s₁ → c.maxLocals = maxL → Pc args s →
      W p l e (headSpec ws rm).room s m args below meth c s.heap [] 0 0 (vx_MQ below Qc XC args s mc ms free) (entryFrame m args maxL)) : vx_Met l y ws rm Pc Qc XC mc ms free := by
  refine MetFree.of_bodyS (code := cc) (maxLocals := maxL) (ret := ret) hy ?_ ?_
  · intro args s m h hn
    obtain ⟨m9, meth, c, hn9, h1, h2, h3, h4, -, h5, h6, -⟩ := Cond.codeWith_spec (atoms_spec (ws := ws) h _ (by rw [hw]; exact List.mem_cons_self))
    cases hn.symm.trans hn9
    exact ⟨meth, c, h1, h2, h3, h4, h5, h6⟩
  · intro p e s m args below meth c s₁ B hml hP _
    have hh0 : s₁.heap = s.heap := by rw [B.state]; rfl
    obtain ⟨t, a1, o, b1, b2, b3⟩ := body p e s m args below meth c s₁ B hml hP s₁ hh0 (Stand.of_body B)
    exact ⟨t, o, a1, b1, b2, b3⟩
/-! ===== END ===== -/
/-! ===== BEGIN a constructor that throws (launches without stack traces) ===== -/
section VXIA
variable {p : Program} {l : Launch} {e : Env} {R : Room} {s : State} {m : MethodId} {args : Array Value} {below : List Frame} {meth : Method} {c : Code} {T : State} {locs : List Loc} {cells slots : Nat}
theorem vx_callI (X : Stand p l e R s m args below meth c T locs cells slots) (hexec : p.tables.exec = Jvm.exec) {own : String} {index : Nat} {y : MethodName} {bytes : ByteArray} {maxL : Nat}
    (hown : s.vm.findClass own = some m.cls) (hy1 : y.name = "<init>") (hlink : (Cond.methodLink own index y).before args s = true) (hinst : (Cond.instanceMethod y).before args s = true)
    (hcode : (Cond.code y bytes maxL none).before args s = true) (hy : y.cls ≠ "java/lang/invoke/MethodHandle" ∧ y.cls ≠ "java/lang/invoke/VarHandle")
    {W9 : Nat} {Pre : Pt → Array Value → Prop} {Post : Pt → Array Value → Option Value → Pt → Prop} {PostX : Pt → Array Value → Addr → Pt → Prop} (hK : vx_Back l R p e below s args y 3 W9 Pre Post PostX)
    {g : JFrame} (hg : g.method = m) (hsize : g.locals.size = c.maxLocals) {a : Addr} {argsL rest : List Value} (hlen : ∀ sig, parseMethodDescriptor y.desc = some sig → argsL.length = sig.parameters.length)
    (hstack : g.stack = argsL.reverse ++ .ref a :: rest) (hW : 2 * g.monitorRoom + (rest.map fun v => v.category).sum ≤ W9) (hdg : decode c.code g.pc = .ok (.invokespecial index, 3))
    (hpre : ∀ vm₁, s.WarmedH vm₁ → Pre ⟨T.setVm vm₁, locs, cells, slots⟩ (Value.ref a :: argsL).toArray) :
    (∃ (v : Option Value) (vm₁ : Vm) (B : Pt), s.WarmedH vm₁ ∧ Stand p l e R s m args below meth c B.U B.locs B.cells B.slots ∧ Post ⟨T.setVm vm₁, locs, cells, slots⟩ (Value.ref a :: argsL).toArray v B ∧
      ∀ target, Steps p.tables e below (B.U.setTop { g with pc := g.pc + 3, stack := v.toList ++ rest }) target → Steps p.tables e below (T.setTop g) target) ∨
    (∃ (q : Addr) (vm₁ : Vm) (B : Pt), s.WarmedH vm₁ ∧ Stand p l e R s m args below meth c B.U B.locs B.cells B.slots ∧ PostX ⟨T.setVm vm₁, locs, cells, slots⟩ (Value.ref a :: argsL).toArray q B ∧
      Steps p.tables e below (T.setTop g) ((B.U.setTop { g with stack := rest }).pushFrame (.throwing q))) := by
  subst hg
  have hpl : e.platform.magicAccessors = ({} : Platform).magicAccessors := by rw [X.admits.platform]
  obtain ⟨mk, methM, cM, kP, vm₁, hnamed, hmethM, hcodeM, -, hlocalsM, -, hkP, -, hW₁, hstep₁⟩ := Steps.initColdArgs (e := e) X.here hexec X.warmed hpl hown hy1 hy hlink hinst hcode (f := g) rfl hlen hstack hdg
  have X₁ := X.noted hW₁
  rcases hK g.method meth c ⟨T.setVm vm₁, locs, cells, slots⟩ { g with stack := rest } (.invokespecial index) mk (Value.ref a :: argsL).toArray X₁ rfl hsize hdg hW (X₁.named hnamed) (hpre vm₁ X₁.warmed) with ⟨v, B, X', hpost, hsteps⟩ | ⟨q, B, X', hpost, hsteps⟩
  · exact Or.inl ⟨v, vm₁, B, X₁.warmed, X', hpost, fun target h => hstep₁ _ fun acts => by rw [doInvoke_state]; exact hsteps.trans h⟩
  · exact Or.inr ⟨q, vm₁, B, X₁.warmed, X', hpost, hstep₁ _ fun acts => by rw [doInvoke_state]; exact hsteps⟩
end VXIA
section VXIB
variable {p : Program} {l : Launch} {e : Env} {R : Room} {s : State} {m : MethodId} {args : Array Value} {below : List Frame} {meth : Method} {c : Code} {H : Heap} {locs : List Loc} {cells slots : Nat}
variable {y : MethodName} {bytes cc : ByteArray} {maxL nL mc ms n index : Nat} {ret : Option FieldType} {ws : List Cond} {rm : Room} {Pc : Array Value → State → Prop} {Qc : Array Value → State → Outcome → State → Prop} {XC : String → State → State → Prop} {free : Addr → Prop} {Ts : List Cond} {own C : String} {b : Addr} {As rest : List Value} {g : JFrame}
theorem vx_runI (S : CallFix p m c cc nL s args Ts own) (hM : vx_Met l y ws rm Pc Qc XC mc ms free) (cw : CallB R s args own index y bytes maxL none ws rm mc ms n ∧ y.name = "<init>" ∧ (Cond.instanceMethod y).before args s = true) (hp : PreS s H Pc (.ref b :: As))
    (hg : g.method = m) (hn : As.length = n) (hsize : g.locals.size = nL) (hstack : g.stack = As.reverse ++ .ref b :: rest) (hW : 2 * g.monitorRoom + (rest.map fun v => v.category).sum ≤ 8) (hdg : decode cc g.pc = .ok (.invokespecial index, 3)) (hf : cells + mc ≤ R.cells ∧ slots + ms ≤ R.slots) :
    vx_Run p l e R s m args below meth c H locs cells slots mc ms g rest (Qc (Value.ref b :: As).toArray) XC free := by
  have hK : vx_Back l R p e below s args y 3 8 (PreOf R mc ms Pc) (PostOf Qc mc ms free) (vx_Post XC mc ms free) := vx_callBack cw.1 hM hp.1
  obtain ⟨⟨-, -, -, -, -, -, hcode, -, hy, hlen, hl⟩, hy1, hin⟩ := cw
  obtain ⟨hx, hb, hml, ho, -⟩ := S
  have hPc := hp.2
  intro T hT X
  rcases vx_callI X hx (bytes := bytes) (maxL := maxL) ho hy1 hl hin hcode hy hK hg (hsize.trans hml.symm) (a := b) (argsL := As) (rest := rest) (fun sig h => hn.trans (hlen sig h)) hstack hW (by rw [hb]; exact hdg)
    (fun vm₁ hW₁ => ⟨hf.1, hf.2, hPc (T.setVm vm₁) hT hW₁⟩) with ⟨v, vm₁, ⟨U', l2, c2, s2⟩, hW₁, X', ⟨g', mk, t, L, e1, e2, hq, h1, hL, h2, h3⟩, st⟩ | ⟨q, vm₁, ⟨U', l2, c2, s2⟩, hW₁, X', ⟨g', mk, t, L, E, ce, e1, e2, hq, hce, hcv, hcl, h1, hL, h2, h3⟩, st⟩
  · dsimp only [Pt.U, Pt.locs, Pt.cells, Pt.slots] at X' e1 e2 h1 h2 h3 st
    subst h1; subst h2; subst h3
    exact Or.inl ⟨v, (T.setVm vm₁).calling g' mk (Value.ref b :: As).toArray, t, U', L, hT, X', hL, e1, e2, hq, st⟩
  · dsimp only [Pt.U, Pt.locs, Pt.cells, Pt.slots] at X' e1 e2 h1 h2 h3 st hcl
    subst h1; subst h2; subst h3
    exact Or.inr ⟨q, (T.setVm vm₁).calling g' mk (Value.ref b :: As).toArray, t, U', L, E, ce, hT, X', hL, e1, e2, hq, hce, hcv, vx_cls hW₁ hcl, st⟩
end VXIB
/-! ===== END ===== -/
/-! ===== BEGIN a private constructor of a nest mate that throws ===== -/
section VXIC
variable {p : Program} {l : Launch} {e : Env} {R : Room} {s : State} {m : MethodId} {args : Array Value} {below : List Frame} {meth : Method} {c : Code} {T : State} {locs : List Loc} {cells slots : Nat}
theorem vx_callIN (X : Stand p l e R s m args below meth c T locs cells slots) (hexec : p.tables.exec = Jvm.exec) {own : String} {index : Nat} {host : String} {y : MethodName} {bytes : ByteArray} {maxL : Nat}
    (hown : s.vm.findClass own = some m.cls) (hy1 : y.name = "<init>") (hlink : (Cond.methodLinkNest own index y host).before args s = true) (hinst : (Cond.instanceMethod y).before args s = true)
    (hcode : (Cond.code y bytes maxL none).before args s = true) (hy : y.cls ≠ "java/lang/invoke/MethodHandle" ∧ y.cls ≠ "java/lang/invoke/VarHandle")
    {W9 : Nat} {Pre : Pt → Array Value → Prop} {Post : Pt → Array Value → Option Value → Pt → Prop} {PostX : Pt → Array Value → Addr → Pt → Prop} (hK : vx_Back l R p e below s args y 3 W9 Pre Post PostX)
    {g : JFrame} (hg : g.method = m) (hsize : g.locals.size = c.maxLocals) {a : Addr} {argsL rest : List Value} (hlen : ∀ sig, parseMethodDescriptor y.desc = some sig → argsL.length = sig.parameters.length)
    (hstack : g.stack = argsL.reverse ++ .ref a :: rest) (hW : 2 * g.monitorRoom + (rest.map fun v => v.category).sum ≤ W9) (hdg : decode c.code g.pc = .ok (.invokespecial index, 3))
    (hpre : ∀ vm₁, s.WarmedH vm₁ → Pre ⟨T.setVm vm₁, locs, cells, slots⟩ (Value.ref a :: argsL).toArray) :
    (∃ (v : Option Value) (vm₁ : Vm) (B : Pt), s.WarmedH vm₁ ∧ Stand p l e R s m args below meth c B.U B.locs B.cells B.slots ∧ Post ⟨T.setVm vm₁, locs, cells, slots⟩ (Value.ref a :: argsL).toArray v B ∧
      ∀ target, Steps p.tables e below (B.U.setTop { g with pc := g.pc + 3, stack := v.toList ++ rest }) target → Steps p.tables e below (T.setTop g) target) ∨
    (∃ (q : Addr) (vm₁ : Vm) (B : Pt), s.WarmedH vm₁ ∧ Stand p l e R s m args below meth c B.U B.locs B.cells B.slots ∧ PostX ⟨T.setVm vm₁, locs, cells, slots⟩ (Value.ref a :: argsL).toArray q B ∧
      Steps p.tables e below (T.setTop g) ((B.U.setTop { g with stack := rest }).pushFrame (.throwing q))) := by
  subst hg
  have hpl : e.platform.magicAccessors = ({} : Platform).magicAccessors := by rw [X.admits.platform]
  obtain ⟨mk, methM, cM, kP, vm₁, hnamed, hmethM, hcodeM, -, hlocalsM, -, hkP, -, hW₁, hstep₁⟩ := Steps.initColdArgsNest (e := e) X.here hexec X.warmed hpl hown hy1 hy hlink hinst hcode (f := g) rfl hlen hstack hdg
  have X₁ := X.noted hW₁
  rcases hK g.method meth c ⟨T.setVm vm₁, locs, cells, slots⟩ { g with stack := rest } (.invokespecial index) mk (Value.ref a :: argsL).toArray X₁ rfl hsize hdg hW (X₁.named hnamed) (hpre vm₁ X₁.warmed) with ⟨v, B, X', hpost, hsteps⟩ | ⟨q, B, X', hpost, hsteps⟩
  · exact Or.inl ⟨v, vm₁, B, X₁.warmed, X', hpost, fun target h => hstep₁ _ fun acts => by rw [doInvoke_state]; exact hsteps.trans h⟩
  · exact Or.inr ⟨q, vm₁, B, X₁.warmed, X', hpost, hstep₁ _ fun acts => by rw [doInvoke_state]; exact hsteps⟩
end VXIC
section VXID
variable {p : Program} {l : Launch} {e : Env} {R : Room} {s : State} {m : MethodId} {args : Array Value} {below : List Frame} {meth : Method} {c : Code} {H : Heap} {locs : List Loc} {cells slots : Nat}
theorem vx_runIN {y : MethodName} {bytes cc : ByteArray} {maxL nL mc ms n index : Nat} {ws : List Cond} {rm : Room} {Pc : Array Value → State → Prop} {Qc : Array Value → State → Outcome → State → Prop} {XC : String → State → State → Prop} {free : Addr → Prop} {Ts : List Cond} {own host : String} {b : Addr} {As rest : List Value} {g : JFrame}
    (S : CallFix p m c cc nL s args Ts own) (hM : vx_Met l y ws rm Pc Qc XC mc ms free) (cw : va_CN R s args own index y host bytes maxL none ws rm mc ms n ∧ y.name = "<init>" ∧ (Cond.instanceMethod y).before args s = true) (hp : PreS s H Pc (.ref b :: As))
    (hg : g.method = m) (hn : As.length = n) (hsize : g.locals.size = nL) (hstack : g.stack = As.reverse ++ .ref b :: rest) (hW : 2 * g.monitorRoom + (rest.map fun v => v.category).sum ≤ 8) (hdg : decode cc g.pc = .ok (.invokespecial index, 3)) (hf : cells + mc ≤ R.cells ∧ slots + ms ≤ R.slots) :
    vx_Run p l e R s m args below meth c H locs cells slots mc ms g rest (Qc (Value.ref b :: As).toArray) XC free := by
  obtain ⟨⟨⟨hrc, hrs, hfr, hlo, hws, hcw⟩, hcode, hini, hy, hlen, hl⟩, hx1, hx2⟩ := cw
  have hK : vx_Back l R p e below s args y 3 8 (PreOf R mc ms Pc) (PostOf Qc mc ms free) (vx_Post XC mc ms free) := vx_back (bytes := bytes) (maxL := maxL) (ret := none) hM hp.1 hrc hrs hfr hlo hws hcw (fun a' U hW => word_at hW (Or.inl (by first | rfl | simp [Cond.onTables, Cond.keeps, Cond.steady])) hini)
  obtain ⟨hx, hb, hml, ho, -⟩ := S
  have hPc := hp.2
  intro T hT X
  rcases vx_callIN X hx (bytes := bytes) (maxL := maxL) ho hx1 hl hx2 hcode hy hK hg (hsize.trans hml.symm) (a := b) (argsL := As) (rest := rest) (fun sig h => hn.trans (hlen sig h)) hstack hW (by rw [hb]; exact hdg)
    (fun vm₁ hW₁ => ⟨hf.1, hf.2, hPc (T.setVm vm₁) hT hW₁⟩) with ⟨v, vm₁, ⟨U', l2, c2, s2⟩, hW₁, X', ⟨g', mk, t, L, e1, e2, hq, h1, hL, h2, h3⟩, st⟩ | ⟨q, vm₁, ⟨U', l2, c2, s2⟩, hW₁, X', ⟨g', mk, t, L, E, ce, e1, e2, hq, hce, hcv, hcl, h1, hL, h2, h3⟩, st⟩
  · dsimp only [Pt.U, Pt.locs, Pt.cells, Pt.slots] at X' e1 e2 h1 h2 h3 st
    subst h1; subst h2; subst h3
    exact Or.inl ⟨v, (T.setVm vm₁).calling g' mk (Value.ref b :: As).toArray, t, U', L, hT, X', hL, e1, e2, hq, st⟩
  · dsimp only [Pt.U, Pt.locs, Pt.cells, Pt.slots] at X' e1 e2 h1 h2 h3 st hcl
    subst h1; subst h2; subst h3
    exact Or.inr ⟨q, (T.setVm vm₁).calling g' mk (Value.ref b :: As).toArray, t, U', L, E, ce, hT, X', hL, e1, e2, hq, hce, hcv, vx_cls hW₁ hcl, st⟩
end VXID
/-! ===== END ===== -/
/-! ===== BEGIN a private method of a nest mate that may throw (follows va_callVN, va_callSN, va_runVN, va_runSN) ===== -/
section
variable {p : Program} {l : Launch} {e : Env} {R : Room} {s : State} {m : MethodId} {args : Array Value} {below : List Frame} {meth : Method} {c : Code} {H : Heap} {locs : List Loc} {cells slots : Nat}
variable {T : State}
theorem vx_callVN (X : Stand p l e R s m args below meth c T locs cells slots) (hexec : p.tables.exec = Jvm.exec) {own C : String} {index : Nat} {host : String} {y : MethodName} {bytes : ByteArray} {maxL : Nat} {ret : Option FieldType}
    (hown : s.vm.findClass own = some m.cls) (hlink : (Cond.methodLinkNest own index y host).before args s = true) (hinst : (Cond.instanceMethod y).before args s = true) (hsel : (Cond.selects C y y).before args s = true)
    (hcode : (Cond.code y bytes maxL ret).before args s = true) (hy : y.cls ≠ "java/lang/invoke/MethodHandle" ∧ y.cls ≠ "java/lang/invoke/VarHandle")
    {W : Nat} {Pre : Pt → Array Value → Prop} {Post : Pt → Array Value → Option Value → Pt → Prop} {PostX : Pt → Array Value → Addr → Pt → Prop} (hK : vx_Back l R p e below s args y 3 W Pre Post PostX)
    {b : Addr} {cellB : Cell} (hcell : T.heap[b]? = some cellB) (hobj : cellB.vm.isStatics = false) (hcls : s.vm.findClass C = some cellB.cls)
    {g : JFrame} (hg : g.method = m) (hsize : g.locals.size = c.maxLocals) {argsL rest : List Value} (hlen : ∀ sig, parseMethodDescriptor y.desc = some sig → argsL.length = sig.parameters.length)
    (hstack : g.stack = argsL.reverse ++ .ref b :: rest) (hW : 2 * g.monitorRoom + (rest.map fun v => v.category).sum ≤ W) (hdg : decode c.code g.pc = .ok (.invokevirtual index, 3))
    (hpre : ∀ vm₁, s.WarmedH vm₁ → Pre ⟨T.setVm vm₁, locs, cells, slots⟩ (Value.ref b :: argsL).toArray) :
    (∃ (v : Option Value) (vm₁ : Vm) (B : Pt), s.WarmedH vm₁ ∧ Stand p l e R s m args below meth c B.U B.locs B.cells B.slots ∧ Post ⟨T.setVm vm₁, locs, cells, slots⟩ (Value.ref b :: argsL).toArray v B ∧
      ∀ target, Steps p.tables e below (B.U.setTop { g with pc := g.pc + 3, stack := v.toList ++ rest }) target → Steps p.tables e below (T.setTop g) target) ∨
    (∃ (q : Addr) (vm₁ : Vm) (B : Pt), s.WarmedH vm₁ ∧ Stand p l e R s m args below meth c B.U B.locs B.cells B.slots ∧ PostX ⟨T.setVm vm₁, locs, cells, slots⟩ (Value.ref b :: argsL).toArray q B ∧
      Steps p.tables e below (T.setTop g) ((B.U.setTop { g with stack := rest }).pushFrame (.throwing q))) := by
  obtain ⟨mk, methM, hnamed, hmethM, hstM, habM⟩ := Cond.instanceMethod_spec hinst
  obtain ⟨methM', cM, hmethM', -, -, -, -, -, -, hsigM⟩ := Cond.code_spec hnamed hcode
  cases hmethM.symm.trans hmethM'
  obtain ⟨c2, r2, m2, q1, q2, q3, q4, kP, hkP, hkPi⟩ := Cond.selects_spec hsel
  cases hcls.symm.trans q1
  cases (State.methodFound?_of_named hnamed hy).symm.trans q2
  cases hnamed.symm.trans q3
  have hselP : selectMethod e.platform s.vm cellB.cls mk = .method mk := by rw [Launch.admits_selectMethod X.admits]; exact q4
  obtain ⟨vm₁, X₁, hstep₁⟩ := X.invokevirtualNest hexec hown hlink hnamed hmethM hstM hkP hkPi hy (a := b) (cell := cellB) hcell
    (fun z h => by rw [h] at hobj; cases hobj) hselP hmethM habM hkP hkPi (g := g) hg (argsL := argsL) (rest := rest) (hlen _ hsigM) hstack hdg
  rcases hK m meth c ⟨T.setVm vm₁, locs, cells, slots⟩ { g with stack := rest } (.invokevirtual index) mk (Value.ref b :: argsL).toArray X₁ hg hsize hdg hW (X₁.named hnamed) (hpre vm₁ X₁.warmed) with ⟨v, B, X', hpost, hsteps⟩ | ⟨q, B, X', hpost, hsteps⟩
  · exact Or.inl ⟨v, vm₁, B, X₁.warmed, X', hpost, fun target h => hstep₁ _ fun acts => by rw [doInvoke_state]; exact hsteps.trans h⟩
  · exact Or.inr ⟨q, vm₁, B, X₁.warmed, X', hpost, hstep₁ _ fun acts => by rw [doInvoke_state]; exact hsteps⟩
theorem vx_callSN (X : Stand p l e R s m args below meth c T locs cells slots) (hexec : p.tables.exec = Jvm.exec) {own : String} {index : Nat} {host : String} {y : MethodName} {bytes : ByteArray} {maxL : Nat} {ret : Option FieldType}
    (hown : s.vm.findClass own = some m.cls) (hlink : (Cond.methodLinkNest own index y host).before args s = true) (hstat : (Cond.static y).before args s = true) (hinit : (Cond.initialized y.cls).before args s = true)
    (hcode : (Cond.code y bytes maxL ret).before args s = true) (hy : y.cls ≠ "java/lang/invoke/MethodHandle" ∧ y.cls ≠ "java/lang/invoke/VarHandle")
    {W : Nat} {Pre : Pt → Array Value → Prop} {Post : Pt → Array Value → Option Value → Pt → Prop} {PostX : Pt → Array Value → Addr → Pt → Prop} (hK : vx_Back l R p e below s args y 3 W Pre Post PostX)
    {g : JFrame} (hg : g.method = m) (hsize : g.locals.size = c.maxLocals) {argsL rest : List Value} (hlen : ∀ sig, parseMethodDescriptor y.desc = some sig → argsL.length = sig.parameters.length)
    (hstack : g.stack = argsL.reverse ++ rest) (hW : 2 * g.monitorRoom + (rest.map fun v => v.category).sum ≤ W) (hdg : decode c.code g.pc = .ok (.invokestatic index, 3))
    (hpre : ∀ vm₁, s.WarmedH vm₁ → Pre ⟨T.setVm vm₁, locs, cells, slots⟩ argsL.toArray) :
    (∃ (v : Option Value) (vm₁ : Vm) (B : Pt), s.WarmedH vm₁ ∧ Stand p l e R s m args below meth c B.U B.locs B.cells B.slots ∧ Post ⟨T.setVm vm₁, locs, cells, slots⟩ argsL.toArray v B ∧
      ∀ target, Steps p.tables e below (B.U.setTop { g with pc := g.pc + 3, stack := v.toList ++ rest }) target → Steps p.tables e below (T.setTop g) target) ∨
    (∃ (q : Addr) (vm₁ : Vm) (B : Pt), s.WarmedH vm₁ ∧ Stand p l e R s m args below meth c B.U B.locs B.cells B.slots ∧ PostX ⟨T.setVm vm₁, locs, cells, slots⟩ argsL.toArray q B ∧
      Steps p.tables e below (T.setTop g) ((B.U.setTop { g with stack := rest }).pushFrame (.throwing q))) := by
  obtain ⟨mk, hnamed⟩ := Cond.code_named hcode
  obtain ⟨methM, cM, hmethM, -, -, -, -, -, -, hsigM⟩ := Cond.code_spec hnamed hcode
  have hstatic : methM.isStatic = true := Cond.static_spec hnamed hmethM hstat
  obtain ⟨kP, hkP, -⟩ := className_of_methodNamed hnamed
  have hinitP : kP.init = .initialized := Cond.initialized_spec (findClass_of_methodNamed hnamed) hkP hinit
  obtain ⟨vm₁, X₁, hstep₁⟩ := X.invokestaticNest hexec hown hlink hnamed hmethM hstatic hkP hinitP hy (g := g) hg (argsL := argsL) (rest := rest) (hlen _ hsigM) hstack hdg
  rcases hK m meth c ⟨T.setVm vm₁, locs, cells, slots⟩ { g with stack := rest } (.invokestatic index) mk argsL.toArray X₁ hg hsize hdg hW (X₁.named hnamed) (hpre vm₁ X₁.warmed) with ⟨v, B, X', hpost, hsteps⟩ | ⟨q, B, X', hpost, hsteps⟩
  · exact Or.inl ⟨v, vm₁, B, X₁.warmed, X', hpost, fun target h => hstep₁ _ fun acts => by rw [doInvoke_state]; exact hsteps.trans h⟩
  · exact Or.inr ⟨q, vm₁, B, X₁.warmed, X', hpost, hstep₁ _ fun acts => by rw [doInvoke_state]; exact hsteps⟩
theorem vx_runVN {y : MethodName} {bytes cc : ByteArray} {maxL nL mc ms n index : Nat} {ret : Option FieldType} {ws : List Cond} {rm : Room} {Pc : Array Value → State → Prop} {Qc : Array Value → State → Outcome → State → Prop} {XC : String → State → State → Prop} {free : Addr → Prop} {Ts : List Cond} {own C host : String} {b : Addr} {As rest : List Value} {g : JFrame}
    (S : CallFix p m c cc nL s args Ts own) (hM : vx_Met l y ws rm Pc Qc XC mc ms free) (cw : va_CN R s args own index y host bytes maxL ret ws rm mc ms n ∧ (Cond.instanceMethod y).before args s = true ∧ (Cond.selects C y y).before args s = true) (hp : PreV s H C b Pc As)
    (hg : g.method = m) (hn : As.length = n) (hsize : g.locals.size = nL) (hstack : g.stack = As.reverse ++ .ref b :: rest) (hW : 2 * g.monitorRoom + (rest.map fun v => v.category).sum ≤ 8) (hdg : decode cc g.pc = .ok (.invokevirtual index, 3)) (hf : cells + mc ≤ R.cells ∧ slots + ms ≤ R.slots) :
    vx_Run p l e R s m args below meth c H locs cells slots mc ms g rest (Qc (Value.ref b :: As).toArray) XC free := by
  obtain ⟨⟨⟨hrc, hrs, hfr, hlo, hws, hcw⟩, hcode, hini, hy, hlen, hl⟩, hx1, hx2⟩ := cw
  have hK : vx_Back l R p e below s args y 3 8 (PreOf R mc ms Pc) (PostOf Qc mc ms free) (vx_Post XC mc ms free) := vx_back (bytes := bytes) (maxL := maxL) (ret := ret) hM hp.1 hrc hrs hfr hlo hws hcw (fun a' U hW => word_at hW (Or.inl (by first | rfl | simp [Cond.onTables, Cond.keeps, Cond.steady])) hini)
  obtain ⟨hx, hb, hml, ho, -⟩ := S
  obtain ⟨-, ⟨cellB, hcB, hoB, hclB⟩, hPc⟩ := hp
  intro T hT X
  rcases vx_callVN X hx (C := C) (bytes := bytes) (maxL := maxL) (ret := ret) ho hl hx1 hx2 hcode hy hK (by rw [hT]; exact hcB) hoB hclB hg (hsize.trans hml.symm) (argsL := As) (rest := rest) (fun sig h => hn.trans (hlen sig h)) hstack hW (by rw [hb]; exact hdg)
    (fun vm₁ hW₁ => ⟨hf.1, hf.2, hPc (T.setVm vm₁) hT hW₁⟩) with ⟨v, vm₁, ⟨U', l2, c2, s2⟩, hW₁, X', ⟨g', mk, t, L, e1, e2, hq, h1, hL, h2, h3⟩, st⟩ | ⟨q, vm₁, ⟨U', l2, c2, s2⟩, hW₁, X', ⟨g', mk, t, L, E, ce, e1, e2, hq, hce, hcv, hcl, h1, hL, h2, h3⟩, st⟩
  · dsimp only [Pt.U, Pt.locs, Pt.cells, Pt.slots] at X' e1 e2 h1 h2 h3 st
    subst h1; subst h2; subst h3
    exact Or.inl ⟨v, (T.setVm vm₁).calling g' mk (Value.ref b :: As).toArray, t, U', L, hT, X', hL, e1, e2, hq, st⟩
  · dsimp only [Pt.U, Pt.locs, Pt.cells, Pt.slots] at X' e1 e2 h1 h2 h3 st hcl
    subst h1; subst h2; subst h3
    exact Or.inr ⟨q, (T.setVm vm₁).calling g' mk (Value.ref b :: As).toArray, t, U', L, E, ce, hT, X', hL, e1, e2, hq, hce, hcv, vx_cls hW₁ hcl, st⟩
theorem vx_runSN {y : MethodName} {bytes cc : ByteArray} {maxL nL mc ms n index : Nat} {ret : Option FieldType} {ws : List Cond} {rm : Room} {Pc : Array Value → State → Prop} {Qc : Array Value → State → Outcome → State → Prop} {XC : String → State → State → Prop} {free : Addr → Prop} {Ts : List Cond} {own host : String} {As rest : List Value} {g : JFrame}
    (S : CallFix p m c cc nL s args Ts own) (hM : vx_Met l y ws rm Pc Qc XC mc ms free) (cw : va_CN R s args own index y host bytes maxL ret ws rm mc ms n ∧ (Cond.static y).before args s = true ∧ True) (hp : PreS s H Pc As)
    (hg : g.method = m) (hn : As.length = n) (hsize : g.locals.size = nL) (hstack : g.stack = As.reverse ++ rest) (hW : 2 * g.monitorRoom + (rest.map fun v => v.category).sum ≤ 8) (hdg : decode cc g.pc = .ok (.invokestatic index, 3)) (hf : cells + mc ≤ R.cells ∧ slots + ms ≤ R.slots) :
    vx_Run p l e R s m args below meth c H locs cells slots mc ms g rest (Qc As.toArray) XC free := by
  obtain ⟨⟨⟨hrc, hrs, hfr, hlo, hws, hcw⟩, hcode, hini, hy, hlen, hl⟩, hx1, hx2⟩ := cw
  have hK : vx_Back l R p e below s args y 3 8 (PreOf R mc ms Pc) (PostOf Qc mc ms free) (vx_Post XC mc ms free) := vx_back (bytes := bytes) (maxL := maxL) (ret := ret) hM hp.1 hrc hrs hfr hlo hws hcw (fun a' U hW => word_at hW (Or.inl (by first | rfl | simp [Cond.onTables, Cond.keeps, Cond.steady])) hini)
  obtain ⟨hx, hb, hml, ho, -⟩ := S
  have hPc := hp.2
  intro T hT X
  rcases vx_callSN X hx (bytes := bytes) (maxL := maxL) (ret := ret) ho hl hx1 hini hcode hy hK hg (hsize.trans hml.symm) (argsL := As) (rest := rest) (fun sig h => hn.trans (hlen sig h)) hstack hW (by rw [hb]; exact hdg)
    (fun vm₁ hW₁ => ⟨hf.1, hf.2, hPc (T.setVm vm₁) hT hW₁⟩) with ⟨v, vm₁, ⟨U', l2, c2, s2⟩, hW₁, X', ⟨g', mk, t, L, e1, e2, hq, h1, hL, h2, h3⟩, st⟩ | ⟨q, vm₁, ⟨U', l2, c2, s2⟩, hW₁, X', ⟨g', mk, t, L, E, ce, e1, e2, hq, hce, hcv, hcl, h1, hL, h2, h3⟩, st⟩
  · dsimp only [Pt.U, Pt.locs, Pt.cells, Pt.slots] at X' e1 e2 h1 h2 h3 st
    subst h1; subst h2; subst h3
    exact Or.inl ⟨v, (T.setVm vm₁).calling g' mk As.toArray, t, U', L, hT, X', hL, e1, e2, hq, st⟩
  · dsimp only [Pt.U, Pt.locs, Pt.cells, Pt.slots] at X' e1 e2 h1 h2 h3 st hcl
    subst h1; subst h2; subst h3
    exact Or.inr ⟨q, (T.setVm vm₁).calling g' mk As.toArray, t, U', L, E, ce, hT, X', hL, e1, e2, hq, hce, hcv, vx_cls hW₁ hcl, st⟩
end
/-! ===== END ===== -/
end
section
-- ===== PART A: goes FIRST, ahead of the names: the tables' words, and 'selects' of the private methods out of them =====
/-- a private method of a class that the tables say can be made, by its rows of tables_1 -/
def lw_okq (q : MethodName × Nat) : Prop := (q.1.cls ≠ "java/lang/invoke/MethodHandle" ∧ q.1.cls ≠ "java/lang/invoke/VarHandle") ∧ Cond.instantiable q.1.cls q.2 ∈ tables_1 ∧ Cond.privateMethod q.1 ∈ tables_1 ∧ Cond.instanceMethod q.1 ∈ tables_1
theorem lw_p0 : lw_okq (⟨"OverlapMill", "refresh", "()V"⟩, 12) := ⟨⟨by decide +kernel, by decide +kernel⟩, List.mem_of_getElem? (i := 24) (by decide +kernel), List.mem_of_getElem? (i := 410) (by decide +kernel), List.mem_of_getElem? (i := 411) (by decide +kernel)⟩
theorem lw_p1 : lw_okq (⟨"OverlapMill$Body", "isWhole", "()Z"⟩, 8) := ⟨⟨by decide +kernel, by decide +kernel⟩, List.mem_of_getElem? (i := 32) (by decide +kernel), List.mem_of_getElem? (i := 414) (by decide +kernel), List.mem_of_getElem? (i := 415) (by decide +kernel)⟩
theorem lw_p2 : lw_okq (⟨"OverlapMill$Body", "sourcesOf", "(I)I"⟩, 8) := ⟨⟨by decide +kernel, by decide +kernel⟩, List.mem_of_getElem? (i := 32) (by decide +kernel), List.mem_of_getElem? (i := 418) (by decide +kernel), List.mem_of_getElem? (i := 419) (by decide +kernel)⟩
theorem lw_p3 : lw_okq (⟨"OverlapMill$Body", "sourceAt", "(II)I"⟩, 8) := ⟨⟨by decide +kernel, by decide +kernel⟩, List.mem_of_getElem? (i := 32) (by decide +kernel), List.mem_of_getElem? (i := 422) (by decide +kernel), List.mem_of_getElem? (i := 423) (by decide +kernel)⟩
theorem lw_p4 : lw_okq (⟨"OverlapMill$Body", "distanceAt", "(II)I"⟩, 8) := ⟨⟨by decide +kernel, by decide +kernel⟩, List.mem_of_getElem? (i := 32) (by decide +kernel), List.mem_of_getElem? (i := 426) (by decide +kernel), List.mem_of_getElem? (i := 427) (by decide +kernel)⟩
theorem lw_p5 : lw_okq (⟨"OverlapMill$Body", "holdsSource", "(III)Z"⟩, 8) := ⟨⟨by decide +kernel, by decide +kernel⟩, List.mem_of_getElem? (i := 32) (by decide +kernel), List.mem_of_getElem? (i := 430) (by decide +kernel), List.mem_of_getElem? (i := 431) (by decide +kernel)⟩
theorem lw_p6 : lw_okq (⟨"OverlapMill$Web", "weave", "(LOverlapMill$Body;I)V"⟩, 8) := ⟨⟨by decide +kernel, by decide +kernel⟩, List.mem_of_getElem? (i := 85) (by decide +kernel), List.mem_of_getElem? (i := 434) (by decide +kernel), List.mem_of_getElem? (i := 435) (by decide +kernel)⟩
theorem lw_p7 : lw_okq (⟨"OverlapMill$Body", "latencyAt", "(I)I"⟩, 8) := ⟨⟨by decide +kernel, by decide +kernel⟩, List.mem_of_getElem? (i := 32) (by decide +kernel), List.mem_of_getElem? (i := 444) (by decide +kernel), List.mem_of_getElem? (i := 445) (by decide +kernel)⟩
theorem lw_p8 : lw_okq (⟨"OverlapMill$Web", "insert", "(IIII)V"⟩, 8) := ⟨⟨by decide +kernel, by decide +kernel⟩, List.mem_of_getElem? (i := 85) (by decide +kernel), List.mem_of_getElem? (i := 448) (by decide +kernel), List.mem_of_getElem? (i := 449) (by decide +kernel)⟩
theorem lw_p9 : lw_okq (⟨"OverlapMill$Web", "compareAt", "(IIIII)I"⟩, 8) := ⟨⟨by decide +kernel, by decide +kernel⟩, List.mem_of_getElem? (i := 85) (by decide +kernel), List.mem_of_getElem? (i := 452) (by decide +kernel), List.mem_of_getElem? (i := 453) (by decide +kernel)⟩
theorem lw_p10 : lw_okq (⟨"OverlapMill$Web", "set", "(IIIII)V"⟩, 8) := ⟨⟨by decide +kernel, by decide +kernel⟩, List.mem_of_getElem? (i := 85) (by decide +kernel), List.mem_of_getElem? (i := 456) (by decide +kernel), List.mem_of_getElem? (i := 457) (by decide +kernel)⟩
theorem lw_p11 : lw_okq (⟨"OverlapMill$Web", "weaveRows", "(LOverlapMill$Body;III)V"⟩, 8) := ⟨⟨by decide +kernel, by decide +kernel⟩, List.mem_of_getElem? (i := 85) (by decide +kernel), List.mem_of_getElem? (i := 460) (by decide +kernel), List.mem_of_getElem? (i := 461) (by decide +kernel)⟩
theorem lw_p12 : lw_okq (⟨"OverlapMill$Body", "rowAt", "(I)I"⟩, 8) := ⟨⟨by decide +kernel, by decide +kernel⟩, List.mem_of_getElem? (i := 32) (by decide +kernel), List.mem_of_getElem? (i := 464) (by decide +kernel), List.mem_of_getElem? (i := 465) (by decide +kernel)⟩
theorem lw_p13 : lw_okq (⟨"OverlapMill$Body", "placeAt", "(I)I"⟩, 8) := ⟨⟨by decide +kernel, by decide +kernel⟩, List.mem_of_getElem? (i := 32) (by decide +kernel), List.mem_of_getElem? (i := 468) (by decide +kernel), List.mem_of_getElem? (i := 469) (by decide +kernel)⟩
theorem lw_p14 : lw_okq (⟨"OverlapMill$Web", "weigh", "(I)V"⟩, 8) := ⟨⟨by decide +kernel, by decide +kernel⟩, List.mem_of_getElem? (i := 85) (by decide +kernel), List.mem_of_getElem? (i := 472) (by decide +kernel), List.mem_of_getElem? (i := 473) (by decide +kernel)⟩
theorem lw_p15 : lw_okq (⟨"OverlapMill$Web", "goOn", "(IIIII)V"⟩, 8) := ⟨⟨by decide +kernel, by decide +kernel⟩, List.mem_of_getElem? (i := 85) (by decide +kernel), List.mem_of_getElem? (i := 476) (by decide +kernel), List.mem_of_getElem? (i := 477) (by decide +kernel)⟩
def lw_privs_1 : List (MethodName × Nat) := [(⟨"OverlapMill", "refresh", "()V"⟩, 12), (⟨"OverlapMill$Body", "isWhole", "()Z"⟩, 8), (⟨"OverlapMill$Body", "sourcesOf", "(I)I"⟩, 8), (⟨"OverlapMill$Body", "sourceAt", "(II)I"⟩, 8), (⟨"OverlapMill$Body", "distanceAt", "(II)I"⟩, 8), (⟨"OverlapMill$Body", "holdsSource", "(III)Z"⟩, 8), (⟨"OverlapMill$Web", "weave", "(LOverlapMill$Body;I)V"⟩, 8), (⟨"OverlapMill$Body", "latencyAt", "(I)I"⟩, 8), (⟨"OverlapMill$Web", "insert", "(IIII)V"⟩, 8), (⟨"OverlapMill$Web", "compareAt", "(IIIII)I"⟩, 8), (⟨"OverlapMill$Web", "set", "(IIIII)V"⟩, 8), (⟨"OverlapMill$Web", "weaveRows", "(LOverlapMill$Body;III)V"⟩, 8), (⟨"OverlapMill$Body", "rowAt", "(I)I"⟩, 8), (⟨"OverlapMill$Body", "placeAt", "(I)I"⟩, 8), (⟨"OverlapMill$Web", "weigh", "(I)V"⟩, 8), (⟨"OverlapMill$Web", "goOn", "(IIIII)V"⟩, 8)]
theorem lw_r1 : ∀ q ∈ lw_privs_1, lw_okq q := List.forall_mem_cons.mpr ⟨lw_p0, List.forall_mem_cons.mpr ⟨lw_p1, List.forall_mem_cons.mpr ⟨lw_p2, List.forall_mem_cons.mpr ⟨lw_p3, List.forall_mem_cons.mpr ⟨lw_p4, List.forall_mem_cons.mpr ⟨lw_p5, List.forall_mem_cons.mpr ⟨lw_p6, List.forall_mem_cons.mpr ⟨lw_p7, List.forall_mem_cons.mpr ⟨lw_p8, List.forall_mem_cons.mpr ⟨lw_p9, List.forall_mem_cons.mpr ⟨lw_p10, List.forall_mem_cons.mpr ⟨lw_p11, List.forall_mem_cons.mpr ⟨lw_p12, List.forall_mem_cons.mpr ⟨lw_p13, List.forall_mem_cons.mpr ⟨lw_p14, List.forall_mem_cons.mpr ⟨lw_p15, fun _ h => absurd h List.not_mem_nil⟩⟩⟩⟩⟩⟩⟩⟩⟩⟩⟩⟩⟩⟩⟩⟩
theorem lw_p16 : lw_okq (⟨"OverlapMill$Web", "weighRing", "(III)V"⟩, 8) := ⟨⟨by decide +kernel, by decide +kernel⟩, List.mem_of_getElem? (i := 85) (by decide +kernel), List.mem_of_getElem? (i := 480) (by decide +kernel), List.mem_of_getElem? (i := 481) (by decide +kernel)⟩
theorem lw_p17 : lw_okq (⟨"OverlapMill$Web", "rounds", "()I"⟩, 8) := ⟨⟨by decide +kernel, by decide +kernel⟩, List.mem_of_getElem? (i := 85) (by decide +kernel), List.mem_of_getElem? (i := 494) (by decide +kernel), List.mem_of_getElem? (i := 495) (by decide +kernel)⟩
theorem lw_p18 : lw_okq (⟨"OverlapMill$Body", "byUnits", "(II)I"⟩, 8) := ⟨⟨by decide +kernel, by decide +kernel⟩, List.mem_of_getElem? (i := 32) (by decide +kernel), List.mem_of_getElem? (i := 504) (by decide +kernel), List.mem_of_getElem? (i := 505) (by decide +kernel)⟩
theorem lw_p19 : lw_okq (⟨"OverlapMill$Body", "usesOf", "(I)I"⟩, 8) := ⟨⟨by decide +kernel, by decide +kernel⟩, List.mem_of_getElem? (i := 32) (by decide +kernel), List.mem_of_getElem? (i := 508) (by decide +kernel), List.mem_of_getElem? (i := 509) (by decide +kernel)⟩
theorem lw_p20 : lw_okq (⟨"OverlapMill$Body", "unitAt", "(I)I"⟩, 8) := ⟨⟨by decide +kernel, by decide +kernel⟩, List.mem_of_getElem? (i := 32) (by decide +kernel), List.mem_of_getElem? (i := 512) (by decide +kernel), List.mem_of_getElem? (i := 513) (by decide +kernel)⟩
theorem lw_p21 : lw_okq (⟨"OverlapMill$Body", "busyAt", "(I)I"⟩, 8) := ⟨⟨by decide +kernel, by decide +kernel⟩, List.mem_of_getElem? (i := 32) (by decide +kernel), List.mem_of_getElem? (i := 516) (by decide +kernel), List.mem_of_getElem? (i := 517) (by decide +kernel)⟩
theorem lw_p22 : lw_okq (⟨"OverlapMill", "foldBound", "(I)I"⟩, 12) := ⟨⟨by decide +kernel, by decide +kernel⟩, List.mem_of_getElem? (i := 24) (by decide +kernel), List.mem_of_getElem? (i := 530) (by decide +kernel), List.mem_of_getElem? (i := 531) (by decide +kernel)⟩
theorem lw_p23 : lw_okq (⟨"OverlapMill$Body", "latencySum", "()I"⟩, 8) := ⟨⟨by decide +kernel, by decide +kernel⟩, List.mem_of_getElem? (i := 32) (by decide +kernel), List.mem_of_getElem? (i := 536) (by decide +kernel), List.mem_of_getElem? (i := 537) (by decide +kernel)⟩
theorem lw_p24 : lw_okq (⟨"java/lang/Throwable", "fillInStackTrace", "(I)Ljava/lang/Throwable;"⟩, 6) := ⟨⟨by decide +kernel, by decide +kernel⟩, List.mem_of_getElem? (i := 592) (by decide +kernel), List.mem_of_getElem? (i := 590) (by decide +kernel), List.mem_of_getElem? (i := 591) (by decide +kernel)⟩
theorem lw_p25 : lw_okq (⟨"OverlapMill", "append", "(IIIII)I"⟩, 12) := ⟨⟨by decide +kernel, by decide +kernel⟩, List.mem_of_getElem? (i := 24) (by decide +kernel), List.mem_of_getElem? (i := 622) (by decide +kernel), List.mem_of_getElem? (i := 623) (by decide +kernel)⟩
theorem lw_p26 : lw_okq (⟨"OverlapMill$Body", "put", "(IIIII)V"⟩, 8) := ⟨⟨by decide +kernel, by decide +kernel⟩, List.mem_of_getElem? (i := 32) (by decide +kernel), List.mem_of_getElem? (i := 642) (by decide +kernel), List.mem_of_getElem? (i := 643) (by decide +kernel)⟩
theorem lw_p27 : lw_okq (⟨"OverlapMill", "requireOp", "(I)V"⟩, 12) := ⟨⟨by decide +kernel, by decide +kernel⟩, List.mem_of_getElem? (i := 24) (by decide +kernel), List.mem_of_getElem? (i := 681) (by decide +kernel), List.mem_of_getElem? (i := 682) (by decide +kernel)⟩
theorem lw_p28 : lw_okq (⟨"OverlapMill", "requireKind", "(I)V"⟩, 12) := ⟨⟨by decide +kernel, by decide +kernel⟩, List.mem_of_getElem? (i := 24) (by decide +kernel), List.mem_of_getElem? (i := 709) (by decide +kernel), List.mem_of_getElem? (i := 710) (by decide +kernel)⟩
theorem lw_p29 : lw_okq (⟨"OverlapMill", "requireUnit", "(I)V"⟩, 12) := ⟨⟨by decide +kernel, by decide +kernel⟩, List.mem_of_getElem? (i := 24) (by decide +kernel), List.mem_of_getElem? (i := 722) (by decide +kernel), List.mem_of_getElem? (i := 723) (by decide +kernel)⟩
theorem lw_p30 : lw_okq (⟨"OverlapMill", "requireSound", "()V"⟩, 12) := ⟨⟨by decide +kernel, by decide +kernel⟩, List.mem_of_getElem? (i := 24) (by decide +kernel), List.mem_of_getElem? (i := 762) (by decide +kernel), List.mem_of_getElem? (i := 763) (by decide +kernel)⟩
theorem lw_p31 : lw_okq (⟨"OverlapMill", "requireNeed", "(I)V"⟩, 12) := ⟨⟨by decide +kernel, by decide +kernel⟩, List.mem_of_getElem? (i := 24) (by decide +kernel), List.mem_of_getElem? (i := 767) (by decide +kernel), List.mem_of_getElem? (i := 768) (by decide +kernel)⟩
def lw_privs_2 : List (MethodName × Nat) := [(⟨"OverlapMill$Web", "weighRing", "(III)V"⟩, 8), (⟨"OverlapMill$Web", "rounds", "()I"⟩, 8), (⟨"OverlapMill$Body", "byUnits", "(II)I"⟩, 8), (⟨"OverlapMill$Body", "usesOf", "(I)I"⟩, 8), (⟨"OverlapMill$Body", "unitAt", "(I)I"⟩, 8), (⟨"OverlapMill$Body", "busyAt", "(I)I"⟩, 8), (⟨"OverlapMill", "foldBound", "(I)I"⟩, 12), (⟨"OverlapMill$Body", "latencySum", "()I"⟩, 8), (⟨"java/lang/Throwable", "fillInStackTrace", "(I)Ljava/lang/Throwable;"⟩, 6), (⟨"OverlapMill", "append", "(IIIII)I"⟩, 12), (⟨"OverlapMill$Body", "put", "(IIIII)V"⟩, 8), (⟨"OverlapMill", "requireOp", "(I)V"⟩, 12), (⟨"OverlapMill", "requireKind", "(I)V"⟩, 12), (⟨"OverlapMill", "requireUnit", "(I)V"⟩, 12), (⟨"OverlapMill", "requireSound", "()V"⟩, 12), (⟨"OverlapMill", "requireNeed", "(I)V"⟩, 12)]
theorem lw_r2 : ∀ q ∈ lw_privs_2, lw_okq q := List.forall_mem_cons.mpr ⟨lw_p16, List.forall_mem_cons.mpr ⟨lw_p17, List.forall_mem_cons.mpr ⟨lw_p18, List.forall_mem_cons.mpr ⟨lw_p19, List.forall_mem_cons.mpr ⟨lw_p20, List.forall_mem_cons.mpr ⟨lw_p21, List.forall_mem_cons.mpr ⟨lw_p22, List.forall_mem_cons.mpr ⟨lw_p23, List.forall_mem_cons.mpr ⟨lw_p24, List.forall_mem_cons.mpr ⟨lw_p25, List.forall_mem_cons.mpr ⟨lw_p26, List.forall_mem_cons.mpr ⟨lw_p27, List.forall_mem_cons.mpr ⟨lw_p28, List.forall_mem_cons.mpr ⟨lw_p29, List.forall_mem_cons.mpr ⟨lw_p30, List.forall_mem_cons.mpr ⟨lw_p31, fun _ h => absurd h List.not_mem_nil⟩⟩⟩⟩⟩⟩⟩⟩⟩⟩⟩⟩⟩⟩⟩⟩
theorem lw_p32 : lw_okq (⟨"OverlapMill", "requireRounds", "(I)V"⟩, 12) := ⟨⟨by decide +kernel, by decide +kernel⟩, List.mem_of_getElem? (i := 24) (by decide +kernel), List.mem_of_getElem? (i := 779) (by decide +kernel), List.mem_of_getElem? (i := 780) (by decide +kernel)⟩
theorem lw_p33 : lw_okq (⟨"OverlapMill$Reach", "span", "(LOverlapMill$Body;LOverlapMill$Web;I)V"⟩, 3) := ⟨⟨by decide +kernel, by decide +kernel⟩, List.mem_of_getElem? (i := 139) (by decide +kernel), List.mem_of_getElem? (i := 788) (by decide +kernel), List.mem_of_getElem? (i := 789) (by decide +kernel)⟩
theorem lw_p34 : lw_okq (⟨"OverlapMill$Reach", "goOver", "(II)V"⟩, 3) := ⟨⟨by decide +kernel, by decide +kernel⟩, List.mem_of_getElem? (i := 139) (by decide +kernel), List.mem_of_getElem? (i := 797) (by decide +kernel), List.mem_of_getElem? (i := 798) (by decide +kernel)⟩
theorem lw_p35 : lw_okq (⟨"OverlapMill$Reach", "above", "(I)I"⟩, 3) := ⟨⟨by decide +kernel, by decide +kernel⟩, List.mem_of_getElem? (i := 139) (by decide +kernel), List.mem_of_getElem? (i := 809) (by decide +kernel), List.mem_of_getElem? (i := 810) (by decide +kernel)⟩
theorem lw_p36 : lw_okq (⟨"OverlapMill", "chartOf", "(I)LOverlapMill$Chart;"⟩, 12) := ⟨⟨by decide +kernel, by decide +kernel⟩, List.mem_of_getElem? (i := 24) (by decide +kernel), List.mem_of_getElem? (i := 828) (by decide +kernel), List.mem_of_getElem? (i := 829) (by decide +kernel)⟩
theorem lw_p37 : lw_okq (⟨"OverlapMill$Seeker", "holdsByUnits", "(LOverlapMill$Body;I)Z"⟩, 20) := ⟨⟨by decide +kernel, by decide +kernel⟩, List.mem_of_getElem? (i := 157) (by decide +kernel), List.mem_of_getElem? (i := 832) (by decide +kernel), List.mem_of_getElem? (i := 833) (by decide +kernel)⟩
theorem lw_p38 : lw_okq (⟨"OverlapMill$Seeker", "take", "(LOverlapMill$Body;I)Z"⟩, 20) := ⟨⟨by decide +kernel, by decide +kernel⟩, List.mem_of_getElem? (i := 157) (by decide +kernel), List.mem_of_getElem? (i := 836) (by decide +kernel), List.mem_of_getElem? (i := 837) (by decide +kernel)⟩
theorem lw_p39 : lw_okq (⟨"OverlapMill$Seeker", "takeBusy", "(II)Z"⟩, 20) := ⟨⟨by decide +kernel, by decide +kernel⟩, List.mem_of_getElem? (i := 157) (by decide +kernel), List.mem_of_getElem? (i := 843) (by decide +kernel), List.mem_of_getElem? (i := 844) (by decide +kernel)⟩
theorem lw_p40 : lw_okq (⟨"OverlapMill$Seeker", "pairTwins", "()V"⟩, 20) := ⟨⟨by decide +kernel, by decide +kernel⟩, List.mem_of_getElem? (i := 157) (by decide +kernel), List.mem_of_getElem? (i := 848) (by decide +kernel), List.mem_of_getElem? (i := 849) (by decide +kernel)⟩
theorem lw_p41 : lw_okq (⟨"OverlapMill$Seeker", "areTwins", "(II)Z"⟩, 20) := ⟨⟨by decide +kernel, by decide +kernel⟩, List.mem_of_getElem? (i := 157) (by decide +kernel), List.mem_of_getElem? (i := 852) (by decide +kernel), List.mem_of_getElem? (i := 853) (by decide +kernel)⟩
theorem lw_p42 : lw_okq (⟨"OverlapMill$Seeker", "place", "(II)Z"⟩, 20) := ⟨⟨by decide +kernel, by decide +kernel⟩, List.mem_of_getElem? (i := 157) (by decide +kernel), List.mem_of_getElem? (i := 856) (by decide +kernel), List.mem_of_getElem? (i := 857) (by decide +kernel)⟩
theorem lw_p43 : lw_okq (⟨"OverlapMill$Seeker", "hasManyTies", "(I)Z"⟩, 20) := ⟨⟨by decide +kernel, by decide +kernel⟩, List.mem_of_getElem? (i := 157) (by decide +kernel), List.mem_of_getElem? (i := 863) (by decide +kernel), List.mem_of_getElem? (i := 864) (by decide +kernel)⟩
theorem lw_p44 : lw_okq (⟨"OverlapMill$Seeker", "align", "(I)Z"⟩, 20) := ⟨⟨by decide +kernel, by decide +kernel⟩, List.mem_of_getElem? (i := 157) (by decide +kernel), List.mem_of_getElem? (i := 868) (by decide +kernel), List.mem_of_getElem? (i := 869) (by decide +kernel)⟩
theorem lw_p45 : lw_okq (⟨"OverlapMill$Seeker", "tighten", "(I)V"⟩, 20) := ⟨⟨by decide +kernel, by decide +kernel⟩, List.mem_of_getElem? (i := 157) (by decide +kernel), List.mem_of_getElem? (i := 876) (by decide +kernel), List.mem_of_getElem? (i := 877) (by decide +kernel)⟩
theorem lw_p46 : lw_okq (⟨"OverlapMill$Seeker", "settle", "(I)Z"⟩, 20) := ⟨⟨by decide +kernel, by decide +kernel⟩, List.mem_of_getElem? (i := 157) (by decide +kernel), List.mem_of_getElem? (i := 880) (by decide +kernel), List.mem_of_getElem? (i := 881) (by decide +kernel)⟩
theorem lw_p47 : lw_okq (⟨"OverlapMill$Seeker", "openTo", "(I)I"⟩, 20) := ⟨⟨by decide +kernel, by decide +kernel⟩, List.mem_of_getElem? (i := 157) (by decide +kernel), List.mem_of_getElem? (i := 884) (by decide +kernel), List.mem_of_getElem? (i := 885) (by decide +kernel)⟩
def lw_privs_3 : List (MethodName × Nat) := [(⟨"OverlapMill", "requireRounds", "(I)V"⟩, 12), (⟨"OverlapMill$Reach", "span", "(LOverlapMill$Body;LOverlapMill$Web;I)V"⟩, 3), (⟨"OverlapMill$Reach", "goOver", "(II)V"⟩, 3), (⟨"OverlapMill$Reach", "above", "(I)I"⟩, 3), (⟨"OverlapMill", "chartOf", "(I)LOverlapMill$Chart;"⟩, 12), (⟨"OverlapMill$Seeker", "holdsByUnits", "(LOverlapMill$Body;I)Z"⟩, 20), (⟨"OverlapMill$Seeker", "take", "(LOverlapMill$Body;I)Z"⟩, 20), (⟨"OverlapMill$Seeker", "takeBusy", "(II)Z"⟩, 20), (⟨"OverlapMill$Seeker", "pairTwins", "()V"⟩, 20), (⟨"OverlapMill$Seeker", "areTwins", "(II)Z"⟩, 20), (⟨"OverlapMill$Seeker", "place", "(II)Z"⟩, 20), (⟨"OverlapMill$Seeker", "hasManyTies", "(I)Z"⟩, 20), (⟨"OverlapMill$Seeker", "align", "(I)Z"⟩, 20), (⟨"OverlapMill$Seeker", "tighten", "(I)V"⟩, 20), (⟨"OverlapMill$Seeker", "settle", "(I)Z"⟩, 20), (⟨"OverlapMill$Seeker", "openTo", "(I)I"⟩, 20)]
theorem lw_r3 : ∀ q ∈ lw_privs_3, lw_okq q := List.forall_mem_cons.mpr ⟨lw_p32, List.forall_mem_cons.mpr ⟨lw_p33, List.forall_mem_cons.mpr ⟨lw_p34, List.forall_mem_cons.mpr ⟨lw_p35, List.forall_mem_cons.mpr ⟨lw_p36, List.forall_mem_cons.mpr ⟨lw_p37, List.forall_mem_cons.mpr ⟨lw_p38, List.forall_mem_cons.mpr ⟨lw_p39, List.forall_mem_cons.mpr ⟨lw_p40, List.forall_mem_cons.mpr ⟨lw_p41, List.forall_mem_cons.mpr ⟨lw_p42, List.forall_mem_cons.mpr ⟨lw_p43, List.forall_mem_cons.mpr ⟨lw_p44, List.forall_mem_cons.mpr ⟨lw_p45, List.forall_mem_cons.mpr ⟨lw_p46, List.forall_mem_cons.mpr ⟨lw_p47, fun _ h => absurd h List.not_mem_nil⟩⟩⟩⟩⟩⟩⟩⟩⟩⟩⟩⟩⟩⟩⟩⟩
theorem lw_p48 : lw_okq (⟨"OverlapMill$Seeker", "turned", "(II)I"⟩, 20) := ⟨⟨by decide +kernel, by decide +kernel⟩, List.mem_of_getElem? (i := 157) (by decide +kernel), List.mem_of_getElem? (i := 888) (by decide +kernel), List.mem_of_getElem? (i := 889) (by decide +kernel)⟩
theorem lw_p49 : lw_okq (⟨"OverlapMill$Seeker", "windowOf", "(II)I"⟩, 20) := ⟨⟨by decide +kernel, by decide +kernel⟩, List.mem_of_getElem? (i := 157) (by decide +kernel), List.mem_of_getElem? (i := 892) (by decide +kernel), List.mem_of_getElem? (i := 893) (by decide +kernel)⟩
theorem lw_p50 : lw_okq (⟨"OverlapMill$Seeker", "isHarder", "(IIII)Z"⟩, 20) := ⟨⟨by decide +kernel, by decide +kernel⟩, List.mem_of_getElem? (i := 157) (by decide +kernel), List.mem_of_getElem? (i := 896) (by decide +kernel), List.mem_of_getElem? (i := 897) (by decide +kernel)⟩
theorem lw_p51 : lw_okq (⟨"OverlapMill$Seeker", "keepWitness", "()V"⟩, 20) := ⟨⟨by decide +kernel, by decide +kernel⟩, List.mem_of_getElem? (i := 157) (by decide +kernel), List.mem_of_getElem? (i := 900) (by decide +kernel), List.mem_of_getElem? (i := 901) (by decide +kernel)⟩
theorem lw_p52 : lw_okq (⟨"OverlapMill$Seeker", "lift", "(I)V"⟩, 20) := ⟨⟨by decide +kernel, by decide +kernel⟩, List.mem_of_getElem? (i := 157) (by decide +kernel), List.mem_of_getElem? (i := 904) (by decide +kernel), List.mem_of_getElem? (i := 905) (by decide +kernel)⟩
theorem lw_p53 : lw_okq (⟨"OverlapMill$Seeker", "findFirst", "([I)Z"⟩, 20) := ⟨⟨by decide +kernel, by decide +kernel⟩, List.mem_of_getElem? (i := 157) (by decide +kernel), List.mem_of_getElem? (i := 908) (by decide +kernel), List.mem_of_getElem? (i := 909) (by decide +kernel)⟩
theorem lw_p54 : lw_okq (⟨"OverlapMill$Seeker", "tieAll", "([I)V"⟩, 20) := ⟨⟨by decide +kernel, by decide +kernel⟩, List.mem_of_getElem? (i := 157) (by decide +kernel), List.mem_of_getElem? (i := 912) (by decide +kernel), List.mem_of_getElem? (i := 913) (by decide +kernel)⟩
theorem lw_p55 : lw_okq (⟨"OverlapMill$Seeker", "groupOf", "(I)I"⟩, 20) := ⟨⟨by decide +kernel, by decide +kernel⟩, List.mem_of_getElem? (i := 157) (by decide +kernel), List.mem_of_getElem? (i := 917) (by decide +kernel), List.mem_of_getElem? (i := 918) (by decide +kernel)⟩
theorem lw_p56 : lw_okq (⟨"OverlapMill$Chart", "draw", "(LOverlapMill$Body;LOverlapMill$Web;[II)V"⟩, 14) := ⟨⟨by decide +kernel, by decide +kernel⟩, List.mem_of_getElem? (i := 226) (by decide +kernel), List.mem_of_getElem? (i := 921) (by decide +kernel), List.mem_of_getElem? (i := 922) (by decide +kernel)⟩
theorem lw_p57 : lw_okq (⟨"OverlapMill$Chart", "drawTimes", "(LOverlapMill$Web;)V"⟩, 14) := ⟨⟨by decide +kernel, by decide +kernel⟩, List.mem_of_getElem? (i := 226) (by decide +kernel), List.mem_of_getElem? (i := 926) (by decide +kernel), List.mem_of_getElem? (i := 927) (by decide +kernel)⟩
theorem lw_p58 : lw_okq (⟨"OverlapMill$Chart", "stageOf", "(I)I"⟩, 14) := ⟨⟨by decide +kernel, by decide +kernel⟩, List.mem_of_getElem? (i := 226) (by decide +kernel), List.mem_of_getElem? (i := 933) (by decide +kernel), List.mem_of_getElem? (i := 934) (by decide +kernel)⟩
theorem lw_p59 : lw_okq (⟨"OverlapMill$Chart", "drawLives", "(LOverlapMill$Body;)V"⟩, 14) := ⟨⟨by decide +kernel, by decide +kernel⟩, List.mem_of_getElem? (i := 226) (by decide +kernel), List.mem_of_getElem? (i := 937) (by decide +kernel), List.mem_of_getElem? (i := 938) (by decide +kernel)⟩
theorem lw_p60 : lw_okq (⟨"OverlapMill$Chart", "drawNames", "(LOverlapMill$Body;)V"⟩, 14) := ⟨⟨by decide +kernel, by decide +kernel⟩, List.mem_of_getElem? (i := 226) (by decide +kernel), List.mem_of_getElem? (i := 945) (by decide +kernel), List.mem_of_getElem? (i := 946) (by decide +kernel)⟩
theorem lw_p61 : lw_okq (⟨"OverlapMill", "fittingChart", "(I)LOverlapMill$Chart;"⟩, 12) := ⟨⟨by decide +kernel, by decide +kernel⟩, List.mem_of_getElem? (i := 24) (by decide +kernel), List.mem_of_getElem? (i := 963) (by decide +kernel), List.mem_of_getElem? (i := 964) (by decide +kernel)⟩
theorem lw_p62 : lw_okq (⟨"OverlapMill$Chart", "askedIn", "(LOverlapMill$Body;II)I"⟩, 14) := ⟨⟨by decide +kernel, by decide +kernel⟩, List.mem_of_getElem? (i := 226) (by decide +kernel), List.mem_of_getElem? (i := 979) (by decide +kernel), List.mem_of_getElem? (i := 980) (by decide +kernel)⟩
theorem lw_p63 : lw_okq (⟨"OverlapMill$Chart", "asksIn", "(LOverlapMill$Body;II)I"⟩, 14) := ⟨⟨by decide +kernel, by decide +kernel⟩, List.mem_of_getElem? (i := 226) (by decide +kernel), List.mem_of_getElem? (i := 984) (by decide +kernel), List.mem_of_getElem? (i := 985) (by decide +kernel)⟩
def lw_privs_4 : List (MethodName × Nat) := [(⟨"OverlapMill$Seeker", "turned", "(II)I"⟩, 20), (⟨"OverlapMill$Seeker", "windowOf", "(II)I"⟩, 20), (⟨"OverlapMill$Seeker", "isHarder", "(IIII)Z"⟩, 20), (⟨"OverlapMill$Seeker", "keepWitness", "()V"⟩, 20), (⟨"OverlapMill$Seeker", "lift", "(I)V"⟩, 20), (⟨"OverlapMill$Seeker", "findFirst", "([I)Z"⟩, 20), (⟨"OverlapMill$Seeker", "tieAll", "([I)V"⟩, 20), (⟨"OverlapMill$Seeker", "groupOf", "(I)I"⟩, 20), (⟨"OverlapMill$Chart", "draw", "(LOverlapMill$Body;LOverlapMill$Web;[II)V"⟩, 14), (⟨"OverlapMill$Chart", "drawTimes", "(LOverlapMill$Web;)V"⟩, 14), (⟨"OverlapMill$Chart", "stageOf", "(I)I"⟩, 14), (⟨"OverlapMill$Chart", "drawLives", "(LOverlapMill$Body;)V"⟩, 14), (⟨"OverlapMill$Chart", "drawNames", "(LOverlapMill$Body;)V"⟩, 14), (⟨"OverlapMill", "fittingChart", "(I)LOverlapMill$Chart;"⟩, 12), (⟨"OverlapMill$Chart", "askedIn", "(LOverlapMill$Body;II)I"⟩, 14), (⟨"OverlapMill$Chart", "asksIn", "(LOverlapMill$Body;II)I"⟩, 14)]
theorem lw_r4 : ∀ q ∈ lw_privs_4, lw_okq q := List.forall_mem_cons.mpr ⟨lw_p48, List.forall_mem_cons.mpr ⟨lw_p49, List.forall_mem_cons.mpr ⟨lw_p50, List.forall_mem_cons.mpr ⟨lw_p51, List.forall_mem_cons.mpr ⟨lw_p52, List.forall_mem_cons.mpr ⟨lw_p53, List.forall_mem_cons.mpr ⟨lw_p54, List.forall_mem_cons.mpr ⟨lw_p55, List.forall_mem_cons.mpr ⟨lw_p56, List.forall_mem_cons.mpr ⟨lw_p57, List.forall_mem_cons.mpr ⟨lw_p58, List.forall_mem_cons.mpr ⟨lw_p59, List.forall_mem_cons.mpr ⟨lw_p60, List.forall_mem_cons.mpr ⟨lw_p61, List.forall_mem_cons.mpr ⟨lw_p62, List.forall_mem_cons.mpr ⟨lw_p63, fun _ h => absurd h List.not_mem_nil⟩⟩⟩⟩⟩⟩⟩⟩⟩⟩⟩⟩⟩⟩⟩⟩
theorem lw_p64 : lw_okq (⟨"OverlapMill$Hasty", "seek", "(LOverlapMill$Body;LOverlapMill$Web;LOverlapMill$Reach;I)V"⟩, 8) := ⟨⟨by decide +kernel, by decide +kernel⟩, List.mem_of_getElem? (i := 291) (by decide +kernel), List.mem_of_getElem? (i := 996) (by decide +kernel), List.mem_of_getElem? (i := 997) (by decide +kernel)⟩
theorem lw_p65 : lw_okq (⟨"OverlapMill$Hasty", "tally", "(LOverlapMill$Body;I)V"⟩, 8) := ⟨⟨by decide +kernel, by decide +kernel⟩, List.mem_of_getElem? (i := 291) (by decide +kernel), List.mem_of_getElem? (i := 1002) (by decide +kernel), List.mem_of_getElem? (i := 1003) (by decide +kernel)⟩
theorem lw_p66 : lw_okq (⟨"OverlapMill$Hasty", "ask", "(III)V"⟩, 8) := ⟨⟨by decide +kernel, by decide +kernel⟩, List.mem_of_getElem? (i := 291) (by decide +kernel), List.mem_of_getElem? (i := 1008) (by decide +kernel), List.mem_of_getElem? (i := 1009) (by decide +kernel)⟩
theorem lw_p67 : lw_okq (⟨"OverlapMill$Hasty", "hasRoom", "(LOverlapMill$Body;II)Z"⟩, 8) := ⟨⟨by decide +kernel, by decide +kernel⟩, List.mem_of_getElem? (i := 291) (by decide +kernel), List.mem_of_getElem? (i := 1012) (by decide +kernel), List.mem_of_getElem? (i := 1013) (by decide +kernel)⟩
theorem lw_p68 : lw_okq (⟨"OverlapMill$Hasty", "isCrowded", "(III)Z"⟩, 8) := ⟨⟨by decide +kernel, by decide +kernel⟩, List.mem_of_getElem? (i := 291) (by decide +kernel), List.mem_of_getElem? (i := 1016) (by decide +kernel), List.mem_of_getElem? (i := 1017) (by decide +kernel)⟩
theorem lw_p69 : lw_okq (⟨"OverlapMill$Hasty", "highest", "(I)I"⟩, 8) := ⟨⟨by decide +kernel, by decide +kernel⟩, List.mem_of_getElem? (i := 291) (by decide +kernel), List.mem_of_getElem? (i := 1020) (by decide +kernel), List.mem_of_getElem? (i := 1021) (by decide +kernel)⟩
theorem lw_p70 : lw_okq (⟨"OverlapMill$Hasty", "move", "(LOverlapMill$Body;LOverlapMill$Web;I)V"⟩, 8) := ⟨⟨by decide +kernel, by decide +kernel⟩, List.mem_of_getElem? (i := 291) (by decide +kernel), List.mem_of_getElem? (i := 1024) (by decide +kernel), List.mem_of_getElem? (i := 1025) (by decide +kernel)⟩
theorem lw_p71 : lw_okq (⟨"OverlapMill$Hasty", "earlyOf", "(LOverlapMill$Web;I)I"⟩, 8) := ⟨⟨by decide +kernel, by decide +kernel⟩, List.mem_of_getElem? (i := 291) (by decide +kernel), List.mem_of_getElem? (i := 1028) (by decide +kernel), List.mem_of_getElem? (i := 1029) (by decide +kernel)⟩
theorem lw_p72 : lw_okq (⟨"OverlapMill$Hasty", "sendSharers", "(LOverlapMill$Body;I)V"⟩, 8) := ⟨⟨by decide +kernel, by decide +kernel⟩, List.mem_of_getElem? (i := 291) (by decide +kernel), List.mem_of_getElem? (i := 1033) (by decide +kernel), List.mem_of_getElem? (i := 1034) (by decide +kernel)⟩
theorem lw_p73 : lw_okq (⟨"OverlapMill$Hasty", "meetsCrowded", "(LOverlapMill$Body;II)Z"⟩, 8) := ⟨⟨by decide +kernel, by decide +kernel⟩, List.mem_of_getElem? (i := 291) (by decide +kernel), List.mem_of_getElem? (i := 1037) (by decide +kernel), List.mem_of_getElem? (i := 1038) (by decide +kernel)⟩
theorem lw_p74 : lw_okq (⟨"OverlapMill$Hasty", "slotsOf", "(LOverlapMill$Body;I)I"⟩, 8) := ⟨⟨by decide +kernel, by decide +kernel⟩, List.mem_of_getElem? (i := 291) (by decide +kernel), List.mem_of_getElem? (i := 1041) (by decide +kernel), List.mem_of_getElem? (i := 1042) (by decide +kernel)⟩
theorem lw_p75 : lw_okq (⟨"OverlapMill$Hasty", "sendBroken", "(LOverlapMill$Web;I)V"⟩, 8) := ⟨⟨by decide +kernel, by decide +kernel⟩, List.mem_of_getElem? (i := 291) (by decide +kernel), List.mem_of_getElem? (i := 1045) (by decide +kernel), List.mem_of_getElem? (i := 1046) (by decide +kernel)⟩
theorem lw_p76 : lw_okq (⟨"OverlapMill$Chart", "pairedSum", "()I"⟩, 14) := ⟨⟨by decide +kernel, by decide +kernel⟩, List.mem_of_getElem? (i := 226) (by decide +kernel), List.mem_of_getElem? (i := 1070) (by decide +kernel), List.mem_of_getElem? (i := 1071) (by decide +kernel)⟩
theorem lw_p77 : lw_okq (⟨"OverlapMill$Chart", "fullestSlot", "()I"⟩, 14) := ⟨⟨by decide +kernel, by decide +kernel⟩, List.mem_of_getElem? (i := 226) (by decide +kernel), List.mem_of_getElem? (i := 1074) (by decide +kernel), List.mem_of_getElem? (i := 1075) (by decide +kernel)⟩
theorem lw_p78 : lw_okq (⟨"OverlapMill$Chart", "aliveIn", "(I)I"⟩, 14) := ⟨⟨by decide +kernel, by decide +kernel⟩, List.mem_of_getElem? (i := 226) (by decide +kernel), List.mem_of_getElem? (i := 1078) (by decide +kernel), List.mem_of_getElem? (i := 1079) (by decide +kernel)⟩
theorem lw_p79 : lw_okq (⟨"OverlapMill$Chart", "looseOf", "(LOverlapMill$Web;I)I"⟩, 14) := ⟨⟨by decide +kernel, by decide +kernel⟩, List.mem_of_getElem? (i := 226) (by decide +kernel), List.mem_of_getElem? (i := 1092) (by decide +kernel), List.mem_of_getElem? (i := 1093) (by decide +kernel)⟩
def lw_privs_5 : List (MethodName × Nat) := [(⟨"OverlapMill$Hasty", "seek", "(LOverlapMill$Body;LOverlapMill$Web;LOverlapMill$Reach;I)V"⟩, 8), (⟨"OverlapMill$Hasty", "tally", "(LOverlapMill$Body;I)V"⟩, 8), (⟨"OverlapMill$Hasty", "ask", "(III)V"⟩, 8), (⟨"OverlapMill$Hasty", "hasRoom", "(LOverlapMill$Body;II)Z"⟩, 8), (⟨"OverlapMill$Hasty", "isCrowded", "(III)Z"⟩, 8), (⟨"OverlapMill$Hasty", "highest", "(I)I"⟩, 8), (⟨"OverlapMill$Hasty", "move", "(LOverlapMill$Body;LOverlapMill$Web;I)V"⟩, 8), (⟨"OverlapMill$Hasty", "earlyOf", "(LOverlapMill$Web;I)I"⟩, 8), (⟨"OverlapMill$Hasty", "sendSharers", "(LOverlapMill$Body;I)V"⟩, 8), (⟨"OverlapMill$Hasty", "meetsCrowded", "(LOverlapMill$Body;II)Z"⟩, 8), (⟨"OverlapMill$Hasty", "slotsOf", "(LOverlapMill$Body;I)I"⟩, 8), (⟨"OverlapMill$Hasty", "sendBroken", "(LOverlapMill$Web;I)V"⟩, 8), (⟨"OverlapMill$Chart", "pairedSum", "()I"⟩, 14), (⟨"OverlapMill$Chart", "fullestSlot", "()I"⟩, 14), (⟨"OverlapMill$Chart", "aliveIn", "(I)I"⟩, 14), (⟨"OverlapMill$Chart", "looseOf", "(LOverlapMill$Web;I)I"⟩, 14)]
theorem lw_r5 : ∀ q ∈ lw_privs_5, lw_okq q := List.forall_mem_cons.mpr ⟨lw_p64, List.forall_mem_cons.mpr ⟨lw_p65, List.forall_mem_cons.mpr ⟨lw_p66, List.forall_mem_cons.mpr ⟨lw_p67, List.forall_mem_cons.mpr ⟨lw_p68, List.forall_mem_cons.mpr ⟨lw_p69, List.forall_mem_cons.mpr ⟨lw_p70, List.forall_mem_cons.mpr ⟨lw_p71, List.forall_mem_cons.mpr ⟨lw_p72, List.forall_mem_cons.mpr ⟨lw_p73, List.forall_mem_cons.mpr ⟨lw_p74, List.forall_mem_cons.mpr ⟨lw_p75, List.forall_mem_cons.mpr ⟨lw_p76, List.forall_mem_cons.mpr ⟨lw_p77, List.forall_mem_cons.mpr ⟨lw_p78, List.forall_mem_cons.mpr ⟨lw_p79, fun _ h => absurd h List.not_mem_nil⟩⟩⟩⟩⟩⟩⟩⟩⟩⟩⟩⟩⟩⟩⟩⟩
theorem lw_p80 : lw_okq (⟨"OverlapMill$Chart", "turnBegun", "(III)I"⟩, 14) := ⟨⟨by decide +kernel, by decide +kernel⟩, List.mem_of_getElem? (i := 226) (by decide +kernel), List.mem_of_getElem? (i := 1116) (by decide +kernel), List.mem_of_getElem? (i := 1117) (by decide +kernel)⟩
theorem lw_p81 : lw_okq (⟨"OverlapMill$Chart", "cyclesOf", "(I)I"⟩, 14) := ⟨⟨by decide +kernel, by decide +kernel⟩, List.mem_of_getElem? (i := 226) (by decide +kernel), List.mem_of_getElem? (i := 1127) (by decide +kernel), List.mem_of_getElem? (i := 1128) (by decide +kernel)⟩
theorem lw_p82 : lw_okq (⟨"OverlapMill$Chart", "headOf", "(I)I"⟩, 14) := ⟨⟨by decide +kernel, by decide +kernel⟩, List.mem_of_getElem? (i := 226) (by decide +kernel), List.mem_of_getElem? (i := 1131) (by decide +kernel), List.mem_of_getElem? (i := 1132) (by decide +kernel)⟩
theorem lw_p83 : lw_okq (⟨"OverlapMill$Chart", "ringOf", "(I)I"⟩, 14) := ⟨⟨by decide +kernel, by decide +kernel⟩, List.mem_of_getElem? (i := 226) (by decide +kernel), List.mem_of_getElem? (i := 1136) (by decide +kernel), List.mem_of_getElem? (i := 1137) (by decide +kernel)⟩
theorem lw_p84 : lw_okq (⟨"OverlapMill$Play", "turns", "(LOverlapMill$Body;I)V"⟩, 2) := ⟨⟨by decide +kernel, by decide +kernel⟩, List.mem_of_getElem? (i := 326) (by decide +kernel), List.mem_of_getElem? (i := 1151) (by decide +kernel), List.mem_of_getElem? (i := 1152) (by decide +kernel)⟩
theorem lw_p85 : lw_okq (⟨"OverlapMill$Play", "act", "(LOverlapMill$Body;II)I"⟩, 2) := ⟨⟨by decide +kernel, by decide +kernel⟩, List.mem_of_getElem? (i := 326) (by decide +kernel), List.mem_of_getElem? (i := 1155) (by decide +kernel), List.mem_of_getElem? (i := 1156) (by decide +kernel)⟩
theorem lw_p86 : lw_okq (⟨"OverlapMill$Play", "look", "(LOverlapMill$Body;III)I"⟩, 2) := ⟨⟨by decide +kernel, by decide +kernel⟩, List.mem_of_getElem? (i := 326) (by decide +kernel), List.mem_of_getElem? (i := 1161) (by decide +kernel), List.mem_of_getElem? (i := 1162) (by decide +kernel)⟩
theorem lw_p87 : lw_okq (⟨"OverlapMill$Play", "valueOf", "(LOverlapMill$Body;II)I"⟩, 2) := ⟨⟨by decide +kernel, by decide +kernel⟩, List.mem_of_getElem? (i := 326) (by decide +kernel), List.mem_of_getElem? (i := 1167) (by decide +kernel), List.mem_of_getElem? (i := 1168) (by decide +kernel)⟩
theorem lw_p88 : lw_okq (⟨"OverlapMill", "requireNoStore", "(I)V"⟩, 12) := ⟨⟨by decide +kernel, by decide +kernel⟩, List.mem_of_getElem? (i := 24) (by decide +kernel), List.mem_of_getElem? (i := 1179) (by decide +kernel), List.mem_of_getElem? (i := 1180) (by decide +kernel)⟩
theorem lw_p89 : lw_okq (⟨"OverlapMill$Chart", "peeledOf", "(I)I"⟩, 14) := ⟨⟨by decide +kernel, by decide +kernel⟩, List.mem_of_getElem? (i := 226) (by decide +kernel), List.mem_of_getElem? (i := 1214) (by decide +kernel), List.mem_of_getElem? (i := 1215) (by decide +kernel)⟩
theorem lw_p90 : lw_okq (⟨"OverlapMill$Wheel", "settleAll", "(LOverlapMill$Chart;I)Z"⟩, 1) := ⟨⟨by decide +kernel, by decide +kernel⟩, List.mem_of_getElem? (i := 342) (by decide +kernel), List.mem_of_getElem? (i := 1225) (by decide +kernel), List.mem_of_getElem? (i := 1226) (by decide +kernel)⟩
theorem lw_p91 : lw_okq (⟨"OverlapMill$Wheel", "leastPlace", "(LOverlapMill$Chart;II)I"⟩, 1) := ⟨⟨by decide +kernel, by decide +kernel⟩, List.mem_of_getElem? (i := 342) (by decide +kernel), List.mem_of_getElem? (i := 1229) (by decide +kernel), List.mem_of_getElem? (i := 1230) (by decide +kernel)⟩
theorem lw_p92 : lw_okq (⟨"OverlapMill$Wheel", "shutBy", "(LOverlapMill$Chart;III)J"⟩, 1) := ⟨⟨by decide +kernel, by decide +kernel⟩, List.mem_of_getElem? (i := 342) (by decide +kernel), List.mem_of_getElem? (i := 1233) (by decide +kernel), List.mem_of_getElem? (i := 1234) (by decide +kernel)⟩
theorem lw_p93 : lw_okq (⟨"OverlapMill$Chart", "turnInName", "(IIII)I"⟩, 14) := ⟨⟨by decide +kernel, by decide +kernel⟩, List.mem_of_getElem? (i := 226) (by decide +kernel), List.mem_of_getElem? (i := 1256) (by decide +kernel), List.mem_of_getElem? (i := 1257) (by decide +kernel)⟩
theorem lw_p94 : lw_okq (⟨"OverlapMill$Web", "takeAllBut", "(LOverlapMill$Web;I)V"⟩, 8) := ⟨⟨by decide +kernel, by decide +kernel⟩, List.mem_of_getElem? (i := 85) (by decide +kernel), List.mem_of_getElem? (i := 1304) (by decide +kernel), List.mem_of_getElem? (i := 1305) (by decide +kernel)⟩
theorem lw_p95 : lw_okq (⟨"OverlapMill$Reach", "latestOf", "(LOverlapMill$Body;I)I"⟩, 3) := ⟨⟨by decide +kernel, by decide +kernel⟩, List.mem_of_getElem? (i := 139) (by decide +kernel), List.mem_of_getElem? (i := 1322) (by decide +kernel), List.mem_of_getElem? (i := 1323) (by decide +kernel)⟩
def lw_privs_6 : List (MethodName × Nat) := [(⟨"OverlapMill$Chart", "turnBegun", "(III)I"⟩, 14), (⟨"OverlapMill$Chart", "cyclesOf", "(I)I"⟩, 14), (⟨"OverlapMill$Chart", "headOf", "(I)I"⟩, 14), (⟨"OverlapMill$Chart", "ringOf", "(I)I"⟩, 14), (⟨"OverlapMill$Play", "turns", "(LOverlapMill$Body;I)V"⟩, 2), (⟨"OverlapMill$Play", "act", "(LOverlapMill$Body;II)I"⟩, 2), (⟨"OverlapMill$Play", "look", "(LOverlapMill$Body;III)I"⟩, 2), (⟨"OverlapMill$Play", "valueOf", "(LOverlapMill$Body;II)I"⟩, 2), (⟨"OverlapMill", "requireNoStore", "(I)V"⟩, 12), (⟨"OverlapMill$Chart", "peeledOf", "(I)I"⟩, 14), (⟨"OverlapMill$Wheel", "settleAll", "(LOverlapMill$Chart;I)Z"⟩, 1), (⟨"OverlapMill$Wheel", "leastPlace", "(LOverlapMill$Chart;II)I"⟩, 1), (⟨"OverlapMill$Wheel", "shutBy", "(LOverlapMill$Chart;III)J"⟩, 1), (⟨"OverlapMill$Chart", "turnInName", "(IIII)I"⟩, 14), (⟨"OverlapMill$Web", "takeAllBut", "(LOverlapMill$Web;I)V"⟩, 8), (⟨"OverlapMill$Reach", "latestOf", "(LOverlapMill$Body;I)I"⟩, 3)]
theorem lw_r6 : ∀ q ∈ lw_privs_6, lw_okq q := List.forall_mem_cons.mpr ⟨lw_p80, List.forall_mem_cons.mpr ⟨lw_p81, List.forall_mem_cons.mpr ⟨lw_p82, List.forall_mem_cons.mpr ⟨lw_p83, List.forall_mem_cons.mpr ⟨lw_p84, List.forall_mem_cons.mpr ⟨lw_p85, List.forall_mem_cons.mpr ⟨lw_p86, List.forall_mem_cons.mpr ⟨lw_p87, List.forall_mem_cons.mpr ⟨lw_p88, List.forall_mem_cons.mpr ⟨lw_p89, List.forall_mem_cons.mpr ⟨lw_p90, List.forall_mem_cons.mpr ⟨lw_p91, List.forall_mem_cons.mpr ⟨lw_p92, List.forall_mem_cons.mpr ⟨lw_p93, List.forall_mem_cons.mpr ⟨lw_p94, List.forall_mem_cons.mpr ⟨lw_p95, fun _ h => absurd h List.not_mem_nil⟩⟩⟩⟩⟩⟩⟩⟩⟩⟩⟩⟩⟩⟩⟩⟩
theorem lw_p96 : lw_okq (⟨"OverlapMill$Reach", "soonestOf", "(I)I"⟩, 3) := ⟨⟨by decide +kernel, by decide +kernel⟩, List.mem_of_getElem? (i := 139) (by decide +kernel), List.mem_of_getElem? (i := 1326) (by decide +kernel), List.mem_of_getElem? (i := 1327) (by decide +kernel)⟩
theorem lw_p97 : lw_okq (⟨"OverlapMill$Chart", "usersIn", "(LOverlapMill$Body;II)I"⟩, 14) := ⟨⟨by decide +kernel, by decide +kernel⟩, List.mem_of_getElem? (i := 226) (by decide +kernel), List.mem_of_getElem? (i := 1340) (by decide +kernel), List.mem_of_getElem? (i := 1341) (by decide +kernel)⟩
theorem lw_p98 : lw_okq (⟨"OverlapMill$Chart", "cyclesWithoutBegin", "(I)I"⟩, 14) := ⟨⟨by decide +kernel, by decide +kernel⟩, List.mem_of_getElem? (i := 226) (by decide +kernel), List.mem_of_getElem? (i := 1351) (by decide +kernel), List.mem_of_getElem? (i := 1352) (by decide +kernel)⟩
theorem lw_p99 : lw_okq (⟨"OverlapMill$Chart", "hasBegin", "(II)Z"⟩, 14) := ⟨⟨by decide +kernel, by decide +kernel⟩, List.mem_of_getElem? (i := 226) (by decide +kernel), List.mem_of_getElem? (i := 1355) (by decide +kernel), List.mem_of_getElem? (i := 1356) (by decide +kernel)⟩
theorem lw_p100 : lw_okq (⟨"OverlapMill$Patience", "waited", "(LOverlapMill$Body;LOverlapMill$Chart;III)I"⟩, 3) := ⟨⟨by decide +kernel, by decide +kernel⟩, List.mem_of_getElem? (i := 353) (by decide +kernel), List.mem_of_getElem? (i := 1368) (by decide +kernel), List.mem_of_getElem? (i := 1369) (by decide +kernel)⟩
theorem lw_p101 : lw_okq (⟨"OverlapMill$Patience", "lastComing", "(LOverlapMill$Body;LOverlapMill$Chart;II)I"⟩, 3) := ⟨⟨by decide +kernel, by decide +kernel⟩, List.mem_of_getElem? (i := 353) (by decide +kernel), List.mem_of_getElem? (i := 1375) (by decide +kernel), List.mem_of_getElem? (i := 1376) (by decide +kernel)⟩
theorem lw_p102 : lw_okq (⟨"OverlapMill$Patience", "comingOf", "(LOverlapMill$Body;LOverlapMill$Chart;II)I"⟩, 3) := ⟨⟨by decide +kernel, by decide +kernel⟩, List.mem_of_getElem? (i := 353) (by decide +kernel), List.mem_of_getElem? (i := 1382) (by decide +kernel), List.mem_of_getElem? (i := 1383) (by decide +kernel)⟩
theorem lw_p103 : lw_okq (⟨"OverlapMillModel", "adds", "(IIIII)I"⟩, 37) := ⟨⟨by decide +kernel, by decide +kernel⟩, List.mem_of_getElem? (i := 1411) (by decide +kernel), List.mem_of_getElem? (i := 1543) (by decide +kernel), List.mem_of_getElem? (i := 1544) (by decide +kernel)⟩
theorem lw_p104 : lw_okq (⟨"OverlapMillModel", "isOp", "(I)Z"⟩, 37) := ⟨⟨by decide +kernel, by decide +kernel⟩, List.mem_of_getElem? (i := 1411) (by decide +kernel), List.mem_of_getElem? (i := 1566) (by decide +kernel), List.mem_of_getElem? (i := 1567) (by decide +kernel)⟩
theorem lw_p105 : lw_okq (⟨"OverlapMillModel", "sound", "()Z"⟩, 37) := ⟨⟨by decide +kernel, by decide +kernel⟩, List.mem_of_getElem? (i := 1411) (by decide +kernel), List.mem_of_getElem? (i := 1586) (by decide +kernel), List.mem_of_getElem? (i := 1587) (by decide +kernel)⟩
theorem lw_p106 : lw_okq (⟨"OverlapMillModel", "sources", "(I)I"⟩, 37) := ⟨⟨by decide +kernel, by decide +kernel⟩, List.mem_of_getElem? (i := 1411) (by decide +kernel), List.mem_of_getElem? (i := 1590) (by decide +kernel), List.mem_of_getElem? (i := 1591) (by decide +kernel)⟩
theorem lw_p107 : lw_okq (⟨"OverlapMillModel", "source", "(II)I"⟩, 37) := ⟨⟨by decide +kernel, by decide +kernel⟩, List.mem_of_getElem? (i := 1411) (by decide +kernel), List.mem_of_getElem? (i := 1594) (by decide +kernel), List.mem_of_getElem? (i := 1595) (by decide +kernel)⟩
theorem lw_p108 : lw_okq (⟨"OverlapMillModel", "sourceBy", "(II)I"⟩, 37) := ⟨⟨by decide +kernel, by decide +kernel⟩, List.mem_of_getElem? (i := 1411) (by decide +kernel), List.mem_of_getElem? (i := 1598) (by decide +kernel), List.mem_of_getElem? (i := 1599) (by decide +kernel)⟩
theorem lw_p109 : lw_okq (⟨"OverlapMillModel", "laysNeeds", "()V"⟩, 37) := ⟨⟨by decide +kernel, by decide +kernel⟩, List.mem_of_getElem? (i := 1411) (by decide +kernel), List.mem_of_getElem? (i := 1606) (by decide +kernel), List.mem_of_getElem? (i := 1607) (by decide +kernel)⟩
theorem lw_p110 : lw_okq (⟨"OverlapMillModel", "latencyAt", "(I)I"⟩, 37) := ⟨⟨by decide +kernel, by decide +kernel⟩, List.mem_of_getElem? (i := 1411) (by decide +kernel), List.mem_of_getElem? (i := 1610) (by decide +kernel), List.mem_of_getElem? (i := 1611) (by decide +kernel)⟩
theorem lw_p111 : lw_okq (⟨"OverlapMillModel", "comesNeed", "(IIII)V"⟩, 37) := ⟨⟨by decide +kernel, by decide +kernel⟩, List.mem_of_getElem? (i := 1411) (by decide +kernel), List.mem_of_getElem? (i := 1614) (by decide +kernel), List.mem_of_getElem? (i := 1615) (by decide +kernel)⟩
def lw_privs_7 : List (MethodName × Nat) := [(⟨"OverlapMill$Reach", "soonestOf", "(I)I"⟩, 3), (⟨"OverlapMill$Chart", "usersIn", "(LOverlapMill$Body;II)I"⟩, 14), (⟨"OverlapMill$Chart", "cyclesWithoutBegin", "(I)I"⟩, 14), (⟨"OverlapMill$Chart", "hasBegin", "(II)Z"⟩, 14), (⟨"OverlapMill$Patience", "waited", "(LOverlapMill$Body;LOverlapMill$Chart;III)I"⟩, 3), (⟨"OverlapMill$Patience", "lastComing", "(LOverlapMill$Body;LOverlapMill$Chart;II)I"⟩, 3), (⟨"OverlapMill$Patience", "comingOf", "(LOverlapMill$Body;LOverlapMill$Chart;II)I"⟩, 3), (⟨"OverlapMillModel", "adds", "(IIIII)I"⟩, 37), (⟨"OverlapMillModel", "isOp", "(I)Z"⟩, 37), (⟨"OverlapMillModel", "sound", "()Z"⟩, 37), (⟨"OverlapMillModel", "sources", "(I)I"⟩, 37), (⟨"OverlapMillModel", "source", "(II)I"⟩, 37), (⟨"OverlapMillModel", "sourceBy", "(II)I"⟩, 37), (⟨"OverlapMillModel", "laysNeeds", "()V"⟩, 37), (⟨"OverlapMillModel", "latencyAt", "(I)I"⟩, 37), (⟨"OverlapMillModel", "comesNeed", "(IIII)V"⟩, 37)]
theorem lw_r7 : ∀ q ∈ lw_privs_7, lw_okq q := List.forall_mem_cons.mpr ⟨lw_p96, List.forall_mem_cons.mpr ⟨lw_p97, List.forall_mem_cons.mpr ⟨lw_p98, List.forall_mem_cons.mpr ⟨lw_p99, List.forall_mem_cons.mpr ⟨lw_p100, List.forall_mem_cons.mpr ⟨lw_p101, List.forall_mem_cons.mpr ⟨lw_p102, List.forall_mem_cons.mpr ⟨lw_p103, List.forall_mem_cons.mpr ⟨lw_p104, List.forall_mem_cons.mpr ⟨lw_p105, List.forall_mem_cons.mpr ⟨lw_p106, List.forall_mem_cons.mpr ⟨lw_p107, List.forall_mem_cons.mpr ⟨lw_p108, List.forall_mem_cons.mpr ⟨lw_p109, List.forall_mem_cons.mpr ⟨lw_p110, List.forall_mem_cons.mpr ⟨lw_p111, fun _ h => absurd h List.not_mem_nil⟩⟩⟩⟩⟩⟩⟩⟩⟩⟩⟩⟩⟩⟩⟩⟩
theorem lw_p112 : lw_okq (⟨"OverlapMillModel", "isBehind", "(IIIII)Z"⟩, 37) := ⟨⟨by decide +kernel, by decide +kernel⟩, List.mem_of_getElem? (i := 1411) (by decide +kernel), List.mem_of_getElem? (i := 1618) (by decide +kernel), List.mem_of_getElem? (i := 1619) (by decide +kernel)⟩
theorem lw_p113 : lw_okq (⟨"OverlapMillModel", "isOfRow", "(I)Z"⟩, 37) := ⟨⟨by decide +kernel, by decide +kernel⟩, List.mem_of_getElem? (i := 1411) (by decide +kernel), List.mem_of_getElem? (i := 1622) (by decide +kernel), List.mem_of_getElem? (i := 1623) (by decide +kernel)⟩
theorem lw_p114 : lw_okq (⟨"OverlapMillModel", "rowOf", "(I)I"⟩, 37) := ⟨⟨by decide +kernel, by decide +kernel⟩, List.mem_of_getElem? (i := 1411) (by decide +kernel), List.mem_of_getElem? (i := 1626) (by decide +kernel), List.mem_of_getElem? (i := 1627) (by decide +kernel)⟩
theorem lw_p115 : lw_okq (⟨"OverlapMillModel", "placeOf", "(I)I"⟩, 37) := ⟨⟨by decide +kernel, by decide +kernel⟩, List.mem_of_getElem? (i := 1411) (by decide +kernel), List.mem_of_getElem? (i := 1630) (by decide +kernel), List.mem_of_getElem? (i := 1631) (by decide +kernel)⟩
theorem lw_p116 : lw_okq (⟨"OverlapMillModel", "isLess", "(I)Z"⟩, 37) := ⟨⟨by decide +kernel, by decide +kernel⟩, List.mem_of_getElem? (i := 1411) (by decide +kernel), List.mem_of_getElem? (i := 1641) (by decide +kernel), List.mem_of_getElem? (i := 1642) (by decide +kernel)⟩
theorem lw_p117 : lw_okq (⟨"OverlapMillModel", "rounds", "()I"⟩, 37) := ⟨⟨by decide +kernel, by decide +kernel⟩, List.mem_of_getElem? (i := 1411) (by decide +kernel), List.mem_of_getElem? (i := 1645) (by decide +kernel), List.mem_of_getElem? (i := 1646) (by decide +kernel)⟩
theorem lw_p118 : lw_okq (⟨"OverlapMillModel", "laysWays", "(I)V"⟩, 37) := ⟨⟨by decide +kernel, by decide +kernel⟩, List.mem_of_getElem? (i := 1411) (by decide +kernel), List.mem_of_getElem? (i := 1649) (by decide +kernel), List.mem_of_getElem? (i := 1650) (by decide +kernel)⟩
theorem lw_p119 : lw_okq (⟨"OverlapMillModel", "isRound", "()Z"⟩, 37) := ⟨⟨by decide +kernel, by decide +kernel⟩, List.mem_of_getElem? (i := 1411) (by decide +kernel), List.mem_of_getElem? (i := 1659) (by decide +kernel), List.mem_of_getElem? (i := 1660) (by decide +kernel)⟩
theorem lw_p120 : lw_okq (⟨"OverlapMillModel", "heightOf", "(I)I"⟩, 37) := ⟨⟨by decide +kernel, by decide +kernel⟩, List.mem_of_getElem? (i := 1411) (by decide +kernel), List.mem_of_getElem? (i := 1667) (by decide +kernel), List.mem_of_getElem? (i := 1668) (by decide +kernel)⟩
theorem lw_p121 : lw_okq (⟨"OverlapMillModel", "usesOf", "(I)I"⟩, 37) := ⟨⟨by decide +kernel, by decide +kernel⟩, List.mem_of_getElem? (i := 1411) (by decide +kernel), List.mem_of_getElem? (i := 1675) (by decide +kernel), List.mem_of_getElem? (i := 1676) (by decide +kernel)⟩
theorem lw_p122 : lw_okq (⟨"OverlapMillModel", "unitAt", "(I)I"⟩, 37) := ⟨⟨by decide +kernel, by decide +kernel⟩, List.mem_of_getElem? (i := 1411) (by decide +kernel), List.mem_of_getElem? (i := 1679) (by decide +kernel), List.mem_of_getElem? (i := 1680) (by decide +kernel)⟩
theorem lw_p123 : lw_okq (⟨"OverlapMillModel", "busyAt", "(I)I"⟩, 37) := ⟨⟨by decide +kernel, by decide +kernel⟩, List.mem_of_getElem? (i := 1411) (by decide +kernel), List.mem_of_getElem? (i := 1683) (by decide +kernel), List.mem_of_getElem? (i := 1684) (by decide +kernel)⟩
theorem lw_p124 : lw_okq (⟨"OverlapMillModel", "fitsBy", "(I)Z"⟩, 37) := ⟨⟨by decide +kernel, by decide +kernel⟩, List.mem_of_getElem? (i := 1411) (by decide +kernel), List.mem_of_getElem? (i := 1694) (by decide +kernel), List.mem_of_getElem? (i := 1695) (by decide +kernel)⟩
theorem lw_p125 : lw_okq (⟨"OverlapMillModel", "findsSlots", "(I)Z"⟩, 37) := ⟨⟨by decide +kernel, by decide +kernel⟩, List.mem_of_getElem? (i := 1411) (by decide +kernel), List.mem_of_getElem? (i := 1698) (by decide +kernel), List.mem_of_getElem? (i := 1699) (by decide +kernel)⟩
theorem lw_p126 : lw_okq (⟨"OverlapMillModel", "empties", "()V"⟩, 37) := ⟨⟨by decide +kernel, by decide +kernel⟩, List.mem_of_getElem? (i := 1411) (by decide +kernel), List.mem_of_getElem? (i := 1702) (by decide +kernel), List.mem_of_getElem? (i := 1703) (by decide +kernel)⟩
theorem lw_p127 : lw_okq (⟨"OverlapMillModel", "puts", "(IIII)V"⟩, 37) := ⟨⟨by decide +kernel, by decide +kernel⟩, List.mem_of_getElem? (i := 1411) (by decide +kernel), List.mem_of_getElem? (i := 1706) (by decide +kernel), List.mem_of_getElem? (i := 1707) (by decide +kernel)⟩
def lw_privs_8 : List (MethodName × Nat) := [(⟨"OverlapMillModel", "isBehind", "(IIIII)Z"⟩, 37), (⟨"OverlapMillModel", "isOfRow", "(I)Z"⟩, 37), (⟨"OverlapMillModel", "rowOf", "(I)I"⟩, 37), (⟨"OverlapMillModel", "placeOf", "(I)I"⟩, 37), (⟨"OverlapMillModel", "isLess", "(I)Z"⟩, 37), (⟨"OverlapMillModel", "rounds", "()I"⟩, 37), (⟨"OverlapMillModel", "laysWays", "(I)V"⟩, 37), (⟨"OverlapMillModel", "isRound", "()Z"⟩, 37), (⟨"OverlapMillModel", "heightOf", "(I)I"⟩, 37), (⟨"OverlapMillModel", "usesOf", "(I)I"⟩, 37), (⟨"OverlapMillModel", "unitAt", "(I)I"⟩, 37), (⟨"OverlapMillModel", "busyAt", "(I)I"⟩, 37), (⟨"OverlapMillModel", "fitsBy", "(I)Z"⟩, 37), (⟨"OverlapMillModel", "findsSlots", "(I)Z"⟩, 37), (⟨"OverlapMillModel", "empties", "()V"⟩, 37), (⟨"OverlapMillModel", "puts", "(IIII)V"⟩, 37)]
theorem lw_r8 : ∀ q ∈ lw_privs_8, lw_okq q := List.forall_mem_cons.mpr ⟨lw_p112, List.forall_mem_cons.mpr ⟨lw_p113, List.forall_mem_cons.mpr ⟨lw_p114, List.forall_mem_cons.mpr ⟨lw_p115, List.forall_mem_cons.mpr ⟨lw_p116, List.forall_mem_cons.mpr ⟨lw_p117, List.forall_mem_cons.mpr ⟨lw_p118, List.forall_mem_cons.mpr ⟨lw_p119, List.forall_mem_cons.mpr ⟨lw_p120, List.forall_mem_cons.mpr ⟨lw_p121, List.forall_mem_cons.mpr ⟨lw_p122, List.forall_mem_cons.mpr ⟨lw_p123, List.forall_mem_cons.mpr ⟨lw_p124, List.forall_mem_cons.mpr ⟨lw_p125, List.forall_mem_cons.mpr ⟨lw_p126, List.forall_mem_cons.mpr ⟨lw_p127, fun _ h => absurd h List.not_mem_nil⟩⟩⟩⟩⟩⟩⟩⟩⟩⟩⟩⟩⟩⟩⟩⟩
theorem lw_p128 : lw_okq (⟨"OverlapMillModel", "isTooMuch", "(II)Z"⟩, 37) := ⟨⟨by decide +kernel, by decide +kernel⟩, List.mem_of_getElem? (i := 1411) (by decide +kernel), List.mem_of_getElem? (i := 1713) (by decide +kernel), List.mem_of_getElem? (i := 1714) (by decide +kernel)⟩
theorem lw_p129 : lw_okq (⟨"OverlapMillModel", "canBe", "(II)Z"⟩, 37) := ⟨⟨by decide +kernel, by decide +kernel⟩, List.mem_of_getElem? (i := 1411) (by decide +kernel), List.mem_of_getElem? (i := 1717) (by decide +kernel), List.mem_of_getElem? (i := 1718) (by decide +kernel)⟩
theorem lw_p130 : lw_okq (⟨"OverlapMillModel", "laysTimes", "(I)V"⟩, 37) := ⟨⟨by decide +kernel, by decide +kernel⟩, List.mem_of_getElem? (i := 1411) (by decide +kernel), List.mem_of_getElem? (i := 1724) (by decide +kernel), List.mem_of_getElem? (i := 1725) (by decide +kernel)⟩
theorem lw_p131 : lw_okq (⟨"OverlapMillModel", "isQuick", "(I)Z"⟩, 37) := ⟨⟨by decide +kernel, by decide +kernel⟩, List.mem_of_getElem? (i := 1411) (by decide +kernel), List.mem_of_getElem? (i := 1744) (by decide +kernel), List.mem_of_getElem? (i := 1745) (by decide +kernel)⟩
theorem lw_p132 : lw_okq (⟨"OverlapMillModel", "goesQuick", "(I)Z"⟩, 37) := ⟨⟨by decide +kernel, by decide +kernel⟩, List.mem_of_getElem? (i := 1411) (by decide +kernel), List.mem_of_getElem? (i := 1748) (by decide +kernel), List.mem_of_getElem? (i := 1749) (by decide +kernel)⟩
theorem lw_p133 : lw_okq (⟨"OverlapMillModel", "standsAlone", "(II)Z"⟩, 37) := ⟨⟨by decide +kernel, by decide +kernel⟩, List.mem_of_getElem? (i := 1411) (by decide +kernel), List.mem_of_getElem? (i := 1752) (by decide +kernel), List.mem_of_getElem? (i := 1753) (by decide +kernel)⟩
theorem lw_p134 : lw_okq (⟨"OverlapMillModel", "highest", "()I"⟩, 37) := ⟨⟨by decide +kernel, by decide +kernel⟩, List.mem_of_getElem? (i := 1411) (by decide +kernel), List.mem_of_getElem? (i := 1756) (by decide +kernel), List.mem_of_getElem? (i := 1757) (by decide +kernel)⟩
theorem lw_p135 : lw_okq (⟨"OverlapMillModel", "comesQuick", "(II)V"⟩, 37) := ⟨⟨by decide +kernel, by decide +kernel⟩, List.mem_of_getElem? (i := 1411) (by decide +kernel), List.mem_of_getElem? (i := 1760) (by decide +kernel), List.mem_of_getElem? (i := 1761) (by decide +kernel)⟩
theorem lw_p136 : lw_okq (⟨"OverlapMillModel", "early", "(II)I"⟩, 37) := ⟨⟨by decide +kernel, by decide +kernel⟩, List.mem_of_getElem? (i := 1411) (by decide +kernel), List.mem_of_getElem? (i := 1764) (by decide +kernel), List.mem_of_getElem? (i := 1765) (by decide +kernel)⟩
theorem lw_p137 : lw_okq (⟨"OverlapMillModel", "hasRoom", "(III)Z"⟩, 37) := ⟨⟨by decide +kernel, by decide +kernel⟩, List.mem_of_getElem? (i := 1411) (by decide +kernel), List.mem_of_getElem? (i := 1768) (by decide +kernel), List.mem_of_getElem? (i := 1769) (by decide +kernel)⟩
theorem lw_p138 : lw_okq (⟨"OverlapMillModel", "collide", "(III)Z"⟩, 37) := ⟨⟨by decide +kernel, by decide +kernel⟩, List.mem_of_getElem? (i := 1411) (by decide +kernel), List.mem_of_getElem? (i := 1772) (by decide +kernel), List.mem_of_getElem? (i := 1773) (by decide +kernel)⟩
theorem lw_p139 : lw_okq (⟨"OverlapMillModel", "usesSlot", "(III)Z"⟩, 37) := ⟨⟨by decide +kernel, by decide +kernel⟩, List.mem_of_getElem? (i := 1411) (by decide +kernel), List.mem_of_getElem? (i := 1776) (by decide +kernel), List.mem_of_getElem? (i := 1777) (by decide +kernel)⟩
theorem lw_p140 : lw_okq (⟨"OverlapMillModel", "goes", "(II)V"⟩, 37) := ⟨⟨by decide +kernel, by decide +kernel⟩, List.mem_of_getElem? (i := 1411) (by decide +kernel), List.mem_of_getElem? (i := 1780) (by decide +kernel), List.mem_of_getElem? (i := 1781) (by decide +kernel)⟩
theorem lw_p141 : lw_okq (⟨"OverlapMillModel", "isKept", "(II)Z"⟩, 37) := ⟨⟨by decide +kernel, by decide +kernel⟩, List.mem_of_getElem? (i := 1411) (by decide +kernel), List.mem_of_getElem? (i := 1784) (by decide +kernel), List.mem_of_getElem? (i := 1785) (by decide +kernel)⟩
theorem lw_p142 : lw_okq (⟨"OverlapMillModel", "pairedOf", "(II)I"⟩, 37) := ⟨⟨by decide +kernel, by decide +kernel⟩, List.mem_of_getElem? (i := 1411) (by decide +kernel), List.mem_of_getElem? (i := 1800) (by decide +kernel), List.mem_of_getElem? (i := 1801) (by decide +kernel)⟩
theorem lw_p143 : lw_okq (⟨"OverlapMillModel", "unroll", "(I)I"⟩, 37) := ⟨⟨by decide +kernel, by decide +kernel⟩, List.mem_of_getElem? (i := 1411) (by decide +kernel), List.mem_of_getElem? (i := 1804) (by decide +kernel), List.mem_of_getElem? (i := 1805) (by decide +kernel)⟩
def lw_privs_9 : List (MethodName × Nat) := [(⟨"OverlapMillModel", "isTooMuch", "(II)Z"⟩, 37), (⟨"OverlapMillModel", "canBe", "(II)Z"⟩, 37), (⟨"OverlapMillModel", "laysTimes", "(I)V"⟩, 37), (⟨"OverlapMillModel", "isQuick", "(I)Z"⟩, 37), (⟨"OverlapMillModel", "goesQuick", "(I)Z"⟩, 37), (⟨"OverlapMillModel", "standsAlone", "(II)Z"⟩, 37), (⟨"OverlapMillModel", "highest", "()I"⟩, 37), (⟨"OverlapMillModel", "comesQuick", "(II)V"⟩, 37), (⟨"OverlapMillModel", "early", "(II)I"⟩, 37), (⟨"OverlapMillModel", "hasRoom", "(III)Z"⟩, 37), (⟨"OverlapMillModel", "collide", "(III)Z"⟩, 37), (⟨"OverlapMillModel", "usesSlot", "(III)Z"⟩, 37), (⟨"OverlapMillModel", "goes", "(II)V"⟩, 37), (⟨"OverlapMillModel", "isKept", "(II)Z"⟩, 37), (⟨"OverlapMillModel", "pairedOf", "(II)I"⟩, 37), (⟨"OverlapMillModel", "unroll", "(I)I"⟩, 37)]
theorem lw_r9 : ∀ q ∈ lw_privs_9, lw_okq q := List.forall_mem_cons.mpr ⟨lw_p128, List.forall_mem_cons.mpr ⟨lw_p129, List.forall_mem_cons.mpr ⟨lw_p130, List.forall_mem_cons.mpr ⟨lw_p131, List.forall_mem_cons.mpr ⟨lw_p132, List.forall_mem_cons.mpr ⟨lw_p133, List.forall_mem_cons.mpr ⟨lw_p134, List.forall_mem_cons.mpr ⟨lw_p135, List.forall_mem_cons.mpr ⟨lw_p136, List.forall_mem_cons.mpr ⟨lw_p137, List.forall_mem_cons.mpr ⟨lw_p138, List.forall_mem_cons.mpr ⟨lw_p139, List.forall_mem_cons.mpr ⟨lw_p140, List.forall_mem_cons.mpr ⟨lw_p141, List.forall_mem_cons.mpr ⟨lw_p142, List.forall_mem_cons.mpr ⟨lw_p143, fun _ h => absurd h List.not_mem_nil⟩⟩⟩⟩⟩⟩⟩⟩⟩⟩⟩⟩⟩⟩⟩⟩
theorem lw_p144 : lw_okq (⟨"OverlapMillModel", "copiesOf", "(II)I"⟩, 37) := ⟨⟨by decide +kernel, by decide +kernel⟩, List.mem_of_getElem? (i := 1411) (by decide +kernel), List.mem_of_getElem? (i := 1808) (by decide +kernel), List.mem_of_getElem? (i := 1809) (by decide +kernel)⟩
theorem lw_p145 : lw_okq (⟨"OverlapMillModel", "lifeOf", "(II)I"⟩, 37) := ⟨⟨by decide +kernel, by decide +kernel⟩, List.mem_of_getElem? (i := 1411) (by decide +kernel), List.mem_of_getElem? (i := 1812) (by decide +kernel), List.mem_of_getElem? (i := 1813) (by decide +kernel)⟩
theorem lw_p146 : lw_okq (⟨"OverlapMillModel", "begins", "(I)I"⟩, 37) := ⟨⟨by decide +kernel, by decide +kernel⟩, List.mem_of_getElem? (i := 1411) (by decide +kernel), List.mem_of_getElem? (i := 1816) (by decide +kernel), List.mem_of_getElem? (i := 1817) (by decide +kernel)⟩
theorem lw_p147 : lw_okq (⟨"OverlapMillModel", "span", "()I"⟩, 37) := ⟨⟨by decide +kernel, by decide +kernel⟩, List.mem_of_getElem? (i := 1411) (by decide +kernel), List.mem_of_getElem? (i := 1820) (by decide +kernel), List.mem_of_getElem? (i := 1821) (by decide +kernel)⟩
theorem lw_p148 : lw_okq (⟨"OverlapMillModel", "stages", "(I)I"⟩, 37) := ⟨⟨by decide +kernel, by decide +kernel⟩, List.mem_of_getElem? (i := 1411) (by decide +kernel), List.mem_of_getElem? (i := 1824) (by decide +kernel), List.mem_of_getElem? (i := 1825) (by decide +kernel)⟩
theorem lw_p149 : lw_okq (⟨"OverlapMillModel", "names", "(I)I"⟩, 37) := ⟨⟨by decide +kernel, by decide +kernel⟩, List.mem_of_getElem? (i := 1411) (by decide +kernel), List.mem_of_getElem? (i := 1828) (by decide +kernel), List.mem_of_getElem? (i := 1829) (by decide +kernel)⟩
theorem lw_p150 : lw_okq (⟨"OverlapMillModel", "fullest", "(I)I"⟩, 37) := ⟨⟨by decide +kernel, by decide +kernel⟩, List.mem_of_getElem? (i := 1411) (by decide +kernel), List.mem_of_getElem? (i := 1832) (by decide +kernel), List.mem_of_getElem? (i := 1833) (by decide +kernel)⟩
theorem lw_p151 : lw_okq (⟨"OverlapMillModel", "aliveAt", "(II)I"⟩, 37) := ⟨⟨by decide +kernel, by decide +kernel⟩, List.mem_of_getElem? (i := 1411) (by decide +kernel), List.mem_of_getElem? (i := 1836) (by decide +kernel), List.mem_of_getElem? (i := 1837) (by decide +kernel)⟩
theorem lw_p152 : lw_okq (⟨"OverlapMillModel", "looseOf", "(II)I"⟩, 37) := ⟨⟨by decide +kernel, by decide +kernel⟩, List.mem_of_getElem? (i := 1411) (by decide +kernel), List.mem_of_getElem? (i := 1844) (by decide +kernel), List.mem_of_getElem? (i := 1845) (by decide +kernel)⟩
theorem lw_p153 : lw_okq (⟨"OverlapMillModel", "wrongFlat", "(II)I"⟩, 37) := ⟨⟨by decide +kernel, by decide +kernel⟩, List.mem_of_getElem? (i := 1411) (by decide +kernel), List.mem_of_getElem? (i := 1863) (by decide +kernel), List.mem_of_getElem? (i := 1864) (by decide +kernel)⟩
theorem lw_p154 : lw_okq (⟨"OverlapMillModel", "headOf", "(II)I"⟩, 37) := ⟨⟨by decide +kernel, by decide +kernel⟩, List.mem_of_getElem? (i := 1411) (by decide +kernel), List.mem_of_getElem? (i := 1867) (by decide +kernel), List.mem_of_getElem? (i := 1868) (by decide +kernel)⟩
theorem lw_p155 : lw_okq (⟨"OverlapMillModel", "cyclesOf", "(II)I"⟩, 37) := ⟨⟨by decide +kernel, by decide +kernel⟩, List.mem_of_getElem? (i := 1411) (by decide +kernel), List.mem_of_getElem? (i := 1871) (by decide +kernel), List.mem_of_getElem? (i := 1872) (by decide +kernel)⟩
theorem lw_p156 : lw_okq (⟨"OverlapMillModel", "ringOf", "(II)I"⟩, 37) := ⟨⟨by decide +kernel, by decide +kernel⟩, List.mem_of_getElem? (i := 1411) (by decide +kernel), List.mem_of_getElem? (i := 1875) (by decide +kernel), List.mem_of_getElem? (i := 1876) (by decide +kernel)⟩
theorem lw_p157 : lw_okq (⟨"OverlapMillModel", "runs", "(III)V"⟩, 37) := ⟨⟨by decide +kernel, by decide +kernel⟩, List.mem_of_getElem? (i := 1411) (by decide +kernel), List.mem_of_getElem? (i := 1886) (by decide +kernel), List.mem_of_getElem? (i := 1887) (by decide +kernel)⟩
theorem lw_p158 : lw_okq (⟨"OverlapMillModel", "fillsRows", "()V"⟩, 37) := ⟨⟨by decide +kernel, by decide +kernel⟩, List.mem_of_getElem? (i := 1411) (by decide +kernel), List.mem_of_getElem? (i := 1890) (by decide +kernel), List.mem_of_getElem? (i := 1891) (by decide +kernel)⟩
theorem lw_p159 : lw_okq (⟨"OverlapMillModel", "delivers", "(II)V"⟩, 37) := ⟨⟨by decide +kernel, by decide +kernel⟩, List.mem_of_getElem? (i := 1411) (by decide +kernel), List.mem_of_getElem? (i := 1897) (by decide +kernel), List.mem_of_getElem? (i := 1898) (by decide +kernel)⟩
def lw_privs_10 : List (MethodName × Nat) := [(⟨"OverlapMillModel", "copiesOf", "(II)I"⟩, 37), (⟨"OverlapMillModel", "lifeOf", "(II)I"⟩, 37), (⟨"OverlapMillModel", "begins", "(I)I"⟩, 37), (⟨"OverlapMillModel", "span", "()I"⟩, 37), (⟨"OverlapMillModel", "stages", "(I)I"⟩, 37), (⟨"OverlapMillModel", "names", "(I)I"⟩, 37), (⟨"OverlapMillModel", "fullest", "(I)I"⟩, 37), (⟨"OverlapMillModel", "aliveAt", "(II)I"⟩, 37), (⟨"OverlapMillModel", "looseOf", "(II)I"⟩, 37), (⟨"OverlapMillModel", "wrongFlat", "(II)I"⟩, 37), (⟨"OverlapMillModel", "headOf", "(II)I"⟩, 37), (⟨"OverlapMillModel", "cyclesOf", "(II)I"⟩, 37), (⟨"OverlapMillModel", "ringOf", "(II)I"⟩, 37), (⟨"OverlapMillModel", "runs", "(III)V"⟩, 37), (⟨"OverlapMillModel", "fillsRows", "()V"⟩, 37), (⟨"OverlapMillModel", "delivers", "(II)V"⟩, 37)]
theorem lw_r10 : ∀ q ∈ lw_privs_10, lw_okq q := List.forall_mem_cons.mpr ⟨lw_p144, List.forall_mem_cons.mpr ⟨lw_p145, List.forall_mem_cons.mpr ⟨lw_p146, List.forall_mem_cons.mpr ⟨lw_p147, List.forall_mem_cons.mpr ⟨lw_p148, List.forall_mem_cons.mpr ⟨lw_p149, List.forall_mem_cons.mpr ⟨lw_p150, List.forall_mem_cons.mpr ⟨lw_p151, List.forall_mem_cons.mpr ⟨lw_p152, List.forall_mem_cons.mpr ⟨lw_p153, List.forall_mem_cons.mpr ⟨lw_p154, List.forall_mem_cons.mpr ⟨lw_p155, List.forall_mem_cons.mpr ⟨lw_p156, List.forall_mem_cons.mpr ⟨lw_p157, List.forall_mem_cons.mpr ⟨lw_p158, List.forall_mem_cons.mpr ⟨lw_p159, fun _ h => absurd h List.not_mem_nil⟩⟩⟩⟩⟩⟩⟩⟩⟩⟩⟩⟩⟩⟩⟩⟩
theorem lw_p160 : lw_okq (⟨"OverlapMillModel", "nameOf", "(III)I"⟩, 37) := ⟨⟨by decide +kernel, by decide +kernel⟩, List.mem_of_getElem? (i := 1411) (by decide +kernel), List.mem_of_getElem? (i := 1901) (by decide +kernel), List.mem_of_getElem? (i := 1902) (by decide +kernel)⟩
theorem lw_p161 : lw_okq (⟨"OverlapMillModel", "reckons", "(II)I"⟩, 37) := ⟨⟨by decide +kernel, by decide +kernel⟩, List.mem_of_getElem? (i := 1411) (by decide +kernel), List.mem_of_getElem? (i := 1905) (by decide +kernel), List.mem_of_getElem? (i := 1906) (by decide +kernel)⟩
theorem lw_p162 : lw_okq (⟨"OverlapMillModel", "looksAt", "(III)I"⟩, 37) := ⟨⟨by decide +kernel, by decide +kernel⟩, List.mem_of_getElem? (i := 1411) (by decide +kernel), List.mem_of_getElem? (i := 1909) (by decide +kernel), List.mem_of_getElem? (i := 1910) (by decide +kernel)⟩
theorem lw_p163 : lw_okq (⟨"OverlapMillModel", "plainRuns", "(I)V"⟩, 37) := ⟨⟨by decide +kernel, by decide +kernel⟩, List.mem_of_getElem? (i := 1411) (by decide +kernel), List.mem_of_getElem? (i := 1928) (by decide +kernel), List.mem_of_getElem? (i := 1929) (by decide +kernel)⟩
theorem lw_p164 : lw_okq (⟨"OverlapMillModel", "plainOf", "(II)I"⟩, 37) := ⟨⟨by decide +kernel, by decide +kernel⟩, List.mem_of_getElem? (i := 1411) (by decide +kernel), List.mem_of_getElem? (i := 1932) (by decide +kernel), List.mem_of_getElem? (i := 1933) (by decide +kernel)⟩
theorem lw_p165 : lw_okq (⟨"OverlapMillModel", "plainLook", "(III)I"⟩, 37) := ⟨⟨by decide +kernel, by decide +kernel⟩, List.mem_of_getElem? (i := 1411) (by decide +kernel), List.mem_of_getElem? (i := 1936) (by decide +kernel), List.mem_of_getElem? (i := 1937) (by decide +kernel)⟩
theorem lw_p166 : lw_okq (⟨"OverlapMillModel", "peelOf", "(II)I"⟩, 37) := ⟨⟨by decide +kernel, by decide +kernel⟩, List.mem_of_getElem? (i := 1411) (by decide +kernel), List.mem_of_getElem? (i := 1952) (by decide +kernel), List.mem_of_getElem? (i := 1953) (by decide +kernel)⟩
theorem lw_p167 : lw_okq (⟨"OverlapMillModel", "latencies", "()I"⟩, 37) := ⟨⟨by decide +kernel, by decide +kernel⟩, List.mem_of_getElem? (i := 1411) (by decide +kernel), List.mem_of_getElem? (i := 1956) (by decide +kernel), List.mem_of_getElem? (i := 1957) (by decide +kernel)⟩
theorem lw_p168 : lw_okq (⟨"OverlapMillModel", "fitsFile", "(II)I"⟩, 37) := ⟨⟨by decide +kernel, by decide +kernel⟩, List.mem_of_getElem? (i := 1411) (by decide +kernel), List.mem_of_getElem? (i := 1968) (by decide +kernel), List.mem_of_getElem? (i := 1969) (by decide +kernel)⟩
theorem lw_p169 : lw_okq (⟨"OverlapMillModel", "isFree", "(IIII)Z"⟩, 37) := ⟨⟨by decide +kernel, by decide +kernel⟩, List.mem_of_getElem? (i := 1411) (by decide +kernel), List.mem_of_getElem? (i := 1972) (by decide +kernel), List.mem_of_getElem? (i := 1973) (by decide +kernel)⟩
theorem lw_p170 : lw_okq (⟨"OverlapMillModel", "clash", "(IIII)Z"⟩, 37) := ⟨⟨by decide +kernel, by decide +kernel⟩, List.mem_of_getElem? (i := 1411) (by decide +kernel), List.mem_of_getElem? (i := 1976) (by decide +kernel), List.mem_of_getElem? (i := 1977) (by decide +kernel)⟩
theorem lw_p171 : lw_okq (⟨"OverlapMillModel", "meet", "(IIII)Z"⟩, 37) := ⟨⟨by decide +kernel, by decide +kernel⟩, List.mem_of_getElem? (i := 1411) (by decide +kernel), List.mem_of_getElem? (i := 1980) (by decide +kernel), List.mem_of_getElem? (i := 1981) (by decide +kernel)⟩
theorem lw_p172 : lw_okq (⟨"OverlapMillModel", "laysRate", "()V"⟩, 37) := ⟨⟨by decide +kernel, by decide +kernel⟩, List.mem_of_getElem? (i := 1411) (by decide +kernel), List.mem_of_getElem? (i := 1992) (by decide +kernel), List.mem_of_getElem? (i := 1993) (by decide +kernel)⟩
theorem lw_p173 : lw_okq (⟨"OverlapMillModel", "ringsFrom", "(I)V"⟩, 37) := ⟨⟨by decide +kernel, by decide +kernel⟩, List.mem_of_getElem? (i := 1411) (by decide +kernel), List.mem_of_getElem? (i := 1996) (by decide +kernel), List.mem_of_getElem? (i := 1997) (by decide +kernel)⟩
theorem lw_p174 : lw_okq (⟨"OverlapMillModel", "tellsRing", "(II)V"⟩, 37) := ⟨⟨by decide +kernel, by decide +kernel⟩, List.mem_of_getElem? (i := 1411) (by decide +kernel), List.mem_of_getElem? (i := 2000) (by decide +kernel), List.mem_of_getElem? (i := 2001) (by decide +kernel)⟩
theorem lw_p175 : lw_okq (⟨"OverlapMillModel", "comesRing", "(III)V"⟩, 37) := ⟨⟨by decide +kernel, by decide +kernel⟩, List.mem_of_getElem? (i := 1411) (by decide +kernel), List.mem_of_getElem? (i := 2004) (by decide +kernel), List.mem_of_getElem? (i := 2005) (by decide +kernel)⟩
def lw_privs_11 : List (MethodName × Nat) := [(⟨"OverlapMillModel", "nameOf", "(III)I"⟩, 37), (⟨"OverlapMillModel", "reckons", "(II)I"⟩, 37), (⟨"OverlapMillModel", "looksAt", "(III)I"⟩, 37), (⟨"OverlapMillModel", "plainRuns", "(I)V"⟩, 37), (⟨"OverlapMillModel", "plainOf", "(II)I"⟩, 37), (⟨"OverlapMillModel", "plainLook", "(III)I"⟩, 37), (⟨"OverlapMillModel", "peelOf", "(II)I"⟩, 37), (⟨"OverlapMillModel", "latencies", "()I"⟩, 37), (⟨"OverlapMillModel", "fitsFile", "(II)I"⟩, 37), (⟨"OverlapMillModel", "isFree", "(IIII)Z"⟩, 37), (⟨"OverlapMillModel", "clash", "(IIII)Z"⟩, 37), (⟨"OverlapMillModel", "meet", "(IIII)Z"⟩, 37), (⟨"OverlapMillModel", "laysRate", "()V"⟩, 37), (⟨"OverlapMillModel", "ringsFrom", "(I)V"⟩, 37), (⟨"OverlapMillModel", "tellsRing", "(II)V"⟩, 37), (⟨"OverlapMillModel", "comesRing", "(III)V"⟩, 37)]
theorem lw_r11 : ∀ q ∈ lw_privs_11, lw_okq q := List.forall_mem_cons.mpr ⟨lw_p160, List.forall_mem_cons.mpr ⟨lw_p161, List.forall_mem_cons.mpr ⟨lw_p162, List.forall_mem_cons.mpr ⟨lw_p163, List.forall_mem_cons.mpr ⟨lw_p164, List.forall_mem_cons.mpr ⟨lw_p165, List.forall_mem_cons.mpr ⟨lw_p166, List.forall_mem_cons.mpr ⟨lw_p167, List.forall_mem_cons.mpr ⟨lw_p168, List.forall_mem_cons.mpr ⟨lw_p169, List.forall_mem_cons.mpr ⟨lw_p170, List.forall_mem_cons.mpr ⟨lw_p171, List.forall_mem_cons.mpr ⟨lw_p172, List.forall_mem_cons.mpr ⟨lw_p173, List.forall_mem_cons.mpr ⟨lw_p174, List.forall_mem_cons.mpr ⟨lw_p175, fun _ h => absurd h List.not_mem_nil⟩⟩⟩⟩⟩⟩⟩⟩⟩⟩⟩⟩⟩⟩⟩⟩
theorem lw_p176 : lw_okq (⟨"OverlapMillModel", "foldOf", "(I)I"⟩, 37) := ⟨⟨by decide +kernel, by decide +kernel⟩, List.mem_of_getElem? (i := 1411) (by decide +kernel), List.mem_of_getElem? (i := 2016) (by decide +kernel), List.mem_of_getElem? (i := 2017) (by decide +kernel)⟩
theorem lw_p177 : lw_okq (⟨"OverlapMillModel", "bound", "()I"⟩, 37) := ⟨⟨by decide +kernel, by decide +kernel⟩, List.mem_of_getElem? (i := 1411) (by decide +kernel), List.mem_of_getElem? (i := 2028) (by decide +kernel), List.mem_of_getElem? (i := 2029) (by decide +kernel)⟩
theorem lw_p178 : lw_okq (⟨"OverlapMillModel", "byUnits", "()I"⟩, 37) := ⟨⟨by decide +kernel, by decide +kernel⟩, List.mem_of_getElem? (i := 1411) (by decide +kernel), List.mem_of_getElem? (i := 2032) (by decide +kernel), List.mem_of_getElem? (i := 2033) (by decide +kernel)⟩
theorem lw_p179 : lw_okq (⟨"OverlapMillModel", "laysBare", "(I)V"⟩, 37) := ⟨⟨by decide +kernel, by decide +kernel⟩, List.mem_of_getElem? (i := 1411) (by decide +kernel), List.mem_of_getElem? (i := 2056) (by decide +kernel), List.mem_of_getElem? (i := 2057) (by decide +kernel)⟩
theorem lw_p180 : lw_okq (⟨"OverlapMillModel", "begin", "(III)Z"⟩, 37) := ⟨⟨by decide +kernel, by decide +kernel⟩, List.mem_of_getElem? (i := 1411) (by decide +kernel), List.mem_of_getElem? (i := 2068) (by decide +kernel), List.mem_of_getElem? (i := 2069) (by decide +kernel)⟩
theorem lw_p181 : lw_okq (⟨"OverlapMillModel", "thereAt", "(III)I"⟩, 37) := ⟨⟨by decide +kernel, by decide +kernel⟩, List.mem_of_getElem? (i := 1411) (by decide +kernel), List.mem_of_getElem? (i := 2076) (by decide +kernel), List.mem_of_getElem? (i := 2077) (by decide +kernel)⟩
theorem lw_p182 : lw_okq (⟨"OverlapMillModel", "ofNeeds", "(I)I"⟩, 37) := ⟨⟨by decide +kernel, by decide +kernel⟩, List.mem_of_getElem? (i := 1411) (by decide +kernel), List.mem_of_getElem? (i := 2084) (by decide +kernel), List.mem_of_getElem? (i := 2085) (by decide +kernel)⟩
def lw_privs_12 : List (MethodName × Nat) := [(⟨"OverlapMillModel", "foldOf", "(I)I"⟩, 37), (⟨"OverlapMillModel", "bound", "()I"⟩, 37), (⟨"OverlapMillModel", "byUnits", "()I"⟩, 37), (⟨"OverlapMillModel", "laysBare", "(I)V"⟩, 37), (⟨"OverlapMillModel", "begin", "(III)Z"⟩, 37), (⟨"OverlapMillModel", "thereAt", "(III)I"⟩, 37), (⟨"OverlapMillModel", "ofNeeds", "(I)I"⟩, 37)]
theorem lw_r12 : ∀ q ∈ lw_privs_12, lw_okq q := List.forall_mem_cons.mpr ⟨lw_p176, List.forall_mem_cons.mpr ⟨lw_p177, List.forall_mem_cons.mpr ⟨lw_p178, List.forall_mem_cons.mpr ⟨lw_p179, List.forall_mem_cons.mpr ⟨lw_p180, List.forall_mem_cons.mpr ⟨lw_p181, List.forall_mem_cons.mpr ⟨lw_p182, fun _ h => absurd h List.not_mem_nil⟩⟩⟩⟩⟩⟩⟩
def lw_privs : List (MethodName × Nat) := lw_privs_1 ++ (lw_privs_2 ++ (lw_privs_3 ++ (lw_privs_4 ++ (lw_privs_5 ++ (lw_privs_6 ++ (lw_privs_7 ++ (lw_privs_8 ++ (lw_privs_9 ++ (lw_privs_10 ++ (lw_privs_11 ++ (lw_privs_12)))))))))))
def lw_tbl : List Cond := k2_sels lw_privs ++ tables_1
theorem lw_privs_ok : ∀ q ∈ lw_privs, lw_okq q := by
  show ∀ q ∈ lw_privs_1 ++ (lw_privs_2 ++ (lw_privs_3 ++ (lw_privs_4 ++ (lw_privs_5 ++ (lw_privs_6 ++ (lw_privs_7 ++ (lw_privs_8 ++ (lw_privs_9 ++ (lw_privs_10 ++ (lw_privs_11 ++ (lw_privs_12))))))))))), lw_okq q
  exact List.forall_mem_append.mpr ⟨lw_r1, List.forall_mem_append.mpr ⟨lw_r2, List.forall_mem_append.mpr ⟨lw_r3, List.forall_mem_append.mpr ⟨lw_r4, List.forall_mem_append.mpr ⟨lw_r5, List.forall_mem_append.mpr ⟨lw_r6, List.forall_mem_append.mpr ⟨lw_r7, List.forall_mem_append.mpr ⟨lw_r8, List.forall_mem_append.mpr ⟨lw_r9, List.forall_mem_append.mpr ⟨lw_r10, List.forall_mem_append.mpr ⟨lw_r11, lw_r12⟩⟩⟩⟩⟩⟩⟩⟩⟩⟩⟩
-- ===== end of PART A; then your names; then what follows =====
end
section
/-! ===== BEGIN printed: names, fields, word lists, decode rows ===== -/
def RX0 : String := "OverlapMill$Body"
def TX0 : u_T := fun k => match k with
  | 0 => ("OverlapMill$Body", "size", "I", false)
  | 1 => ("OverlapMill$Body", "kinds", "[I", true)
  | 2 => ("OverlapMill$Body", "parts", "[I", true)
  | 3 => ("OverlapMill$Body", "firsts", "[I", true)
  | 4 => ("OverlapMill$Body", "unitOfKind", "[I", true)
  | 5 => ("OverlapMill$Body", "latencyOfKind", "[I", true)
  | 6 => ("OverlapMill$Body", "busyOfKind", "[I", true)
  | _ => ("OverlapMill$Body", "counts", "[I", true)
def tyX0 : Nat → FieldType := fun k => match k with
  | 0 => .int
  | 1 => .array .int
  | 2 => .array .int
  | 3 => .array .int
  | 4 => .array .int
  | 5 => .array .int
  | 6 => .array .int
  | _ => .array .int
abbrev wsX00 : List Cond := u_ws RX0 TX0 8
theorem nmX0 : ∀ a, a < 8 → ∀ b, b < 8 → a ≠ b → (TX0 a).2.1 ≠ (TX0 b).2.1 := by decide +kernel
theorem tyX0_ok : ∀ k, k < 8 → parseFieldDescriptor (TX0 k).2.2.1 = some (tyX0 k) := by decide +kernel
abbrev cX0_init : ByteArray := prog_2_method_1_code
def yX0_init : MethodName := ⟨RX0, "<init>", "()V"⟩
abbrev cX0_put : ByteArray := prog_2_method_2_code
def yX0_put : MethodName := ⟨RX0, "put", "(IIIII)V"⟩
abbrev cX0_latencyAt : ByteArray := prog_2_method_3_code
def yX0_latencyAt : MethodName := ⟨RX0, "latencyAt", "(I)I"⟩
abbrev cX0_unitAt : ByteArray := prog_2_method_4_code
def yX0_unitAt : MethodName := ⟨RX0, "unitAt", "(I)I"⟩
abbrev cX0_busyAt : ByteArray := prog_2_method_5_code
def yX0_busyAt : MethodName := ⟨RX0, "busyAt", "(I)I"⟩
abbrev cX0_sourcesOf : ByteArray := prog_2_method_6_code
def yX0_sourcesOf : MethodName := ⟨RX0, "sourcesOf", "(I)I"⟩
abbrev cX0_sourceAt : ByteArray := prog_2_method_7_code
def yX0_sourceAt : MethodName := ⟨RX0, "sourceAt", "(II)I"⟩
abbrev cX0_distanceAt : ByteArray := prog_2_method_8_code
def yX0_distanceAt : MethodName := ⟨RX0, "distanceAt", "(II)I"⟩
abbrev cX0_rowAt : ByteArray := prog_2_method_9_code
def yX0_rowAt : MethodName := ⟨RX0, "rowAt", "(I)I"⟩
abbrev cX0_placeAt : ByteArray := prog_2_method_10_code
def yX0_placeAt : MethodName := ⟨RX0, "placeAt", "(I)I"⟩
abbrev cX0_isWhole : ByteArray := prog_2_method_11_code
def yX0_isWhole : MethodName := ⟨RX0, "isWhole", "()Z"⟩
abbrev cX0_holdsSource : ByteArray := prog_2_method_12_code
def yX0_holdsSource : MethodName := ⟨RX0, "holdsSource", "(III)Z"⟩
abbrev cX0_usesOf : ByteArray := prog_2_method_13_code
def yX0_usesOf : MethodName := ⟨RX0, "usesOf", "(I)I"⟩
abbrev cX0_latencySum : ByteArray := prog_2_method_14_code
def yX0_latencySum : MethodName := ⟨RX0, "latencySum", "()I"⟩
abbrev cX0_byUnits : ByteArray := prog_2_method_15_code
def yX0_byUnits : MethodName := ⟨RX0, "byUnits", "(II)I"⟩
def RX1 : String := "OverlapMill$Chart"
def TX1 : u_T := fun k => match k with
  | 0 => ("OverlapMill$Chart", "tried", "Z", false)
  | 1 => ("OverlapMill$Chart", "fitting", "Z", false)
  | 2 => ("OverlapMill$Chart", "size", "I", false)
  | 3 => ("OverlapMill$Chart", "step", "I", false)
  | 4 => ("OverlapMill$Chart", "reachEnd", "I", false)
  | 5 => ("OverlapMill$Chart", "stageCount", "I", false)
  | 6 => ("OverlapMill$Chart", "nameSum", "I", false)
  | 7 => ("OverlapMill$Chart", "unroll", "I", false)
  | 8 => ("OverlapMill$Chart", "slots", "[I", true)
  | 9 => ("OverlapMill$Chart", "times", "[I", true)
  | 10 => ("OverlapMill$Chart", "comings", "[I", true)
  | 11 => ("OverlapMill$Chart", "lives", "[I", true)
  | 12 => ("OverlapMill$Chart", "copies", "[I", true)
  | _ => ("OverlapMill$Chart", "paired", "[I", true)
def tyX1 : Nat → FieldType := fun k => match k with
  | 0 => .boolean
  | 1 => .boolean
  | 2 => .int
  | 3 => .int
  | 4 => .int
  | 5 => .int
  | 6 => .int
  | 7 => .int
  | 8 => .array .int
  | 9 => .array .int
  | 10 => .array .int
  | 11 => .array .int
  | 12 => .array .int
  | _ => .array .int
abbrev wsX10 : List Cond := u_ws RX1 TX1 14
theorem nmX1 : ∀ a, a < 14 → ∀ b, b < 14 → a ≠ b → (TX1 a).2.1 ≠ (TX1 b).2.1 := by decide +kernel
theorem tyX1_ok : ∀ k, k < 14 → parseFieldDescriptor (TX1 k).2.2.1 = some (tyX1 k) := by decide +kernel
abbrev cX1_init : ByteArray := prog_3_method_1_code
def yX1_init : MethodName := ⟨RX1, "<init>", "()V"⟩
abbrev cX1_draw : ByteArray := prog_3_method_2_code
def yX1_draw : MethodName := ⟨RX1, "draw", "(LOverlapMill$Body;LOverlapMill$Web;[II)V"⟩
abbrev cX1_drawTimes : ByteArray := prog_3_method_3_code
def yX1_drawTimes : MethodName := ⟨RX1, "drawTimes", "(LOverlapMill$Web;)V"⟩
abbrev cX1_drawLives : ByteArray := prog_3_method_4_code
def yX1_drawLives : MethodName := ⟨RX1, "drawLives", "(LOverlapMill$Body;)V"⟩
abbrev cX1_drawNames : ByteArray := prog_3_method_5_code
def yX1_drawNames : MethodName := ⟨RX1, "drawNames", "(LOverlapMill$Body;)V"⟩
abbrev cX1_pairedSum : ByteArray := prog_3_method_6_code
def yX1_pairedSum : MethodName := ⟨RX1, "pairedSum", "()I"⟩
abbrev cX1_stageOf : ByteArray := prog_3_method_7_code
def yX1_stageOf : MethodName := ⟨RX1, "stageOf", "(I)I"⟩
abbrev cX1_aliveIn : ByteArray := prog_3_method_8_code
def yX1_aliveIn : MethodName := ⟨RX1, "aliveIn", "(I)I"⟩
abbrev cX1_fullestSlot : ByteArray := prog_3_method_9_code
def yX1_fullestSlot : MethodName := ⟨RX1, "fullestSlot", "()I"⟩
abbrev cX1_looseOf : ByteArray := prog_3_method_10_code
def yX1_looseOf : MethodName := ⟨RX1, "looseOf", "(LOverlapMill$Web;I)I"⟩
abbrev cX1_asksIn : ByteArray := prog_3_method_11_code
def yX1_asksIn : MethodName := ⟨RX1, "asksIn", "(LOverlapMill$Body;II)I"⟩
abbrev cX1_askedIn : ByteArray := prog_3_method_12_code
def yX1_askedIn : MethodName := ⟨RX1, "askedIn", "(LOverlapMill$Body;II)I"⟩
abbrev cX1_usersIn : ByteArray := prog_3_method_13_code
def yX1_usersIn : MethodName := ⟨RX1, "usersIn", "(LOverlapMill$Body;II)I"⟩
abbrev cX1_turnBegun : ByteArray := prog_3_method_14_code
def yX1_turnBegun : MethodName := ⟨RX1, "turnBegun", "(III)I"⟩
abbrev cX1_cyclesOf : ByteArray := prog_3_method_15_code
def yX1_cyclesOf : MethodName := ⟨RX1, "cyclesOf", "(I)I"⟩
abbrev cX1_headOf : ByteArray := prog_3_method_16_code
def yX1_headOf : MethodName := ⟨RX1, "headOf", "(I)I"⟩
abbrev cX1_ringOf : ByteArray := prog_3_method_17_code
def yX1_ringOf : MethodName := ⟨RX1, "ringOf", "(I)I"⟩
abbrev cX1_peeledOf : ByteArray := prog_3_method_18_code
def yX1_peeledOf : MethodName := ⟨RX1, "peeledOf", "(I)I"⟩
abbrev cX1_cyclesWithoutBegin : ByteArray := prog_3_method_19_code
def yX1_cyclesWithoutBegin : MethodName := ⟨RX1, "cyclesWithoutBegin", "(I)I"⟩
abbrev cX1_hasBegin : ByteArray := prog_3_method_20_code
def yX1_hasBegin : MethodName := ⟨RX1, "hasBegin", "(II)Z"⟩
abbrev cX1_turnInName : ByteArray := prog_3_method_21_code
def yX1_turnInName : MethodName := ⟨RX1, "turnInName", "(IIII)I"⟩
def RX2 : String := "OverlapMill$Hasty"
def TX2 : u_T := fun k => match k with
  | 0 => ("OverlapMill$Hasty", "step", "I", false)
  | 1 => ("OverlapMill$Hasty", "found", "Z", false)
  | 2 => ("OverlapMill$Hasty", "made", "I", false)
  | 3 => ("OverlapMill$Hasty", "timed", "I", false)
  | 4 => ("OverlapMill$Hasty", "times", "[I", true)
  | 5 => ("OverlapMill$Hasty", "last", "[I", true)
  | 6 => ("OverlapMill$Hasty", "asked", "[I", true)
  | _ => ("OverlapMill$Hasty", "heights", "[I", true)
def tyX2 : Nat → FieldType := fun k => match k with
  | 0 => .int
  | 1 => .boolean
  | 2 => .int
  | 3 => .int
  | 4 => .array .int
  | 5 => .array .int
  | 6 => .array .int
  | _ => .array .int
abbrev wsX20 : List Cond := u_ws RX2 TX2 8
theorem nmX2 : ∀ a, a < 8 → ∀ b, b < 8 → a ≠ b → (TX2 a).2.1 ≠ (TX2 b).2.1 := by decide +kernel
theorem tyX2_ok : ∀ k, k < 8 → parseFieldDescriptor (TX2 k).2.2.1 = some (tyX2 k) := by decide +kernel
abbrev cX2_init : ByteArray := prog_4_method_1_code
def yX2_init : MethodName := ⟨RX2, "<init>", "()V"⟩
abbrev cX2_seek : ByteArray := prog_4_method_2_code
def yX2_seek : MethodName := ⟨RX2, "seek", "(LOverlapMill$Body;LOverlapMill$Web;LOverlapMill$Reach;I)V"⟩
abbrev cX2_highest : ByteArray := prog_4_method_3_code
def yX2_highest : MethodName := ⟨RX2, "highest", "(I)I"⟩
abbrev cX2_move : ByteArray := prog_4_method_4_code
def yX2_move : MethodName := ⟨RX2, "move", "(LOverlapMill$Body;LOverlapMill$Web;I)V"⟩
abbrev cX2_earlyOf : ByteArray := prog_4_method_5_code
def yX2_earlyOf : MethodName := ⟨RX2, "earlyOf", "(LOverlapMill$Web;I)I"⟩
abbrev cX2_tally : ByteArray := prog_4_method_6_code
def yX2_tally : MethodName := ⟨RX2, "tally", "(LOverlapMill$Body;I)V"⟩
abbrev cX2_ask : ByteArray := prog_4_method_7_code
def yX2_ask : MethodName := ⟨RX2, "ask", "(III)V"⟩
abbrev cX2_hasRoom : ByteArray := prog_4_method_8_code
def yX2_hasRoom : MethodName := ⟨RX2, "hasRoom", "(LOverlapMill$Body;II)Z"⟩
abbrev cX2_isCrowded : ByteArray := prog_4_method_9_code
def yX2_isCrowded : MethodName := ⟨RX2, "isCrowded", "(III)Z"⟩
abbrev cX2_sendSharers : ByteArray := prog_4_method_10_code
def yX2_sendSharers : MethodName := ⟨RX2, "sendSharers", "(LOverlapMill$Body;I)V"⟩
abbrev cX2_meetsCrowded : ByteArray := prog_4_method_11_code
def yX2_meetsCrowded : MethodName := ⟨RX2, "meetsCrowded", "(LOverlapMill$Body;II)Z"⟩
abbrev cX2_slotsOf : ByteArray := prog_4_method_12_code
def yX2_slotsOf : MethodName := ⟨RX2, "slotsOf", "(LOverlapMill$Body;I)I"⟩
abbrev cX2_sendBroken : ByteArray := prog_4_method_13_code
def yX2_sendBroken : MethodName := ⟨RX2, "sendBroken", "(LOverlapMill$Web;I)V"⟩
def RX3 : String := "OverlapMill$Patience"
def TX3 : u_T := fun k => match k with
  | 0 => ("OverlapMill$Patience", "waits", "[I", true)
  | 1 => ("OverlapMill$Patience", "places", "I", false)
  | _ => ("OverlapMill$Patience", "longer", "I", false)
def tyX3 : Nat → FieldType := fun k => match k with
  | 0 => .array .int
  | 1 => .int
  | _ => .int
abbrev wsX30 : List Cond := u_ws RX3 TX3 3
theorem nmX3 : ∀ a, a < 3 → ∀ b, b < 3 → a ≠ b → (TX3 a).2.1 ≠ (TX3 b).2.1 := by decide +kernel
theorem tyX3_ok : ∀ k, k < 3 → parseFieldDescriptor (TX3 k).2.2.1 = some (tyX3 k) := by decide +kernel
abbrev cX3_init : ByteArray := prog_5_method_1_code
def yX3_init : MethodName := ⟨RX3, "<init>", "()V"⟩
abbrev cX3_waited : ByteArray := prog_5_method_2_code
def yX3_waited : MethodName := ⟨RX3, "waited", "(LOverlapMill$Body;LOverlapMill$Chart;III)I"⟩
abbrev cX3_lastComing : ByteArray := prog_5_method_3_code
def yX3_lastComing : MethodName := ⟨RX3, "lastComing", "(LOverlapMill$Body;LOverlapMill$Chart;II)I"⟩
abbrev cX3_comingOf : ByteArray := prog_5_method_4_code
def yX3_comingOf : MethodName := ⟨RX3, "comingOf", "(LOverlapMill$Body;LOverlapMill$Chart;II)I"⟩
def RX4 : String := "OverlapMill$Play"
def TX4 : u_T := fun k => match k with
  | 0 => ("OverlapMill$Play", "rows", "[[I", true)
  | _ => ("OverlapMill$Play", "came", "[I", true)
def tyX4 : Nat → FieldType := fun k => match k with
  | 0 => .array (.array .int)
  | _ => .array .int
abbrev wsX40 : List Cond := u_ws RX4 TX4 2
theorem nmX4 : ∀ a, a < 2 → ∀ b, b < 2 → a ≠ b → (TX4 a).2.1 ≠ (TX4 b).2.1 := by decide +kernel
theorem tyX4_ok : ∀ k, k < 2 → parseFieldDescriptor (TX4 k).2.2.1 = some (tyX4 k) := by decide +kernel
abbrev cX4_init : ByteArray := prog_6_method_1_code
def yX4_init : MethodName := ⟨RX4, "<init>", "()V"⟩
abbrev cX4_turns : ByteArray := prog_6_method_2_code
def yX4_turns : MethodName := ⟨RX4, "turns", "(LOverlapMill$Body;I)V"⟩
abbrev cX4_act : ByteArray := prog_6_method_3_code
def yX4_act : MethodName := ⟨RX4, "act", "(LOverlapMill$Body;II)I"⟩
abbrev cX4_look : ByteArray := prog_6_method_4_code
def yX4_look : MethodName := ⟨RX4, "look", "(LOverlapMill$Body;III)I"⟩
abbrev cX4_valueOf : ByteArray := prog_6_method_5_code
def yX4_valueOf : MethodName := ⟨RX4, "valueOf", "(LOverlapMill$Body;II)I"⟩
def RX5 : String := "OverlapMill$Reach"
def TX5 : u_T := fun k => match k with
  | 0 => ("OverlapMill$Reach", "size", "I", false)
  | 1 => ("OverlapMill$Reach", "step", "I", false)
  | _ => ("OverlapMill$Reach", "way", "[I", true)
def tyX5 : Nat → FieldType := fun k => match k with
  | 0 => .int
  | 1 => .int
  | _ => .array .int
abbrev wsX50 : List Cond := u_ws RX5 TX5 3
theorem nmX5 : ∀ a, a < 3 → ∀ b, b < 3 → a ≠ b → (TX5 a).2.1 ≠ (TX5 b).2.1 := by decide +kernel
theorem tyX5_ok : ∀ k, k < 3 → parseFieldDescriptor (TX5 k).2.2.1 = some (tyX5 k) := by decide +kernel
abbrev cX5_init : ByteArray := prog_7_method_1_code
def yX5_init : MethodName := ⟨RX5, "<init>", "()V"⟩
abbrev cX5_span : ByteArray := prog_7_method_2_code
def yX5_span : MethodName := ⟨RX5, "span", "(LOverlapMill$Body;LOverlapMill$Web;I)V"⟩
abbrev cX5_goOver : ByteArray := prog_7_method_3_code
def yX5_goOver : MethodName := ⟨RX5, "goOver", "(II)V"⟩
abbrev cX5_above : ByteArray := prog_7_method_4_code
def yX5_above : MethodName := ⟨RX5, "above", "(I)I"⟩
abbrev cX5_soonestOf : ByteArray := prog_7_method_5_code
def yX5_soonestOf : MethodName := ⟨RX5, "soonestOf", "(I)I"⟩
abbrev cX5_latestOf : ByteArray := prog_7_method_6_code
def yX5_latestOf : MethodName := ⟨RX5, "latestOf", "(LOverlapMill$Body;I)I"⟩
def RX6 : String := "OverlapMill$Seeker"
def TX6 : u_T := fun k => match k with
  | 0 => ("OverlapMill$Seeker", "size", "I", false)
  | 1 => ("OverlapMill$Seeker", "step", "I", false)
  | 2 => ("OverlapMill$Seeker", "full", "I", false)
  | 3 => ("OverlapMill$Seeker", "members", "I", false)
  | 4 => ("OverlapMill$Seeker", "placed", "I", false)
  | 5 => ("OverlapMill$Seeker", "slots", "[I", true)
  | 6 => ("OverlapMill$Seeker", "witness", "[I", true)
  | 7 => ("OverlapMill$Seeker", "units", "[I", true)
  | 8 => ("OverlapMill$Seeker", "counts", "[I", true)
  | 9 => ("OverlapMill$Seeker", "sharers", "[I", true)
  | 10 => ("OverlapMill$Seeker", "asks", "[I", true)
  | 11 => ("OverlapMill$Seeker", "planes", "[I", true)
  | 12 => ("OverlapMill$Seeker", "kept", "[I", true)
  | 13 => ("OverlapMill$Seeker", "ties", "[I", true)
  | 14 => ("OverlapMill$Seeker", "keptTies", "[I", true)
  | 15 => ("OverlapMill$Seeker", "into", "[I", true)
  | 16 => ("OverlapMill$Seeker", "outOf", "[I", true)
  | 17 => ("OverlapMill$Seeker", "tied", "[I", true)
  | 18 => ("OverlapMill$Seeker", "twins", "[I", true)
  | _ => ("OverlapMill$Seeker", "weights", "[I", true)
def tyX6 : Nat → FieldType := fun k => match k with
  | 0 => .int
  | 1 => .int
  | 2 => .int
  | 3 => .int
  | 4 => .int
  | 5 => .array .int
  | 6 => .array .int
  | 7 => .array .int
  | 8 => .array .int
  | 9 => .array .int
  | 10 => .array .int
  | 11 => .array .int
  | 12 => .array .int
  | 13 => .array .int
  | 14 => .array .int
  | 15 => .array .int
  | 16 => .array .int
  | 17 => .array .int
  | 18 => .array .int
  | _ => .array .int
abbrev wsX60 : List Cond := u_ws RX6 TX6 20
theorem nmX6 : ∀ a, a < 20 → ∀ b, b < 20 → a ≠ b → (TX6 a).2.1 ≠ (TX6 b).2.1 := by decide +kernel
theorem tyX6_ok : ∀ k, k < 20 → parseFieldDescriptor (TX6 k).2.2.1 = some (tyX6 k) := by decide +kernel
abbrev cX6_init : ByteArray := prog_8_method_1_code
def yX6_init : MethodName := ⟨RX6, "<init>", "()V"⟩
abbrev cX6_holdsByUnits : ByteArray := prog_8_method_2_code
def yX6_holdsByUnits : MethodName := ⟨RX6, "holdsByUnits", "(LOverlapMill$Body;I)Z"⟩
abbrev cX6_findFirst : ByteArray := prog_8_method_3_code
def yX6_findFirst : MethodName := ⟨RX6, "findFirst", "([I)Z"⟩
abbrev cX6_take : ByteArray := prog_8_method_4_code
def yX6_take : MethodName := ⟨RX6, "take", "(LOverlapMill$Body;I)Z"⟩
abbrev cX6_takeBusy : ByteArray := prog_8_method_5_code
def yX6_takeBusy : MethodName := ⟨RX6, "takeBusy", "(II)Z"⟩
abbrev cX6_tieAll : ByteArray := prog_8_method_6_code
def yX6_tieAll : MethodName := ⟨RX6, "tieAll", "([I)V"⟩
abbrev cX6_pairTwins : ByteArray := prog_8_method_7_code
def yX6_pairTwins : MethodName := ⟨RX6, "pairTwins", "()V"⟩
abbrev cX6_areTwins : ByteArray := prog_8_method_8_code
def yX6_areTwins : MethodName := ⟨RX6, "areTwins", "(II)Z"⟩
abbrev cX6_groupOf : ByteArray := prog_8_method_9_code
def yX6_groupOf : MethodName := ⟨RX6, "groupOf", "(I)I"⟩
abbrev cX6_settle : ByteArray := prog_8_method_10_code
def yX6_settle : MethodName := ⟨RX6, "settle", "(I)Z"⟩
abbrev cX6_isHarder : ByteArray := prog_8_method_11_code
def yX6_isHarder : MethodName := ⟨RX6, "isHarder", "(IIII)Z"⟩
abbrev cX6_keepWitness : ByteArray := prog_8_method_12_code
def yX6_keepWitness : MethodName := ⟨RX6, "keepWitness", "()V"⟩
abbrev cX6_openTo : ByteArray := prog_8_method_13_code
def yX6_openTo : MethodName := ⟨RX6, "openTo", "(I)I"⟩
abbrev cX6_windowOf : ByteArray := prog_8_method_14_code
def yX6_windowOf : MethodName := ⟨RX6, "windowOf", "(II)I"⟩
abbrev cX6_turned : ByteArray := prog_8_method_15_code
def yX6_turned : MethodName := ⟨RX6, "turned", "(II)I"⟩
abbrev cX6_place : ByteArray := prog_8_method_16_code
def yX6_place : MethodName := ⟨RX6, "place", "(II)Z"⟩
abbrev cX6_lift : ByteArray := prog_8_method_17_code
def yX6_lift : MethodName := ⟨RX6, "lift", "(I)V"⟩
abbrev cX6_hasManyTies : ByteArray := prog_8_method_18_code
def yX6_hasManyTies : MethodName := ⟨RX6, "hasManyTies", "(I)Z"⟩
abbrev cX6_align : ByteArray := prog_8_method_19_code
def yX6_align : MethodName := ⟨RX6, "align", "(I)Z"⟩
abbrev cX6_tighten : ByteArray := prog_8_method_20_code
def yX6_tighten : MethodName := ⟨RX6, "tighten", "(I)V"⟩
def RX7 : String := "OverlapMill$Web"
def TX7 : u_T := fun k => match k with
  | 0 => ("OverlapMill$Web", "size", "I", false)
  | 1 => ("OverlapMill$Web", "from", "[I", true)
  | 2 => ("OverlapMill$Web", "to", "[I", true)
  | 3 => ("OverlapMill$Web", "distance", "[I", true)
  | 4 => ("OverlapMill$Web", "delay", "[I", true)
  | 5 => ("OverlapMill$Web", "upper", "I", false)
  | 6 => ("OverlapMill$Web", "lower", "I", false)
  | _ => ("OverlapMill$Web", "critical", "I", false)
def tyX7 : Nat → FieldType := fun k => match k with
  | 0 => .int
  | 1 => .array .int
  | 2 => .array .int
  | 3 => .array .int
  | 4 => .array .int
  | 5 => .int
  | 6 => .int
  | _ => .int
abbrev wsX70 : List Cond := u_ws RX7 TX7 8
theorem nmX7 : ∀ a, a < 8 → ∀ b, b < 8 → a ≠ b → (TX7 a).2.1 ≠ (TX7 b).2.1 := by decide +kernel
theorem tyX7_ok : ∀ k, k < 8 → parseFieldDescriptor (TX7 k).2.2.1 = some (tyX7 k) := by decide +kernel
abbrev cX7_init : ByteArray := prog_9_method_1_code
def yX7_init : MethodName := ⟨RX7, "<init>", "()V"⟩
abbrev cX7_rounds : ByteArray := prog_9_method_2_code
def yX7_rounds : MethodName := ⟨RX7, "rounds", "()I"⟩
abbrev cX7_weave : ByteArray := prog_9_method_3_code
def yX7_weave : MethodName := ⟨RX7, "weave", "(LOverlapMill$Body;I)V"⟩
abbrev cX7_latencyBut : ByteArray := prog_9_method_4_code
def yX7_latencyBut : MethodName := ⟨RX7, "latencyBut", "(LOverlapMill$Body;II)I"⟩
abbrev cX7_weaveRows : ByteArray := prog_9_method_5_code
def yX7_weaveRows : MethodName := ⟨RX7, "weaveRows", "(LOverlapMill$Body;III)V"⟩
abbrev cX7_insert : ByteArray := prog_9_method_6_code
def yX7_insert : MethodName := ⟨RX7, "insert", "(IIII)V"⟩
abbrev cX7_compareAt : ByteArray := prog_9_method_7_code
def yX7_compareAt : MethodName := ⟨RX7, "compareAt", "(IIIII)I"⟩
abbrev cX7_set : ByteArray := prog_9_method_8_code
def yX7_set : MethodName := ⟨RX7, "set", "(IIIII)V"⟩
abbrev cX7_takeAllBut : ByteArray := prog_9_method_9_code
def yX7_takeAllBut : MethodName := ⟨RX7, "takeAllBut", "(LOverlapMill$Web;I)V"⟩
abbrev cX7_weigh : ByteArray := prog_9_method_10_code
def yX7_weigh : MethodName := ⟨RX7, "weigh", "(I)V"⟩
abbrev cX7_goOn : ByteArray := prog_9_method_11_code
def yX7_goOn : MethodName := ⟨RX7, "goOn", "(IIIII)V"⟩
abbrev cX7_weighRing : ByteArray := prog_9_method_12_code
def yX7_weighRing : MethodName := ⟨RX7, "weighRing", "(III)V"⟩
abbrev cX7_commonDivisor : ByteArray := prog_9_method_13_code
def yX7_commonDivisor : MethodName := ⟨RX7, "commonDivisor", "(II)I"⟩
def RX8 : String := "OverlapMill$Wheel"
def TX8 : u_T := fun k => match k with
  | _ => ("OverlapMill$Wheel", "places", "[I", true)
def tyX8 : Nat → FieldType := fun k => match k with
  | _ => .array .int
abbrev wsX80 : List Cond := u_ws RX8 TX8 1
theorem nmX8 : ∀ a, a < 1 → ∀ b, b < 1 → a ≠ b → (TX8 a).2.1 ≠ (TX8 b).2.1 := by decide +kernel
theorem tyX8_ok : ∀ k, k < 1 → parseFieldDescriptor (TX8 k).2.2.1 = some (tyX8 k) := by decide +kernel
abbrev cX8_init : ByteArray := prog_10_method_1_code
def yX8_init : MethodName := ⟨RX8, "<init>", "()V"⟩
abbrev cX8_settleAll : ByteArray := prog_10_method_2_code
def yX8_settleAll : MethodName := ⟨RX8, "settleAll", "(LOverlapMill$Chart;I)Z"⟩
abbrev cX8_leastPlace : ByteArray := prog_10_method_3_code
def yX8_leastPlace : MethodName := ⟨RX8, "leastPlace", "(LOverlapMill$Chart;II)I"⟩
abbrev cX8_shutBy : ByteArray := prog_10_method_4_code
def yX8_shutBy : MethodName := ⟨RX8, "shutBy", "(LOverlapMill$Chart;III)J"⟩
def RX9 : String := "OverlapMill"
def TX9 : u_T := fun k => match k with
  | 0 => ("OverlapMill", "body", "LOverlapMill$Body;", true)
  | 1 => ("OverlapMill", "web", "LOverlapMill$Web;", true)
  | 2 => ("OverlapMill", "spare", "LOverlapMill$Web;", true)
  | 3 => ("OverlapMill", "reach", "LOverlapMill$Reach;", true)
  | 4 => ("OverlapMill", "seeker", "LOverlapMill$Seeker;", true)
  | 5 => ("OverlapMill", "charts", "[LOverlapMill$Chart;", true)
  | 6 => ("OverlapMill", "hasty", "LOverlapMill$Hasty;", true)
  | 7 => ("OverlapMill", "play", "LOverlapMill$Play;", true)
  | 8 => ("OverlapMill", "wheel", "LOverlapMill$Wheel;", true)
  | 9 => ("OverlapMill", "patience", "LOverlapMill$Patience;", true)
  | 10 => ("OverlapMill", "sound", "Z", false)
  | _ => ("OverlapMill", "stale", "Z", false)
def tyX9 : Nat → FieldType := fun k => match k with
  | 0 => .object "OverlapMill$Body"
  | 1 => .object "OverlapMill$Web"
  | 2 => .object "OverlapMill$Web"
  | 3 => .object "OverlapMill$Reach"
  | 4 => .object "OverlapMill$Seeker"
  | 5 => .array (.object "OverlapMill$Chart")
  | 6 => .object "OverlapMill$Hasty"
  | 7 => .object "OverlapMill$Play"
  | 8 => .object "OverlapMill$Wheel"
  | 9 => .object "OverlapMill$Patience"
  | 10 => .boolean
  | _ => .boolean
abbrev wsX90 : List Cond := u_ws RX9 TX9 12
theorem nmX9 : ∀ a, a < 12 → ∀ b, b < 12 → a ≠ b → (TX9 a).2.1 ≠ (TX9 b).2.1 := by decide +kernel
theorem tyX9_ok : ∀ k, k < 12 → parseFieldDescriptor (TX9 k).2.2.1 = some (tyX9 k) := by decide +kernel
abbrev cX9_init : ByteArray := prog_1_method_1_code
def yX9_init : MethodName := ⟨RX9, "<init>", "()V"⟩
abbrev cX9_reckon : ByteArray := prog_1_method_2_code
def yX9_reckon : MethodName := ⟨RX9, "reckon", "(IIIII)I"⟩
abbrev cX9_load : ByteArray := prog_1_method_3_code
def yX9_load : MethodName := ⟨RX9, "load", "(II)I"⟩
abbrev cX9_store : ByteArray := prog_1_method_4_code
def yX9_store : MethodName := ⟨RX9, "store", "(IIII)I"⟩
abbrev cX9_drop : ByteArray := prog_1_method_5_code
def yX9_drop : MethodName := ⟨RX9, "drop", "()I"⟩
abbrev cX9_first : ByteArray := prog_1_method_6_code
def yX9_first : MethodName := ⟨RX9, "first", "(II)I"⟩
abbrev cX9_kind : ByteArray := prog_1_method_7_code
def yX9_kind : MethodName := ⟨RX9, "kind", "(IIII)V"⟩
abbrev cX9_unit : ByteArray := prog_1_method_8_code
def yX9_unit : MethodName := ⟨RX9, "unit", "(II)I"⟩
abbrev cX9_op : ByteArray := prog_1_method_9_code
def yX9_op : MethodName := ⟨RX9, "op", "(II)I"⟩
abbrev cX9_isSound : ByteArray := prog_1_method_10_code
def yX9_isSound : MethodName := ⟨RX9, "isSound", "()Z"⟩
abbrev cX9_need : ByteArray := prog_1_method_11_code
def yX9_need : MethodName := ⟨RX9, "need", "(II)I"⟩
abbrev cX9_far : ByteArray := prog_1_method_12_code
def yX9_far : MethodName := ⟨RX9, "far", "(III)I"⟩
abbrev cX9_height : ByteArray := prog_1_method_13_code
def yX9_height : MethodName := ⟨RX9, "height", "(II)I"⟩
abbrev cX9_uses : ByteArray := prog_1_method_14_code
def yX9_uses : MethodName := ⟨RX9, "uses", "(I)I"⟩
abbrev cX9_fits : ByteArray := prog_1_method_15_code
def yX9_fits : MethodName := ⟨RX9, "fits", "(I)Z"⟩
abbrev cX9_least : ByteArray := prog_1_method_16_code
def yX9_least : MethodName := ⟨RX9, "least", "()I"⟩
abbrev cX9_time : ByteArray := prog_1_method_17_code
def yX9_time : MethodName := ⟨RX9, "time", "(II)I"⟩
abbrev cX9_ring : ByteArray := prog_1_method_18_code
def yX9_ring : MethodName := ⟨RX9, "ring", "(III)I"⟩
abbrev cX9_quick : ByteArray := prog_1_method_19_code
def yX9_quick : MethodName := ⟨RX9, "quick", "(II)I"⟩
abbrev cX9_moves : ByteArray := prog_1_method_20_code
def yX9_moves : MethodName := ⟨RX9, "moves", "(I)I"⟩
abbrev cX9_quickest : ByteArray := prog_1_method_21_code
def yX9_quickest : MethodName := ⟨RX9, "quickest", "()I"⟩
abbrev cX9_plan : ByteArray := prog_1_method_22_code
def yX9_plan : MethodName := ⟨RX9, "plan", "(II)I"⟩
abbrev cX9_life : ByteArray := prog_1_method_23_code
def yX9_life : MethodName := ⟨RX9, "life", "(III)I"⟩
abbrev cX9_alive : ByteArray := prog_1_method_24_code
def yX9_alive : MethodName := ⟨RX9, "alive", "(II)I"⟩
abbrev cX9_flat : ByteArray := prog_1_method_25_code
def yX9_flat : MethodName := ⟨RX9, "flat", "(IIII)I"⟩
abbrev cX9_cycles : ByteArray := prog_1_method_26_code
def yX9_cycles : MethodName := ⟨RX9, "cycles", "(III)I"⟩
abbrev cX9_run : ByteArray := prog_1_method_27_code
def yX9_run : MethodName := ⟨RX9, "run", "(IIII)I"⟩
abbrev cX9_comes : ByteArray := prog_1_method_28_code
def yX9_comes : MethodName := ⟨RX9, "comes", "(III)I"⟩
abbrev cX9_plain : ByteArray := prog_1_method_29_code
def yX9_plain : MethodName := ⟨RX9, "plain", "(III)I"⟩
abbrev cX9_gate : ByteArray := prog_1_method_30_code
def yX9_gate : MethodName := ⟨RX9, "gate", "(IIII)Z"⟩
abbrev cX9_code : ByteArray := prog_1_method_31_code
def yX9_code : MethodName := ⟨RX9, "code", "(IZ)I"⟩
abbrev cX9_peel : ByteArray := prog_1_method_32_code
def yX9_peel : MethodName := ⟨RX9, "peel", "(IIZ)I"⟩
abbrev cX9_turning : ByteArray := prog_1_method_33_code
def yX9_turning : MethodName := ⟨RX9, "turning", "(I)I"⟩
abbrev cX9_rotary : ByteArray := prog_1_method_34_code
def yX9_rotary : MethodName := ⟨RX9, "rotary", "(III)I"⟩
abbrev cX9_name : ByteArray := prog_1_method_35_code
def yX9_name : MethodName := ⟨RX9, "name", "(IIIII)I"⟩
abbrev cX9_rate : ByteArray := prog_1_method_36_code
def yX9_rate : MethodName := ⟨RX9, "rate", "(Z)I"⟩
abbrev cX9_critical : ByteArray := prog_1_method_37_code
def yX9_critical : MethodName := ⟨RX9, "critical", "()I"⟩
abbrev cX9_fold : ByteArray := prog_1_method_38_code
def yX9_fold : MethodName := ⟨RX9, "fold", "(I)I"⟩
abbrev cX9_bestFold : ByteArray := prog_1_method_39_code
def yX9_bestFold : MethodName := ⟨RX9, "bestFold", "()I"⟩
abbrev cX9_faster : ByteArray := prog_1_method_40_code
def yX9_faster : MethodName := ⟨RX9, "faster", "(I)I"⟩
abbrev cX9_without : ByteArray := prog_1_method_41_code
def yX9_without : MethodName := ⟨RX9, "without", "(I)I"⟩
abbrev cX9_idle : ByteArray := prog_1_method_42_code
def yX9_idle : MethodName := ⟨RX9, "idle", "(II)I"⟩
abbrev cX9_bare : ByteArray := prog_1_method_43_code
def yX9_bare : MethodName := ⟨RX9, "bare", "(IIZ)I"⟩
abbrev cX9_who : ByteArray := prog_1_method_44_code
def yX9_who : MethodName := ⟨RX9, "who", "(III)I"⟩
abbrev cX9_holes : ByteArray := prog_1_method_45_code
def yX9_holes : MethodName := ⟨RX9, "holes", "(II)I"⟩
abbrev cX9_late : ByteArray := prog_1_method_46_code
def yX9_late : MethodName := ⟨RX9, "late", "(IIII)I"⟩
abbrev cX9_pays : ByteArray := prog_1_method_47_code
def yX9_pays : MethodName := ⟨RX9, "pays", "(I)I"⟩
abbrev cX9_more : ByteArray := prog_1_method_48_code
def yX9_more : MethodName := ⟨RX9, "more", "(I)I"⟩
abbrev cX9_squeeze : ByteArray := prog_1_method_49_code
def yX9_squeeze : MethodName := ⟨RX9, "squeeze", "(I)I"⟩
abbrev cX9_count : ByteArray := prog_1_method_50_code
def yX9_count : MethodName := ⟨RX9, "count", "(I)I"⟩
abbrev cX9_append : ByteArray := prog_1_method_51_code
def yX9_append : MethodName := ⟨RX9, "append", "(IIIII)I"⟩
abbrev cX9_foldBound : ByteArray := prog_1_method_52_code
def yX9_foldBound : MethodName := ⟨RX9, "foldBound", "(I)I"⟩
abbrev cX9_refresh : ByteArray := prog_1_method_53_code
def yX9_refresh : MethodName := ⟨RX9, "refresh", "()V"⟩
abbrev cX9_chartOf : ByteArray := prog_1_method_54_code
def yX9_chartOf : MethodName := ⟨RX9, "chartOf", "(I)LOverlapMill$Chart;"⟩
abbrev cX9_fittingChart : ByteArray := prog_1_method_55_code
def yX9_fittingChart : MethodName := ⟨RX9, "fittingChart", "(I)LOverlapMill$Chart;"⟩
abbrev cX9_requireSound : ByteArray := prog_1_method_56_code
def yX9_requireSound : MethodName := ⟨RX9, "requireSound", "()V"⟩
abbrev cX9_requireRounds : ByteArray := prog_1_method_57_code
def yX9_requireRounds : MethodName := ⟨RX9, "requireRounds", "(I)V"⟩
abbrev cX9_requireOp : ByteArray := prog_1_method_58_code
def yX9_requireOp : MethodName := ⟨RX9, "requireOp", "(I)V"⟩
abbrev cX9_requireUnit : ByteArray := prog_1_method_59_code
def yX9_requireUnit : MethodName := ⟨RX9, "requireUnit", "(I)V"⟩
abbrev cX9_requireKind : ByteArray := prog_1_method_60_code
def yX9_requireKind : MethodName := ⟨RX9, "requireKind", "(I)V"⟩
abbrev cX9_requireNeed : ByteArray := prog_1_method_61_code
def yX9_requireNeed : MethodName := ⟨RX9, "requireNeed", "(I)V"⟩
abbrev cX9_requireNoStore : ByteArray := prog_1_method_62_code
def yX9_requireNoStore : MethodName := ⟨RX9, "requireNoStore", "(I)V"⟩
abbrev cX9_requireWhat : ByteArray := prog_1_method_63_code
def yX9_requireWhat : MethodName := ⟨RX9, "requireWhat", "(II)V"⟩
abbrev cX9_requireStep : ByteArray := prog_1_method_64_code
def yX9_requireStep : MethodName := ⟨RX9, "requireStep", "(I)V"⟩
abbrev cX9_requireSlot : ByteArray := prog_1_method_65_code
def yX9_requireSlot : MethodName := ⟨RX9, "requireSlot", "(II)V"⟩
abbrev cX9_requireTurns : ByteArray := prog_1_method_66_code
def yX9_requireTurns : MethodName := ⟨RX9, "requireTurns", "(I)V"⟩
abbrev cX9_requireCell : ByteArray := prog_1_method_67_code
def yX9_requireCell : MethodName := ⟨RX9, "requireCell", "(II)V"⟩
abbrev cX9_isSource : ByteArray := prog_1_method_68_code
def yX9_isSource : MethodName := ⟨RX9, "isSource", "(II)Z"⟩
abbrev cX9_isRowPlace : ByteArray := prog_1_method_69_code
def yX9_isRowPlace : MethodName := ⟨RX9, "isRowPlace", "(II)Z"⟩
abbrev cX9_roundUp : ByteArray := prog_1_method_70_code
def yX9_roundUp : MethodName := ⟨RX9, "roundUp", "(II)I"⟩
def RX10 : String := "OverlapMillModel"
def TX10 : u_T := fun k => match k with
  | 0 => ("OverlapMillModel", "thrown", "I", false)
  | 1 => ("OverlapMillModel", "ops", "I", false)
  | 2 => ("OverlapMillModel", "kindOf", "[I", true)
  | 3 => ("OverlapMillModel", "one", "[I", true)
  | 4 => ("OverlapMillModel", "oneBy", "[I", true)
  | 5 => ("OverlapMillModel", "two", "[I", true)
  | 6 => ("OverlapMillModel", "twoBy", "[I", true)
  | 7 => ("OverlapMillModel", "first", "[I", true)
  | 8 => ("OverlapMillModel", "unitOf", "[I", true)
  | 9 => ("OverlapMillModel", "latencyOf", "[I", true)
  | 10 => ("OverlapMillModel", "busyOf", "[I", true)
  | 11 => ("OverlapMillModel", "countOf", "[I", true)
  | 12 => ("OverlapMillModel", "needs", "I", false)
  | 13 => ("OverlapMillModel", "from", "[I", true)
  | 14 => ("OverlapMillModel", "to", "[I", true)
  | 15 => ("OverlapMillModel", "apart", "[I", true)
  | 16 => ("OverlapMillModel", "delay", "[I", true)
  | 17 => ("OverlapMillModel", "way", "[I", true)
  | 18 => ("OverlapMillModel", "leftOut", "I", false)
  | 19 => ("OverlapMillModel", "used", "[I", true)
  | 20 => ("OverlapMillModel", "slot", "[I", true)
  | 21 => ("OverlapMillModel", "time", "[I", true)
  | 22 => ("OverlapMillModel", "turnWay", "[I", true)
  | 23 => ("OverlapMillModel", "quickTime", "[I", true)
  | 24 => ("OverlapMillModel", "lastTime", "[I", true)
  | 25 => ("OverlapMillModel", "moved", "I", false)
  | 26 => ("OverlapMillModel", "cell", "[I", true)
  | 27 => ("OverlapMillModel", "name", "[I", true)
  | 28 => ("OverlapMillModel", "made", "[I", true)
  | 29 => ("OverlapMillModel", "paired", "[I", true)
  | 30 => ("OverlapMillModel", "spot", "[I", true)
  | 31 => ("OverlapMillModel", "rateUp", "I", false)
  | 32 => ("OverlapMillModel", "rateLow", "I", false)
  | 33 => ("OverlapMillModel", "critical", "I", false)
  | 34 => ("OverlapMillModel", "edge", "[I", true)
  | 35 => ("OverlapMillModel", "soonest", "[I", true)
  | _ => ("OverlapMillModel", "latest", "[I", true)
def tyX10 : Nat → FieldType := fun k => match k with
  | 0 => .int
  | 1 => .int
  | 2 => .array .int
  | 3 => .array .int
  | 4 => .array .int
  | 5 => .array .int
  | 6 => .array .int
  | 7 => .array .int
  | 8 => .array .int
  | 9 => .array .int
  | 10 => .array .int
  | 11 => .array .int
  | 12 => .int
  | 13 => .array .int
  | 14 => .array .int
  | 15 => .array .int
  | 16 => .array .int
  | 17 => .array .int
  | 18 => .int
  | 19 => .array .int
  | 20 => .array .int
  | 21 => .array .int
  | 22 => .array .int
  | 23 => .array .int
  | 24 => .array .int
  | 25 => .int
  | 26 => .array .int
  | 27 => .array .int
  | 28 => .array .int
  | 29 => .array .int
  | 30 => .array .int
  | 31 => .int
  | 32 => .int
  | 33 => .int
  | 34 => .array .int
  | 35 => .array .int
  | _ => .array .int
abbrev wsX100 : List Cond := u_ws RX10 TX10 37
theorem nmX10 : ∀ a, a < 37 → ∀ b, b < 37 → a ≠ b → (TX10 a).2.1 ≠ (TX10 b).2.1 := by decide +kernel
theorem tyX10_ok : ∀ k, k < 37 → parseFieldDescriptor (TX10 k).2.2.1 = some (tyX10 k) := by decide +kernel
abbrev cX10_init : ByteArray := prog_12_method_1_code
def yX10_init : MethodName := ⟨RX10, "<init>", "()V"⟩
abbrev cX10_thrown : ByteArray := prog_12_method_2_code
def yX10_thrown : MethodName := ⟨RX10, "thrown", "()I"⟩
abbrev cX10_isIn : ByteArray := prog_12_method_3_code
def yX10_isIn : MethodName := ⟨RX10, "isIn", "(III)Z"⟩
abbrev cX10_greater : ByteArray := prog_12_method_4_code
def yX10_greater : MethodName := ⟨RX10, "greater", "(II)I"⟩
abbrev cX10_lesser : ByteArray := prog_12_method_5_code
def yX10_lesser : MethodName := ⟨RX10, "lesser", "(II)I"⟩
abbrev cX10_up : ByteArray := prog_12_method_6_code
def yX10_up : MethodName := ⟨RX10, "up", "(II)I"⟩
abbrev cX10_rest : ByteArray := prog_12_method_7_code
def yX10_rest : MethodName := ⟨RX10, "rest", "(II)I"⟩
abbrev cX10_bits : ByteArray := prog_12_method_8_code
def yX10_bits : MethodName := ⟨RX10, "bits", "(I)I"⟩
abbrev cX10_isSource : ByteArray := prog_12_method_9_code
def yX10_isSource : MethodName := ⟨RX10, "isSource", "(II)Z"⟩
abbrev cX10_isRow : ByteArray := prog_12_method_10_code
def yX10_isRow : MethodName := ⟨RX10, "isRow", "(II)Z"⟩
abbrev cX10_adds : ByteArray := prog_12_method_11_code
def yX10_adds : MethodName := ⟨RX10, "adds", "(IIIII)I"⟩
abbrev cX10_reckon : ByteArray := prog_12_method_12_code
def yX10_reckon : MethodName := ⟨RX10, "reckon", "(IIIII)I"⟩
abbrev cX10_load : ByteArray := prog_12_method_13_code
def yX10_load : MethodName := ⟨RX10, "load", "(II)I"⟩
abbrev cX10_store : ByteArray := prog_12_method_14_code
def yX10_store : MethodName := ⟨RX10, "store", "(IIII)I"⟩
abbrev cX10_drop : ByteArray := prog_12_method_15_code
def yX10_drop : MethodName := ⟨RX10, "drop", "()I"⟩
abbrev cX10_isOp : ByteArray := prog_12_method_16_code
def yX10_isOp : MethodName := ⟨RX10, "isOp", "(I)Z"⟩
abbrev cX10_first : ByteArray := prog_12_method_17_code
def yX10_first : MethodName := ⟨RX10, "first", "(II)I"⟩
abbrev cX10_kind : ByteArray := prog_12_method_18_code
def yX10_kind : MethodName := ⟨RX10, "kind", "(IIII)I"⟩
abbrev cX10_unit : ByteArray := prog_12_method_19_code
def yX10_unit : MethodName := ⟨RX10, "unit", "(II)I"⟩
abbrev cX10_op : ByteArray := prog_12_method_20_code
def yX10_op : MethodName := ⟨RX10, "op", "(II)I"⟩
abbrev cX10_unitAt : ByteArray := prog_12_method_21_code
def yX10_unitAt : MethodName := ⟨RX10, "unitAt", "(I)I"⟩
abbrev cX10_latencyAt : ByteArray := prog_12_method_22_code
def yX10_latencyAt : MethodName := ⟨RX10, "latencyAt", "(I)I"⟩
abbrev cX10_busyAt : ByteArray := prog_12_method_23_code
def yX10_busyAt : MethodName := ⟨RX10, "busyAt", "(I)I"⟩
abbrev cX10_sources : ByteArray := prog_12_method_24_code
def yX10_sources : MethodName := ⟨RX10, "sources", "(I)I"⟩
abbrev cX10_source : ByteArray := prog_12_method_25_code
def yX10_source : MethodName := ⟨RX10, "source", "(II)I"⟩
abbrev cX10_sourceBy : ByteArray := prog_12_method_26_code
def yX10_sourceBy : MethodName := ⟨RX10, "sourceBy", "(II)I"⟩
abbrev cX10_rowOf : ByteArray := prog_12_method_27_code
def yX10_rowOf : MethodName := ⟨RX10, "rowOf", "(I)I"⟩
abbrev cX10_placeOf : ByteArray := prog_12_method_28_code
def yX10_placeOf : MethodName := ⟨RX10, "placeOf", "(I)I"⟩
abbrev cX10_sound : ByteArray := prog_12_method_29_code
def yX10_sound : MethodName := ⟨RX10, "sound", "()Z"⟩
abbrev cX10_isSound : ByteArray := prog_12_method_30_code
def yX10_isSound : MethodName := ⟨RX10, "isSound", "()Z"⟩
abbrev cX10_isBehind : ByteArray := prog_12_method_31_code
def yX10_isBehind : MethodName := ⟨RX10, "isBehind", "(IIIII)Z"⟩
abbrev cX10_comesNeed : ByteArray := prog_12_method_32_code
def yX10_comesNeed : MethodName := ⟨RX10, "comesNeed", "(IIII)V"⟩
abbrev cX10_isOfRow : ByteArray := prog_12_method_33_code
def yX10_isOfRow : MethodName := ⟨RX10, "isOfRow", "(I)Z"⟩
abbrev cX10_laysNeeds : ByteArray := prog_12_method_34_code
def yX10_laysNeeds : MethodName := ⟨RX10, "laysNeeds", "()V"⟩
abbrev cX10_need : ByteArray := prog_12_method_35_code
def yX10_need : MethodName := ⟨RX10, "need", "(II)I"⟩
abbrev cX10_laysWays : ByteArray := prog_12_method_36_code
def yX10_laysWays : MethodName := ⟨RX10, "laysWays", "(I)V"⟩
abbrev cX10_isRound : ByteArray := prog_12_method_37_code
def yX10_isRound : MethodName := ⟨RX10, "isRound", "()Z"⟩
abbrev cX10_rounds : ByteArray := prog_12_method_38_code
def yX10_rounds : MethodName := ⟨RX10, "rounds", "()I"⟩
abbrev cX10_usesOf : ByteArray := prog_12_method_39_code
def yX10_usesOf : MethodName := ⟨RX10, "usesOf", "(I)I"⟩
abbrev cX10_byUnits : ByteArray := prog_12_method_40_code
def yX10_byUnits : MethodName := ⟨RX10, "byUnits", "()I"⟩
abbrev cX10_bound : ByteArray := prog_12_method_41_code
def yX10_bound : MethodName := ⟨RX10, "bound", "()I"⟩
abbrev cX10_isStep : ByteArray := prog_12_method_42_code
def yX10_isStep : MethodName := ⟨RX10, "isStep", "(I)Z"⟩
abbrev cX10_isLess : ByteArray := prog_12_method_43_code
def yX10_isLess : MethodName := ⟨RX10, "isLess", "(I)Z"⟩
abbrev cX10_far : ByteArray := prog_12_method_44_code
def yX10_far : MethodName := ⟨RX10, "far", "(III)I"⟩
abbrev cX10_heightOf : ByteArray := prog_12_method_45_code
def yX10_heightOf : MethodName := ⟨RX10, "heightOf", "(I)I"⟩
abbrev cX10_height : ByteArray := prog_12_method_46_code
def yX10_height : MethodName := ⟨RX10, "height", "(II)I"⟩
abbrev cX10_uses : ByteArray := prog_12_method_47_code
def yX10_uses : MethodName := ⟨RX10, "uses", "(I)I"⟩
abbrev cX10_puts : ByteArray := prog_12_method_48_code
def yX10_puts : MethodName := ⟨RX10, "puts", "(IIII)V"⟩
abbrev cX10_isTooMuch : ByteArray := prog_12_method_49_code
def yX10_isTooMuch : MethodName := ⟨RX10, "isTooMuch", "(II)Z"⟩
abbrev cX10_empties : ByteArray := prog_12_method_50_code
def yX10_empties : MethodName := ⟨RX10, "empties", "()V"⟩
abbrev cX10_canBe : ByteArray := prog_12_method_51_code
def yX10_canBe : MethodName := ⟨RX10, "canBe", "(II)Z"⟩
abbrev cX10_findsSlots : ByteArray := prog_12_method_52_code
def yX10_findsSlots : MethodName := ⟨RX10, "findsSlots", "(I)Z"⟩
abbrev cX10_laysTimes : ByteArray := prog_12_method_53_code
def yX10_laysTimes : MethodName := ⟨RX10, "laysTimes", "(I)V"⟩
abbrev cX10_fitsBy : ByteArray := prog_12_method_54_code
def yX10_fitsBy : MethodName := ⟨RX10, "fitsBy", "(I)Z"⟩
abbrev cX10_fits : ByteArray := prog_12_method_55_code
def yX10_fits : MethodName := ⟨RX10, "fits", "(I)Z"⟩
abbrev cX10_least : ByteArray := prog_12_method_56_code
def yX10_least : MethodName := ⟨RX10, "least", "()I"⟩
abbrev cX10_time : ByteArray := prog_12_method_57_code
def yX10_time : MethodName := ⟨RX10, "time", "(II)I"⟩
abbrev cX10_ring : ByteArray := prog_12_method_58_code
def yX10_ring : MethodName := ⟨RX10, "ring", "(III)I"⟩
abbrev cX10_standsAlone : ByteArray := prog_12_method_59_code
def yX10_standsAlone : MethodName := ⟨RX10, "standsAlone", "(II)Z"⟩
abbrev cX10_highest : ByteArray := prog_12_method_60_code
def yX10_highest : MethodName := ⟨RX10, "highest", "()I"⟩
abbrev cX10_early : ByteArray := prog_12_method_61_code
def yX10_early : MethodName := ⟨RX10, "early", "(II)I"⟩
abbrev cX10_hasRoom : ByteArray := prog_12_method_62_code
def yX10_hasRoom : MethodName := ⟨RX10, "hasRoom", "(III)Z"⟩
abbrev cX10_goes : ByteArray := prog_12_method_63_code
def yX10_goes : MethodName := ⟨RX10, "goes", "(II)V"⟩
abbrev cX10_usesSlot : ByteArray := prog_12_method_64_code
def yX10_usesSlot : MethodName := ⟨RX10, "usesSlot", "(III)Z"⟩
abbrev cX10_collide : ByteArray := prog_12_method_65_code
def yX10_collide : MethodName := ⟨RX10, "collide", "(III)Z"⟩
abbrev cX10_isKept : ByteArray := prog_12_method_66_code
def yX10_isKept : MethodName := ⟨RX10, "isKept", "(II)Z"⟩
abbrev cX10_comesQuick : ByteArray := prog_12_method_67_code
def yX10_comesQuick : MethodName := ⟨RX10, "comesQuick", "(II)V"⟩
abbrev cX10_goesQuick : ByteArray := prog_12_method_68_code
def yX10_goesQuick : MethodName := ⟨RX10, "goesQuick", "(I)Z"⟩
abbrev cX10_isQuick : ByteArray := prog_12_method_69_code
def yX10_isQuick : MethodName := ⟨RX10, "isQuick", "(I)Z"⟩
abbrev cX10_quick : ByteArray := prog_12_method_70_code
def yX10_quick : MethodName := ⟨RX10, "quick", "(II)I"⟩
abbrev cX10_moves : ByteArray := prog_12_method_71_code
def yX10_moves : MethodName := ⟨RX10, "moves", "(I)I"⟩
abbrev cX10_quickest : ByteArray := prog_12_method_72_code
def yX10_quickest : MethodName := ⟨RX10, "quickest", "()I"⟩
abbrev cX10_span : ByteArray := prog_12_method_73_code
def yX10_span : MethodName := ⟨RX10, "span", "()I"⟩
abbrev cX10_stages : ByteArray := prog_12_method_74_code
def yX10_stages : MethodName := ⟨RX10, "stages", "(I)I"⟩
abbrev cX10_begins : ByteArray := prog_12_method_75_code
def yX10_begins : MethodName := ⟨RX10, "begins", "(I)I"⟩
abbrev cX10_lifeOf : ByteArray := prog_12_method_76_code
def yX10_lifeOf : MethodName := ⟨RX10, "lifeOf", "(II)I"⟩
abbrev cX10_copiesOf : ByteArray := prog_12_method_77_code
def yX10_copiesOf : MethodName := ⟨RX10, "copiesOf", "(II)I"⟩
abbrev cX10_aliveAt : ByteArray := prog_12_method_78_code
def yX10_aliveAt : MethodName := ⟨RX10, "aliveAt", "(II)I"⟩
abbrev cX10_names : ByteArray := prog_12_method_79_code
def yX10_names : MethodName := ⟨RX10, "names", "(I)I"⟩
abbrev cX10_unroll : ByteArray := prog_12_method_80_code
def yX10_unroll : MethodName := ⟨RX10, "unroll", "(I)I"⟩
abbrev cX10_pairedOf : ByteArray := prog_12_method_81_code
def yX10_pairedOf : MethodName := ⟨RX10, "pairedOf", "(II)I"⟩
abbrev cX10_looseOf : ByteArray := prog_12_method_82_code
def yX10_looseOf : MethodName := ⟨RX10, "looseOf", "(II)I"⟩
abbrev cX10_fullest : ByteArray := prog_12_method_83_code
def yX10_fullest : MethodName := ⟨RX10, "fullest", "(I)I"⟩
abbrev cX10_plan : ByteArray := prog_12_method_84_code
def yX10_plan : MethodName := ⟨RX10, "plan", "(II)I"⟩
abbrev cX10_life : ByteArray := prog_12_method_85_code
def yX10_life : MethodName := ⟨RX10, "life", "(III)I"⟩
abbrev cX10_alive : ByteArray := prog_12_method_86_code
def yX10_alive : MethodName := ⟨RX10, "alive", "(II)I"⟩
abbrev cX10_areTurns : ByteArray := prog_12_method_87_code
def yX10_areTurns : MethodName := ⟨RX10, "areTurns", "(I)Z"⟩
abbrev cX10_wrongFlat : ByteArray := prog_12_method_88_code
def yX10_wrongFlat : MethodName := ⟨RX10, "wrongFlat", "(II)I"⟩
abbrev cX10_flat : ByteArray := prog_12_method_89_code
def yX10_flat : MethodName := ⟨RX10, "flat", "(IIII)I"⟩
abbrev cX10_cyclesOf : ByteArray := prog_12_method_90_code
def yX10_cyclesOf : MethodName := ⟨RX10, "cyclesOf", "(II)I"⟩
abbrev cX10_headOf : ByteArray := prog_12_method_91_code
def yX10_headOf : MethodName := ⟨RX10, "headOf", "(II)I"⟩
abbrev cX10_ringOf : ByteArray := prog_12_method_92_code
def yX10_ringOf : MethodName := ⟨RX10, "ringOf", "(II)I"⟩
abbrev cX10_cycles : ByteArray := prog_12_method_93_code
def yX10_cycles : MethodName := ⟨RX10, "cycles", "(III)I"⟩
abbrev cX10_fillsRows : ByteArray := prog_12_method_94_code
def yX10_fillsRows : MethodName := ⟨RX10, "fillsRows", "()V"⟩
abbrev cX10_does : ByteArray := prog_12_method_95_code
def yX10_does : MethodName := ⟨RX10, "does", "(III)I"⟩
abbrev cX10_nameOf : ByteArray := prog_12_method_96_code
def yX10_nameOf : MethodName := ⟨RX10, "nameOf", "(III)I"⟩
abbrev cX10_looksAt : ByteArray := prog_12_method_97_code
def yX10_looksAt : MethodName := ⟨RX10, "looksAt", "(III)I"⟩
abbrev cX10_reckons : ByteArray := prog_12_method_98_code
def yX10_reckons : MethodName := ⟨RX10, "reckons", "(II)I"⟩
abbrev cX10_delivers : ByteArray := prog_12_method_99_code
def yX10_delivers : MethodName := ⟨RX10, "delivers", "(II)V"⟩
abbrev cX10_turnAt : ByteArray := prog_12_method_100_code
def yX10_turnAt : MethodName := ⟨RX10, "turnAt", "(IIII)I"⟩
abbrev cX10_runs : ByteArray := prog_12_method_101_code
def yX10_runs : MethodName := ⟨RX10, "runs", "(III)V"⟩
abbrev cX10_isCell : ByteArray := prog_12_method_102_code
def yX10_isCell : MethodName := ⟨RX10, "isCell", "(II)Z"⟩
abbrev cX10_run : ByteArray := prog_12_method_103_code
def yX10_run : MethodName := ⟨RX10, "run", "(IIII)I"⟩
abbrev cX10_comes : ByteArray := prog_12_method_104_code
def yX10_comes : MethodName := ⟨RX10, "comes", "(III)I"⟩
abbrev cX10_name : ByteArray := prog_12_method_105_code
def yX10_name : MethodName := ⟨RX10, "name", "(IIIII)I"⟩
abbrev cX10_plainRuns : ByteArray := prog_12_method_106_code
def yX10_plainRuns : MethodName := ⟨RX10, "plainRuns", "(I)V"⟩
abbrev cX10_plainLook : ByteArray := prog_12_method_107_code
def yX10_plainLook : MethodName := ⟨RX10, "plainLook", "(III)I"⟩
abbrev cX10_plainOf : ByteArray := prog_12_method_108_code
def yX10_plainOf : MethodName := ⟨RX10, "plainOf", "(II)I"⟩
abbrev cX10_plain : ByteArray := prog_12_method_109_code
def yX10_plain : MethodName := ⟨RX10, "plain", "(III)I"⟩
abbrev cX10_latencies : ByteArray := prog_12_method_110_code
def yX10_latencies : MethodName := ⟨RX10, "latencies", "()I"⟩
abbrev cX10_gate : ByteArray := prog_12_method_111_code
def yX10_gate : MethodName := ⟨RX10, "gate", "(IIII)Z"⟩
abbrev cX10_code : ByteArray := prog_12_method_112_code
def yX10_code : MethodName := ⟨RX10, "code", "(IZ)I"⟩
abbrev cX10_peelOf : ByteArray := prog_12_method_113_code
def yX10_peelOf : MethodName := ⟨RX10, "peelOf", "(II)I"⟩
abbrev cX10_peel : ByteArray := prog_12_method_114_code
def yX10_peel : MethodName := ⟨RX10, "peel", "(IIZ)I"⟩
abbrev cX10_pays : ByteArray := prog_12_method_115_code
def yX10_pays : MethodName := ⟨RX10, "pays", "(I)I"⟩
abbrev cX10_meet : ByteArray := prog_12_method_116_code
def yX10_meet : MethodName := ⟨RX10, "meet", "(IIII)Z"⟩
abbrev cX10_clash : ByteArray := prog_12_method_117_code
def yX10_clash : MethodName := ⟨RX10, "clash", "(IIII)Z"⟩
abbrev cX10_fitsFile : ByteArray := prog_12_method_118_code
def yX10_fitsFile : MethodName := ⟨RX10, "fitsFile", "(II)I"⟩
abbrev cX10_isFree : ByteArray := prog_12_method_119_code
def yX10_isFree : MethodName := ⟨RX10, "isFree", "(IIII)Z"⟩
abbrev cX10_turning : ByteArray := prog_12_method_120_code
def yX10_turning : MethodName := ⟨RX10, "turning", "(I)I"⟩
abbrev cX10_rotary : ByteArray := prog_12_method_121_code
def yX10_rotary : MethodName := ⟨RX10, "rotary", "(III)I"⟩
abbrev cX10_comesRing : ByteArray := prog_12_method_122_code
def yX10_comesRing : MethodName := ⟨RX10, "comesRing", "(III)V"⟩
abbrev cX10_ringsFrom : ByteArray := prog_12_method_123_code
def yX10_ringsFrom : MethodName := ⟨RX10, "ringsFrom", "(I)V"⟩
abbrev cX10_tellsRing : ByteArray := prog_12_method_124_code
def yX10_tellsRing : MethodName := ⟨RX10, "tellsRing", "(II)V"⟩
abbrev cX10_laysRate : ByteArray := prog_12_method_125_code
def yX10_laysRate : MethodName := ⟨RX10, "laysRate", "()V"⟩
abbrev cX10_rate : ByteArray := prog_12_method_126_code
def yX10_rate : MethodName := ⟨RX10, "rate", "(Z)I"⟩
abbrev cX10_critical : ByteArray := prog_12_method_127_code
def yX10_critical : MethodName := ⟨RX10, "critical", "()I"⟩
abbrev cX10_foldOf : ByteArray := prog_12_method_128_code
def yX10_foldOf : MethodName := ⟨RX10, "foldOf", "(I)I"⟩
abbrev cX10_fold : ByteArray := prog_12_method_129_code
def yX10_fold : MethodName := ⟨RX10, "fold", "(I)I"⟩
abbrev cX10_bestFold : ByteArray := prog_12_method_130_code
def yX10_bestFold : MethodName := ⟨RX10, "bestFold", "()I"⟩
abbrev cX10_faster : ByteArray := prog_12_method_131_code
def yX10_faster : MethodName := ⟨RX10, "faster", "(I)I"⟩
abbrev cX10_without : ByteArray := prog_12_method_132_code
def yX10_without : MethodName := ⟨RX10, "without", "(I)I"⟩
abbrev cX10_idle : ByteArray := prog_12_method_133_code
def yX10_idle : MethodName := ⟨RX10, "idle", "(II)I"⟩
abbrev cX10_more : ByteArray := prog_12_method_134_code
def yX10_more : MethodName := ⟨RX10, "more", "(I)I"⟩
abbrev cX10_squeeze : ByteArray := prog_12_method_135_code
def yX10_squeeze : MethodName := ⟨RX10, "squeeze", "(I)I"⟩
abbrev cX10_laysBare : ByteArray := prog_12_method_136_code
def yX10_laysBare : MethodName := ⟨RX10, "laysBare", "(I)V"⟩
abbrev cX10_bare : ByteArray := prog_12_method_137_code
def yX10_bare : MethodName := ⟨RX10, "bare", "(IIZ)I"⟩
abbrev cX10_who : ByteArray := prog_12_method_138_code
def yX10_who : MethodName := ⟨RX10, "who", "(III)I"⟩
abbrev cX10_begin : ByteArray := prog_12_method_139_code
def yX10_begin : MethodName := ⟨RX10, "begin", "(III)Z"⟩
abbrev cX10_holes : ByteArray := prog_12_method_140_code
def yX10_holes : MethodName := ⟨RX10, "holes", "(II)I"⟩
abbrev cX10_thereAt : ByteArray := prog_12_method_141_code
def yX10_thereAt : MethodName := ⟨RX10, "thereAt", "(III)I"⟩
abbrev cX10_late : ByteArray := prog_12_method_142_code
def yX10_late : MethodName := ⟨RX10, "late", "(IIII)I"⟩
abbrev cX10_ofNeeds : ByteArray := prog_12_method_143_code
def yX10_ofNeeds : MethodName := ⟨RX10, "ofNeeds", "(I)I"⟩
abbrev cX10_count : ByteArray := prog_12_method_144_code
def yX10_count : MethodName := ⟨RX10, "count", "(I)I"⟩
def RJx145de : String := "java/io/Serializable"
def TJx145de : u_T := fun k => match k with
  | _ => ("", "", "", false)
def tyJx145de : Nat → FieldType := fun k => match k with
  | _ => .int
abbrev wsJx145de0 : List Cond := u_ws RJx145de TJx145de 0
theorem nmJx145de : ∀ a, a < 0 → ∀ b, b < 0 → a ≠ b → (TJx145de a).2.1 ≠ (TJx145de b).2.1 := by decide +kernel
theorem tyJx145de_ok : ∀ k, k < 0 → parseFieldDescriptor (TJx145de k).2.2.1 = some (tyJx145de k) := by decide +kernel
def RJ6 : String := "java/lang/Integer"
def TJ6 : u_T := fun k => match k with
  | _ => ("", "", "", false)
def tyJ6 : Nat → FieldType := fun k => match k with
  | _ => .int
abbrev wsJ60 : List Cond := u_ws RJ6 TJ6 0
theorem nmJ6 : ∀ a, a < 0 → ∀ b, b < 0 → a ≠ b → (TJ6 a).2.1 ≠ (TJ6 b).2.1 := by decide +kernel
theorem tyJ6_ok : ∀ k, k < 0 → parseFieldDescriptor (TJ6 k).2.2.1 = some (tyJ6 k) := by decide +kernel
abbrev cJ6_bitCount_0f7a4 : ByteArray := prog_18_method_49_code
def yJ6_bitCount_0f7a4 : MethodName := ⟨RJ6, "bitCount", "(I)I"⟩
def RJ9 : String := "java/lang/Math"
def TJ9 : u_T := fun k => match k with
  | _ => ("", "", "", false)
def tyJ9 : Nat → FieldType := fun k => match k with
  | _ => .int
abbrev wsJ90 : List Cond := u_ws RJ9 TJ9 0
theorem nmJ9 : ∀ a, a < 0 → ∀ b, b < 0 → a ≠ b → (TJ9 a).2.1 ≠ (TJ9 b).2.1 := by decide +kernel
theorem tyJ9_ok : ∀ k, k < 0 → parseFieldDescriptor (TJ9 k).2.2.1 = some (tyJ9 k) := by decide +kernel
abbrev cJ9_floorDiv_7cf53 : ByteArray := prog_19_method_47_code
def yJ9_floorDiv_7cf53 : MethodName := ⟨RJ9, "floorDiv", "(II)I"⟩
abbrev cJ9_floorMod_7cf53 : ByteArray := prog_19_method_50_code
def yJ9_floorMod_7cf53 : MethodName := ⟨RJ9, "floorMod", "(II)I"⟩
abbrev cJ9_max_7cf53 : ByteArray := prog_19_method_65_code
def yJ9_max_7cf53 : MethodName := ⟨RJ9, "max", "(II)I"⟩
abbrev cJ9_min_7cf53 : ByteArray := prog_19_method_69_code
def yJ9_min_7cf53 : MethodName := ⟨RJ9, "min", "(II)I"⟩
def RJ0 : String := "java/lang/String"
def TJ0 : u_T := fun k => match k with
  | _ => ("", "", "", false)
def tyJ0 : Nat → FieldType := fun k => match k with
  | _ => .int
abbrev wsJ00 : List Cond := u_ws RJ0 TJ0 0
theorem nmJ0 : ∀ a, a < 0 → ∀ b, b < 0 → a ≠ b → (TJ0 a).2.1 ≠ (TJ0 b).2.1 := by decide +kernel
theorem tyJ0_ok : ∀ k, k < 0 → parseFieldDescriptor (TJ0 k).2.2.1 = some (tyJ0 k) := by decide +kernel
def RJ10 : String := "java/lang/System"
def TJ10 : u_T := fun k => match k with
  | _ => ("", "", "", false)
def tyJ10 : Nat → FieldType := fun k => match k with
  | _ => .int
abbrev wsJ100 : List Cond := u_ws RJ10 TJ10 0
theorem nmJ10 : ∀ a, a < 0 → ∀ b, b < 0 → a ≠ b → (TJ10 a).2.1 ≠ (TJ10 b).2.1 := by decide +kernel
theorem tyJ10_ok : ∀ k, k < 0 → parseFieldDescriptor (TJ10 k).2.2.1 = some (tyJ10 k) := by decide +kernel
def RJ7 : String := "java/util/Arrays"
def TJ7 : u_T := fun k => match k with
  | _ => ("", "", "", false)
def tyJ7 : Nat → FieldType := fun k => match k with
  | _ => .int
abbrev wsJ70 : List Cond := u_ws RJ7 TJ7 0
theorem nmJ7 : ∀ a, a < 0 → ∀ b, b < 0 → a ≠ b → (TJ7 a).2.1 ≠ (TJ7 b).2.1 := by decide +kernel
theorem tyJ7_ok : ∀ k, k < 0 → parseFieldDescriptor (TJ7 k).2.2.1 = some (tyJ7 k) := by decide +kernel
abbrev cJ7_fill_53178 : ByteArray := prog_24_method_103_code
def yJ7_fill_53178 : MethodName := ⟨RJ7, "fill", "([II)V"⟩
def RL : String := "OverlapMillLaw"
abbrev cL_reckon : ByteArray := method_3_code
def yL_reckon : MethodName := ⟨RL, "reckon", "(LOverlapMill;IIIII[J)I"⟩
abbrev cL_load : ByteArray := method_4_code
def yL_load : MethodName := ⟨RL, "load", "(LOverlapMill;II[J)I"⟩
abbrev cL_store : ByteArray := method_5_code
def yL_store : MethodName := ⟨RL, "store", "(LOverlapMill;IIII[J)I"⟩
abbrev cL_drop : ByteArray := method_6_code
def yL_drop : MethodName := ⟨RL, "drop", "(LOverlapMill;[J)I"⟩
abbrev cL_first : ByteArray := method_7_code
def yL_first : MethodName := ⟨RL, "first", "(LOverlapMill;II[J)I"⟩
abbrev cL_kind : ByteArray := method_8_code
def yL_kind : MethodName := ⟨RL, "kind", "(LOverlapMill;IIII)I"⟩
abbrev cL_unit : ByteArray := method_9_code
def yL_unit : MethodName := ⟨RL, "unit", "(LOverlapMill;II[J)I"⟩
abbrev cL_op : ByteArray := method_10_code
def yL_op : MethodName := ⟨RL, "op", "(LOverlapMill;II[J)I"⟩
abbrev cL_need : ByteArray := method_11_code
def yL_need : MethodName := ⟨RL, "need", "(LOverlapMill;II[J)I"⟩
abbrev cL_far : ByteArray := method_12_code
def yL_far : MethodName := ⟨RL, "far", "(LOverlapMill;III[J)I"⟩
abbrev cL_height : ByteArray := method_13_code
def yL_height : MethodName := ⟨RL, "height", "(LOverlapMill;II[J)I"⟩
abbrev cL_uses : ByteArray := method_14_code
def yL_uses : MethodName := ⟨RL, "uses", "(LOverlapMill;I[J)I"⟩
abbrev cL_fits : ByteArray := method_15_code
def yL_fits : MethodName := ⟨RL, "fits", "(LOverlapMill;I[J)I"⟩
abbrev cL_least : ByteArray := method_16_code
def yL_least : MethodName := ⟨RL, "least", "(LOverlapMill;[J)I"⟩
abbrev cL_time : ByteArray := method_17_code
def yL_time : MethodName := ⟨RL, "time", "(LOverlapMill;II[J)I"⟩
abbrev cL_ring : ByteArray := method_18_code
def yL_ring : MethodName := ⟨RL, "ring", "(LOverlapMill;III[J)I"⟩
abbrev cL_quick : ByteArray := method_19_code
def yL_quick : MethodName := ⟨RL, "quick", "(LOverlapMill;II[J)I"⟩
abbrev cL_moves : ByteArray := method_20_code
def yL_moves : MethodName := ⟨RL, "moves", "(LOverlapMill;I[J)I"⟩
abbrev cL_quickest : ByteArray := method_21_code
def yL_quickest : MethodName := ⟨RL, "quickest", "(LOverlapMill;[J)I"⟩
abbrev cL_plan : ByteArray := method_22_code
def yL_plan : MethodName := ⟨RL, "plan", "(LOverlapMill;II[J)I"⟩
abbrev cL_life : ByteArray := method_23_code
def yL_life : MethodName := ⟨RL, "life", "(LOverlapMill;III[J)I"⟩
abbrev cL_alive : ByteArray := method_24_code
def yL_alive : MethodName := ⟨RL, "alive", "(LOverlapMill;II[J)I"⟩
abbrev cL_flat : ByteArray := method_25_code
def yL_flat : MethodName := ⟨RL, "flat", "(LOverlapMill;IIII[J)I"⟩
abbrev cL_cycles : ByteArray := method_26_code
def yL_cycles : MethodName := ⟨RL, "cycles", "(LOverlapMill;III[J)I"⟩
abbrev cL_run : ByteArray := method_27_code
def yL_run : MethodName := ⟨RL, "run", "(LOverlapMill;IIII[J)I"⟩
abbrev cL_comes : ByteArray := method_28_code
def yL_comes : MethodName := ⟨RL, "comes", "(LOverlapMill;III[J)I"⟩
abbrev cL_plain : ByteArray := method_29_code
def yL_plain : MethodName := ⟨RL, "plain", "(LOverlapMill;III[J)I"⟩
abbrev cL_gate : ByteArray := method_30_code
def yL_gate : MethodName := ⟨RL, "gate", "(LOverlapMill;IIII[J)I"⟩
abbrev cL_code : ByteArray := method_31_code
def yL_code : MethodName := ⟨RL, "code", "(LOverlapMill;IZ[J)I"⟩
abbrev cL_peel : ByteArray := method_32_code
def yL_peel : MethodName := ⟨RL, "peel", "(LOverlapMill;IIZ[J)I"⟩
abbrev cL_turning : ByteArray := method_33_code
def yL_turning : MethodName := ⟨RL, "turning", "(LOverlapMill;I[J)I"⟩
abbrev cL_rotary : ByteArray := method_34_code
def yL_rotary : MethodName := ⟨RL, "rotary", "(LOverlapMill;III[J)I"⟩
abbrev cL_name : ByteArray := method_35_code
def yL_name : MethodName := ⟨RL, "name", "(LOverlapMill;IIIII[J)I"⟩
abbrev cL_rate : ByteArray := method_36_code
def yL_rate : MethodName := ⟨RL, "rate", "(LOverlapMill;Z[J)I"⟩
abbrev cL_critical : ByteArray := method_37_code
def yL_critical : MethodName := ⟨RL, "critical", "(LOverlapMill;[J)I"⟩
abbrev cL_fold : ByteArray := method_38_code
def yL_fold : MethodName := ⟨RL, "fold", "(LOverlapMill;I[J)I"⟩
abbrev cL_bestFold : ByteArray := method_39_code
def yL_bestFold : MethodName := ⟨RL, "bestFold", "(LOverlapMill;[J)I"⟩
abbrev cL_faster : ByteArray := method_40_code
def yL_faster : MethodName := ⟨RL, "faster", "(LOverlapMill;I[J)I"⟩
abbrev cL_without : ByteArray := method_41_code
def yL_without : MethodName := ⟨RL, "without", "(LOverlapMill;I[J)I"⟩
abbrev cL_idle : ByteArray := method_42_code
def yL_idle : MethodName := ⟨RL, "idle", "(LOverlapMill;II[J)I"⟩
abbrev cL_bare : ByteArray := method_43_code
def yL_bare : MethodName := ⟨RL, "bare", "(LOverlapMill;IIZ[J)I"⟩
abbrev cL_who : ByteArray := method_44_code
def yL_who : MethodName := ⟨RL, "who", "(LOverlapMill;III[J)I"⟩
abbrev cL_holes : ByteArray := method_45_code
def yL_holes : MethodName := ⟨RL, "holes", "(LOverlapMill;II[J)I"⟩
abbrev cL_late : ByteArray := method_46_code
def yL_late : MethodName := ⟨RL, "late", "(LOverlapMill;IIII[J)I"⟩
abbrev cL_pays : ByteArray := method_47_code
def yL_pays : MethodName := ⟨RL, "pays", "(LOverlapMill;I[J)I"⟩
abbrev cL_more : ByteArray := method_48_code
def yL_more : MethodName := ⟨RL, "more", "(LOverlapMill;I[J)I"⟩
abbrev cL_squeeze : ByteArray := method_49_code
def yL_squeeze : MethodName := ⟨RL, "squeeze", "(LOverlapMill;I[J)I"⟩
abbrev cL_law : ByteArray := code
def yL_law : MethodName := ⟨RL, "law", "([I)Z"⟩
abbrev vwCl : List vw_C := [(RX0, TX0, 8), (RX1, TX1, 14), (RX2, TX2, 8), (RX3, TX3, 3), (RX4, TX4, 2), (RX5, TX5, 3), (RX6, TX6, 20), (RX7, TX7, 8), (RX8, TX8, 1), (RX9, TX9, 12), (RX10, TX10, 37)]
end
section
/-! laid by wip/p1/gen.py: the instructions of every method, with what their numbers in the pool mean -/
abbrev TE : Type := Nat × Instr × Nat × Nat
abbrev PM : Type := MethodName × ByteArray × Nat × Option FieldType × Nat × Nat × (Nat × Nat) × List TE
abbrev cnm : List String := [RX0, RX1, RX2, RX3, RX4, RX5, RX6, RX7, RX8, RX9, RX10, RL, RJ6, RJ9, RJ7]
abbrev xnm : List String := ["java/lang/IllegalArgumentException", "java/lang/IllegalStateException", "java/lang/IndexOutOfBoundsException", "java/util/NoSuchElementException"]
noncomputable def tb_0 : List TE := [(0, .aload_n 0, 0, 0), (1, .invokespecial 3, 0, 6), (4, .aload_n 0, 0, 0), (5, .bipush 8, 0, 0), (7, .newarray .int, 0, 0), (9, .putfield 9, 0, 1), (12, .aload_n 0, 0, 0), (13, .bipush 32, 0, 0), (15, .newarray .int, 0, 0), (17, .putfield 15, 0, 2), (20, .aload_n 0, 0, 0), (21, .bipush 8, 0, 0), (23, .newarray .int, 0, 0), (25, .putfield 18, 0, 3), (28, .aload_n 0, 0, 0), (29, .bipush 6, 0, 0), (31, .newarray .int, 0, 0), (33, .dup, 0, 0), (34, .iconst 0, 0, 0), (35, .iconst 0, 0, 0), (36, .iastore, 0, 0), (37, .dup, 0, 0), (38, .iconst 1, 0, 0), (39, .iconst 0, 0, 0), (40, .iastore, 0, 0), (41, .dup, 0, 0), (42, .iconst 2, 0, 0), (43, .iconst 1, 0, 0), (44, .iastore, 0, 0), (45, .dup, 0, 0), (46, .iconst 3, 0, 0), (47, .iconst 0, 0, 0), (48, .iastore, 0, 0), (49, .dup, 0, 0), (50, .iconst 4, 0, 0), (51, .iconst 2, 0, 0), (52, .iastore, 0, 0), (53, .dup, 0, 0), (54, .iconst 5, 0, 0), (55, .iconst 2, 0, 0), (56, .iastore, 0, 0), (57, .putfield 21, 0, 4), (60, .aload_n 0, 0, 0), (61, .bipush 6, 0, 0), (63, .newarray .int, 0, 0), (65, .dup, 0, 0), (66, .iconst 0, 0, 0), (67, .iconst 1, 0, 0), (68, .iastore, 0, 0), (69, .dup, 0, 0), (70, .iconst 1, 0, 0), (71, .iconst 1, 0, 0), (72, .iastore, 0, 0), (73, .dup, 0, 0), (74, .iconst 2, 0, 0), (75, .iconst 3, 0, 0), (76, .iastore, 0, 0), (77, .dup, 0, 0), (78, .iconst 3, 0, 0), (79, .iconst 1, 0, 0), (80, .iastore, 0, 0), (81, .dup, 0, 0), (82, .iconst 4, 0, 0), (83, .iconst 2, 0, 0), (84, .iastore, 0, 0), (85, .dup, 0, 0), (86, .iconst 5, 0, 0), (87, .iconst 1, 0, 0), (88, .iastore, 0, 0), (89, .putfield 24, 0, 5), (92, .aload_n 0, 0, 0), (93, .bipush 6, 0, 0), (95, .newarray .int, 0, 0), (97, .dup, 0, 0), (98, .iconst 0, 0, 0), (99, .iconst 1, 0, 0), (100, .iastore, 0, 0), (101, .dup, 0, 0), (102, .iconst 1, 0, 0), (103, .iconst 1, 0, 0), (104, .iastore, 0, 0), (105, .dup, 0, 0), (106, .iconst 2, 0, 0), (107, .iconst 3, 0, 0), (108, .iastore, 0, 0), (109, .dup, 0, 0), (110, .iconst 3, 0, 0), (111, .iconst 1, 0, 0), (112, .iastore, 0, 0), (113, .dup, 0, 0), (114, .iconst 4, 0, 0), (115, .iconst 1, 0, 0), (116, .iastore, 0, 0), (117, .dup, 0, 0), (118, .iconst 5, 0, 0), (119, .iconst 1, 0, 0), (120, .iastore, 0, 0), (121, .putfield 27, 0, 6), (124, .aload_n 0, 0, 0), (125, .iconst 3, 0, 0), (126, .newarray .int, 0, 0), (128, .dup, 0, 0), (129, .iconst 0, 0, 0), (130, .iconst 1, 0, 0), (131, .iastore, 0, 0), (132, .dup, 0, 0), (133, .iconst 1, 0, 0), (134, .iconst 1, 0, 0), (135, .iastore, 0, 0), (136, .dup, 0, 0), (137, .iconst 2, 0, 0), (138, .iconst 1, 0, 0), (139, .iastore, 0, 0), (140, .putfield 30, 0, 7), (143, .return_, 0, 0)]
noncomputable def tb_1 : List TE := [(0, .aload_n 0, 0, 0), (1, .getfield 9, 0, 1), (4, .aload_n 0, 0, 0), (5, .getfield 33, 0, 0), (8, .iload_n 1, 0, 0), (9, .iastore, 0, 0), (10, .aload_n 0, 0, 0), (11, .getfield 15, 0, 2), (14, .aload_n 0, 0, 0), (15, .getfield 33, 0, 0), (18, .iconst 4, 0, 0), (19, .imul, 0, 0), (20, .iload_n 2, 0, 0), (21, .iastore, 0, 0), (22, .aload_n 0, 0, 0), (23, .getfield 15, 0, 2), (26, .aload_n 0, 0, 0), (27, .getfield 33, 0, 0), (30, .iconst 4, 0, 0), (31, .imul, 0, 0), (32, .iconst 1, 0, 0), (33, .iadd, 0, 0), (34, .iload_n 3, 0, 0), (35, .iastore, 0, 0), (36, .aload_n 0, 0, 0), (37, .getfield 15, 0, 2), (40, .aload_n 0, 0, 0), (41, .getfield 33, 0, 0), (44, .iconst 4, 0, 0), (45, .imul, 0, 0), (46, .iconst 2, 0, 0), (47, .iadd, 0, 0), (48, .iload 4, 0, 0), (50, .iastore, 0, 0), (51, .aload_n 0, 0, 0), (52, .getfield 15, 0, 2), (55, .aload_n 0, 0, 0), (56, .getfield 33, 0, 0), (59, .iconst 4, 0, 0), (60, .imul, 0, 0), (61, .iconst 3, 0, 0), (62, .iadd, 0, 0), (63, .iload 5, 0, 0), (65, .iastore, 0, 0), (66, .aload_n 0, 0, 0), (67, .getfield 18, 0, 3), (70, .aload_n 0, 0, 0), (71, .getfield 33, 0, 0), (74, .iconst 0, 0, 0), (75, .iastore, 0, 0), (76, .aload_n 0, 0, 0), (77, .dup, 0, 0), (78, .getfield 33, 0, 0), (81, .iconst 1, 0, 0), (82, .iadd, 0, 0), (83, .putfield 33, 0, 0), (86, .return_, 0, 0)]
noncomputable def tb_2 : List TE := [(0, .aload_n 0, 0, 0), (1, .getfield 24, 0, 5), (4, .aload_n 0, 0, 0), (5, .getfield 9, 0, 1), (8, .iload_n 1, 0, 0), (9, .iaload, 0, 0), (10, .iaload, 0, 0), (11, .ireturn, 0, 0)]
noncomputable def tb_3 : List TE := [(0, .aload_n 0, 0, 0), (1, .getfield 21, 0, 4), (4, .aload_n 0, 0, 0), (5, .getfield 9, 0, 1), (8, .iload_n 1, 0, 0), (9, .iaload, 0, 0), (10, .iaload, 0, 0), (11, .ireturn, 0, 0)]
noncomputable def tb_4 : List TE := [(0, .aload_n 0, 0, 0), (1, .getfield 27, 0, 6), (4, .aload_n 0, 0, 0), (5, .getfield 9, 0, 1), (8, .iload_n 1, 0, 0), (9, .iaload, 0, 0), (10, .iaload, 0, 0), (11, .ireturn, 0, 0)]
noncomputable def tb_5 : List TE := [(0, .aload_n 0, 0, 0), (1, .getfield 9, 0, 1), (4, .iload_n 1, 0, 0), (5, .iaload, 0, 0), (6, .iconst 4, 0, 0), (7, .if_icmp .ne 5, 0, 0), (10, .iconst 0, 0, 0), (11, .ireturn, 0, 0), (12, .aload_n 0, 0, 0), (13, .getfield 9, 0, 1), (16, .iload_n 1, 0, 0), (17, .iaload, 0, 0), (18, .iconst 5, 0, 0), (19, .if_icmp .ne 7, 0, 0), (22, .iconst 1, 0, 0), (23, .goto 4, 0, 0), (26, .iconst 2, 0, 0), (27, .ireturn, 0, 0)]
noncomputable def tb_6 : List TE := [(0, .aload_n 0, 0, 0), (1, .getfield 15, 0, 2), (4, .iload_n 1, 0, 0), (5, .iconst 4, 0, 0), (6, .imul, 0, 0), (7, .iload_n 2, 0, 0), (8, .iconst 2, 0, 0), (9, .imul, 0, 0), (10, .iadd, 0, 0), (11, .iaload, 0, 0), (12, .ireturn, 0, 0)]
noncomputable def tb_7 : List TE := [(0, .aload_n 0, 0, 0), (1, .getfield 15, 0, 2), (4, .iload_n 1, 0, 0), (5, .iconst 4, 0, 0), (6, .imul, 0, 0), (7, .iload_n 2, 0, 0), (8, .iconst 2, 0, 0), (9, .imul, 0, 0), (10, .iadd, 0, 0), (11, .iconst 1, 0, 0), (12, .iadd, 0, 0), (13, .iaload, 0, 0), (14, .ireturn, 0, 0)]
noncomputable def tb_8 : List TE := [(0, .aload_n 0, 0, 0), (1, .getfield 9, 0, 1), (4, .iload_n 1, 0, 0), (5, .iaload, 0, 0), (6, .iconst 5, 0, 0), (7, .if_icmp .ne 16, 0, 0), (10, .aload_n 0, 0, 0), (11, .getfield 15, 0, 2), (14, .iload_n 1, 0, 0), (15, .iconst 4, 0, 0), (16, .imul, 0, 0), (17, .iconst 2, 0, 0), (18, .iadd, 0, 0), (19, .iaload, 0, 0), (20, .goto 11, 0, 0), (23, .aload_n 0, 0, 0), (24, .getfield 15, 0, 2), (27, .iload_n 1, 0, 0), (28, .iconst 4, 0, 0), (29, .imul, 0, 0), (30, .iaload, 0, 0), (31, .ireturn, 0, 0)]
noncomputable def tb_9 : List TE := [(0, .aload_n 0, 0, 0), (1, .getfield 9, 0, 1), (4, .iload_n 1, 0, 0), (5, .iaload, 0, 0), (6, .iconst 5, 0, 0), (7, .if_icmp .ne 16, 0, 0), (10, .aload_n 0, 0, 0), (11, .getfield 15, 0, 2), (14, .iload_n 1, 0, 0), (15, .iconst 4, 0, 0), (16, .imul, 0, 0), (17, .iconst 3, 0, 0), (18, .iadd, 0, 0), (19, .iaload, 0, 0), (20, .goto 13, 0, 0), (23, .aload_n 0, 0, 0), (24, .getfield 15, 0, 2), (27, .iload_n 1, 0, 0), (28, .iconst 4, 0, 0), (29, .imul, 0, 0), (30, .iconst 1, 0, 0), (31, .iadd, 0, 0), (32, .iaload, 0, 0), (33, .ireturn, 0, 0)]
noncomputable def tb_10 : List TE := [(0, .iconst 0, 0, 0), (1, .istore_n 1, 0, 0), (2, .iload_n 1, 0, 0), (3, .aload_n 0, 0, 0), (4, .getfield 33, 0, 0), (7, .if_icmp .ge 48, 0, 0), (10, .iconst 0, 0, 0), (11, .istore_n 2, 0, 0), (12, .iload_n 2, 0, 0), (13, .aload_n 0, 0, 0), (14, .iload_n 1, 0, 0), (15, .invokevirtual 37, 5, 0), (18, .if_icmp .ge 31, 0, 0), (21, .aload_n 0, 0, 0), (22, .iload_n 1, 0, 0), (23, .aload_n 0, 0, 0), (24, .iload_n 1, 0, 0), (25, .iload_n 2, 0, 0), (26, .invokevirtual 41, 6, 0), (29, .aload_n 0, 0, 0), (30, .iload_n 1, 0, 0), (31, .iload_n 2, 0, 0), (32, .invokevirtual 45, 7, 0), (35, .invokevirtual 48, 11, 0), (38, .ifCond .ne 5, 0, 0), (41, .iconst 0, 0, 0), (42, .ireturn, 0, 0), (43, .iinc 2 1, 0, 0), (46, .goto (-34), 0, 0), (49, .iinc 1 1, 0, 0), (52, .goto (-50), 0, 0), (55, .iconst 1, 0, 0), (56, .ireturn, 0, 0)]
noncomputable def tb_11 : List TE := [(0, .iload_n 2, 0, 0), (1, .ifCond .ge 5, 0, 0), (4, .iconst 1, 0, 0), (5, .ireturn, 0, 0), (6, .iload_n 2, 0, 0), (7, .aload_n 0, 0, 0), (8, .getfield 33, 0, 0), (11, .if_icmp .ge 13, 0, 0), (14, .aload_n 0, 0, 0), (15, .getfield 9, 0, 1), (18, .iload_n 2, 0, 0), (19, .iaload, 0, 0), (20, .iconst 5, 0, 0), (21, .if_icmp .ne 5, 0, 0), (24, .iconst 0, 0, 0), (25, .ireturn, 0, 0), (26, .iload_n 3, 0, 0), (27, .ifCond .gt 8, 0, 0), (30, .iload_n 2, 0, 0), (31, .iload_n 1, 0, 0), (32, .if_icmp .ge 7, 0, 0), (35, .iconst 1, 0, 0), (36, .goto 4, 0, 0), (39, .iconst 0, 0, 0), (40, .ireturn, 0, 0)]
noncomputable def tb_12 : List TE := [(0, .iconst 0, 0, 0), (1, .istore_n 2, 0, 0), (2, .iconst 0, 0, 0), (3, .istore_n 3, 0, 0), (4, .iload_n 3, 0, 0), (5, .aload_n 0, 0, 0), (6, .getfield 33, 0, 0), (9, .if_icmp .ge 29, 0, 0), (12, .aload_n 0, 0, 0), (13, .iload_n 3, 0, 0), (14, .invokevirtual 52, 3, 0), (17, .iload_n 1, 0, 0), (18, .if_icmp .ne 14, 0, 0), (21, .iload_n 2, 0, 0), (22, .aload_n 0, 0, 0), (23, .iload_n 3, 0, 0), (24, .invokevirtual 55, 4, 0), (27, .invokestatic 58, 315, 2), (30, .iadd, 0, 0), (31, .istore_n 2, 0, 0), (32, .iinc 3 1, 0, 0), (35, .goto (-31), 0, 0), (38, .iload_n 2, 0, 0), (39, .ireturn, 0, 0)]
noncomputable def tb_13 : List TE := [(0, .iconst 0, 0, 0), (1, .istore_n 1, 0, 0), (2, .iconst 0, 0, 0), (3, .istore_n 2, 0, 0), (4, .iload_n 2, 0, 0), (5, .aload_n 0, 0, 0), (6, .getfield 33, 0, 0), (9, .if_icmp .ge 17, 0, 0), (12, .iload_n 1, 0, 0), (13, .aload_n 0, 0, 0), (14, .iload_n 2, 0, 0), (15, .invokevirtual 63, 2, 0), (18, .iadd, 0, 0), (19, .istore_n 1, 0, 0), (20, .iinc 2 1, 0, 0), (23, .goto (-19), 0, 0), (26, .iload_n 1, 0, 0), (27, .ireturn, 0, 0)]
noncomputable def tb_14 : List TE := [(0, .iconst 0, 0, 0), (1, .istore_n 3, 0, 0), (2, .iconst 0, 0, 0), (3, .istore 4, 0, 0), (5, .iload 4, 0, 0), (7, .iconst 3, 0, 0), (8, .if_icmp .ge 54, 0, 0), (11, .iload 4, 0, 0), (13, .iload_n 1, 0, 0), (14, .if_icmp .ne 15, 0, 0), (17, .aload_n 0, 0, 0), (18, .getfield 30, 0, 7), (21, .iload 4, 0, 0), (23, .iaload, 0, 0), (24, .iconst 1, 0, 0), (25, .iadd, 0, 0), (26, .goto 10, 0, 0), (29, .aload_n 0, 0, 0), (30, .getfield 30, 0, 7), (33, .iload 4, 0, 0), (35, .iaload, 0, 0), (36, .istore 5, 0, 0), (38, .iload_n 3, 0, 0), (39, .iload_n 2, 0, 0), (40, .aload_n 0, 0, 0), (41, .iload 4, 0, 0), (43, .invokevirtual 66, 12, 0), (46, .imul, 0, 0), (47, .iload 5, 0, 0), (49, .invokestatic 69, 170, 3), (52, .invokestatic 72, 318, 2), (55, .istore_n 3, 0, 0), (56, .iinc 4 1, 0, 0), (59, .goto (-54), 0, 0), (62, .iload_n 3, 0, 0), (63, .ireturn, 0, 0)]
noncomputable def tb_15 : List TE := [(0, .aload_n 0, 0, 0), (1, .invokespecial 3, 0, 6), (4, .aload_n 0, 0, 0), (5, .iconst 1, 0, 0), (6, .putfield 9, 1, 3), (9, .aload_n 0, 0, 0), (10, .bipush 8, 0, 0), (12, .newarray .int, 0, 0), (14, .putfield 15, 1, 8), (17, .aload_n 0, 0, 0), (18, .bipush 8, 0, 0), (20, .newarray .int, 0, 0), (22, .putfield 19, 1, 9), (25, .aload_n 0, 0, 0), (26, .bipush 8, 0, 0), (28, .newarray .int, 0, 0), (30, .putfield 22, 1, 10), (33, .aload_n 0, 0, 0), (34, .bipush 8, 0, 0), (36, .newarray .int, 0, 0), (38, .putfield 25, 1, 11), (41, .aload_n 0, 0, 0), (42, .bipush 8, 0, 0), (44, .newarray .int, 0, 0), (46, .putfield 28, 1, 12), (49, .aload_n 0, 0, 0), (50, .bipush 8, 0, 0), (52, .newarray .int, 0, 0), (54, .putfield 31, 1, 13), (57, .return_, 0, 0)]
noncomputable def tb_16 : List TE := [(0, .aload_n 0, 0, 0), (1, .aload_n 1, 0, 0), (2, .getfield 34, 0, 0), (5, .putfield 39, 1, 2), (8, .aload_n 0, 0, 0), (9, .iload 4, 0, 0), (11, .putfield 9, 1, 3), (14, .aload_n 3, 0, 0), (15, .iconst 0, 0, 0), (16, .aload_n 0, 0, 0), (17, .getfield 15, 1, 8), (20, .iconst 0, 0, 0), (21, .bipush 8, 0, 0), (23, .invokestatic 40, 0, 7), (26, .aload_n 0, 0, 0), (27, .aload_n 2, 0, 0), (28, .invokevirtual 46, 17, 0), (31, .aload_n 0, 0, 0), (32, .iconst 0, 0, 0), (33, .putfield 50, 1, 4), (36, .aload_n 0, 0, 0), (37, .iconst 1, 0, 0), (38, .putfield 53, 1, 5), (41, .iconst 0, 0, 0), (42, .istore 5, 0, 0), (44, .iload 5, 0, 0), (46, .aload_n 0, 0, 0), (47, .getfield 39, 1, 2), (50, .if_icmp .ge 67, 0, 0), (53, .aload_n 0, 0, 0), (54, .getfield 22, 1, 10), (57, .iload 5, 0, 0), (59, .aload_n 0, 0, 0), (60, .getfield 19, 1, 9), (63, .iload 5, 0, 0), (65, .iaload, 0, 0), (66, .aload_n 1, 0, 0), (67, .iload 5, 0, 0), (69, .invokevirtual 56, 2, 1), (72, .iadd, 0, 0), (73, .iastore, 0, 0), (74, .aload_n 0, 0, 0), (75, .aload_n 0, 0, 0), (76, .getfield 50, 1, 4), (79, .aload_n 0, 0, 0), (80, .getfield 22, 1, 10), (83, .iload 5, 0, 0), (85, .iaload, 0, 0), (86, .invokestatic 60, 318, 2), (89, .putfield 50, 1, 4), (92, .aload_n 0, 0, 0), (93, .aload_n 0, 0, 0), (94, .getfield 53, 1, 5), (97, .aload_n 0, 0, 0), (98, .iload 5, 0, 0), (100, .invokevirtual 66, 21, 0), (103, .iconst 1, 0, 0), (104, .iadd, 0, 0), (105, .invokestatic 60, 318, 2), (108, .putfield 53, 1, 5), (111, .iinc 5 1, 0, 0), (114, .goto (-70), 0, 0), (117, .aload_n 0, 0, 0), (118, .aload_n 1, 0, 0), (119, .invokevirtual 69, 18, 0), (122, .aload_n 0, 0, 0), (123, .aload_n 1, 0, 0), (124, .invokevirtual 73, 19, 0), (127, .return_, 0, 0)]
noncomputable def tb_17 : List TE := [(0, .iconst 0, 0, 0), (1, .istore_n 2, 0, 0), (2, .iload_n 2, 0, 0), (3, .aload_n 0, 0, 0), (4, .getfield 39, 1, 2), (7, .if_icmp .ge 21, 0, 0), (10, .aload_n 0, 0, 0), (11, .getfield 19, 1, 9), (14, .iload_n 2, 0, 0), (15, .aload_n 0, 0, 0), (16, .getfield 15, 1, 8), (19, .iload_n 2, 0, 0), (20, .iaload, 0, 0), (21, .iastore, 0, 0), (22, .iinc 2 1, 0, 0), (25, .goto (-23), 0, 0), (28, .iconst 1, 0, 0), (29, .istore_n 2, 0, 0), (30, .iconst 0, 0, 0), (31, .istore_n 3, 0, 0), (32, .iload_n 3, 0, 0), (33, .bipush 8, 0, 0), (35, .if_icmp .gt 116, 0, 0), (38, .iload_n 2, 0, 0), (39, .ifCond .eq 112, 0, 0), (42, .iconst 0, 0, 0), (43, .istore_n 2, 0, 0), (44, .iconst 0, 0, 0), (45, .istore 4, 0, 0), (47, .iload 4, 0, 0), (49, .aload_n 1, 0, 0), (50, .getfield 76, 7, 0), (53, .if_icmp .ge 92, 0, 0), (56, .aload_n 1, 0, 0), (57, .getfield 79, 7, 2), (60, .iload 4, 0, 0), (62, .iaload, 0, 0), (63, .istore 5, 0, 0), (65, .aload_n 0, 0, 0), (66, .getfield 19, 1, 9), (69, .aload_n 1, 0, 0), (70, .getfield 82, 7, 1), (73, .iload 4, 0, 0), (75, .iaload, 0, 0), (76, .iaload, 0, 0), (77, .aload_n 1, 0, 0), (78, .getfield 85, 7, 4), (81, .iload 4, 0, 0), (83, .iaload, 0, 0), (84, .iadd, 0, 0), (85, .aload_n 0, 0, 0), (86, .getfield 9, 1, 3), (89, .aload_n 1, 0, 0), (90, .getfield 88, 7, 3), (93, .iload 4, 0, 0), (95, .iaload, 0, 0), (96, .imul, 0, 0), (97, .isub, 0, 0), (98, .aload_n 0, 0, 0), (99, .getfield 19, 1, 9), (102, .iload 5, 0, 0), (104, .iaload, 0, 0), (105, .isub, 0, 0), (106, .istore 6, 0, 0), (108, .iload 6, 0, 0), (110, .ifCond .le 29, 0, 0), (113, .aload_n 0, 0, 0), (114, .getfield 19, 1, 9), (117, .iload 5, 0, 0), (119, .dup2, 0, 0), (120, .iaload, 0, 0), (121, .iload 6, 0, 0), (123, .aload_n 0, 0, 0), (124, .getfield 9, 1, 3), (127, .invokestatic 91, 170, 3), (130, .aload_n 0, 0, 0), (131, .getfield 9, 1, 3), (134, .imul, 0, 0), (135, .iadd, 0, 0), (136, .iastore, 0, 0), (137, .iconst 1, 0, 0), (138, .istore_n 2, 0, 0), (139, .iinc 4 1, 0, 0), (142, .goto (-95), 0, 0), (145, .iinc 3 1, 0, 0), (148, .goto (-116), 0, 0), (151, .return_, 0, 0)]
noncomputable def tb_18 : List TE := [(0, .aload_n 0, 0, 0), (1, .getfield 25, 1, 11), (4, .iconst 0, 0, 0), (5, .invokestatic 94, 320, 2), (8, .iconst 0, 0, 0), (9, .istore_n 2, 0, 0), (10, .iload_n 2, 0, 0), (11, .aload_n 0, 0, 0), (12, .getfield 39, 1, 2), (15, .if_icmp .ge 88, 0, 0), (18, .iconst 0, 0, 0), (19, .istore_n 3, 0, 0), (20, .iload_n 3, 0, 0), (21, .aload_n 1, 0, 0), (22, .iload_n 2, 0, 0), (23, .invokevirtual 100, 5, 1), (26, .if_icmp .ge 71, 0, 0), (29, .aload_n 1, 0, 0), (30, .iload_n 2, 0, 0), (31, .iload_n 3, 0, 0), (32, .invokevirtual 103, 6, 1), (35, .istore 4, 0, 0), (37, .iload 4, 0, 0), (39, .ifCond .lt 52, 0, 0), (42, .aload_n 0, 0, 0), (43, .getfield 19, 1, 9), (46, .iload_n 2, 0, 0), (47, .iaload, 0, 0), (48, .aload_n 0, 0, 0), (49, .getfield 9, 1, 3), (52, .aload_n 1, 0, 0), (53, .iload_n 2, 0, 0), (54, .iload_n 3, 0, 0), (55, .invokevirtual 106, 7, 1), (58, .imul, 0, 0), (59, .iadd, 0, 0), (60, .istore 5, 0, 0), (62, .aload_n 0, 0, 0), (63, .getfield 25, 1, 11), (66, .iload 4, 0, 0), (68, .aload_n 0, 0, 0), (69, .getfield 25, 1, 11), (72, .iload 4, 0, 0), (74, .iaload, 0, 0), (75, .iload 5, 0, 0), (77, .aload_n 0, 0, 0), (78, .getfield 22, 1, 10), (81, .iload 4, 0, 0), (83, .iaload, 0, 0), (84, .isub, 0, 0), (85, .iconst 1, 0, 0), (86, .iadd, 0, 0), (87, .invokestatic 60, 318, 2), (90, .iastore, 0, 0), (91, .iinc 3 1, 0, 0), (94, .goto (-74), 0, 0), (97, .iinc 2 1, 0, 0), (100, .goto (-90), 0, 0), (103, .return_, 0, 0)]
noncomputable def tb_19 : List TE := [(0, .aload_n 0, 0, 0), (1, .iconst 0, 0, 0), (2, .putfield 109, 1, 6), (5, .aload_n 0, 0, 0), (6, .iconst 1, 0, 0), (7, .putfield 112, 1, 7), (10, .iconst 0, 0, 0), (11, .istore_n 2, 0, 0), (12, .iload_n 2, 0, 0), (13, .aload_n 0, 0, 0), (14, .getfield 39, 1, 2), (17, .if_icmp .ge 88, 0, 0), (20, .aload_n 1, 0, 0), (21, .getfield 115, 0, 1), (24, .iload_n 2, 0, 0), (25, .iaload, 0, 0), (26, .iconst 5, 0, 0), (27, .if_icmp .ne 7, 0, 0), (30, .iconst 1, 0, 0), (31, .goto 4, 0, 0), (34, .iconst 0, 0, 0), (35, .istore_n 3, 0, 0), (36, .aload_n 0, 0, 0), (37, .getfield 28, 1, 12), (40, .iload_n 2, 0, 0), (41, .iload_n 3, 0, 0), (42, .ifCond .eq 7, 0, 0), (45, .iconst 0, 0, 0), (46, .goto 20, 0, 0), (49, .iconst 1, 0, 0), (50, .aload_n 0, 0, 0), (51, .getfield 25, 1, 11), (54, .iload_n 2, 0, 0), (55, .iaload, 0, 0), (56, .aload_n 0, 0, 0), (57, .getfield 9, 1, 3), (60, .invokestatic 91, 170, 3), (63, .invokestatic 60, 318, 2), (66, .iastore, 0, 0), (67, .aload_n 0, 0, 0), (68, .dup, 0, 0), (69, .getfield 109, 1, 6), (72, .aload_n 0, 0, 0), (73, .getfield 28, 1, 12), (76, .iload_n 2, 0, 0), (77, .iaload, 0, 0), (78, .iadd, 0, 0), (79, .putfield 109, 1, 6), (82, .aload_n 0, 0, 0), (83, .aload_n 0, 0, 0), (84, .getfield 112, 1, 7), (87, .aload_n 0, 0, 0), (88, .getfield 28, 1, 12), (91, .iload_n 2, 0, 0), (92, .iaload, 0, 0), (93, .invokestatic 60, 318, 2), (96, .putfield 112, 1, 7), (99, .iinc 2 1, 0, 0), (102, .goto (-90), 0, 0), (105, .iconst 0, 0, 0), (106, .istore_n 2, 0, 0), (107, .iload_n 2, 0, 0), (108, .aload_n 0, 0, 0), (109, .getfield 39, 1, 2), (112, .if_icmp .ge 70, 0, 0), (115, .aload_n 0, 0, 0), (116, .getfield 31, 1, 13), (119, .iload_n 2, 0, 0), (120, .aload_n 0, 0, 0), (121, .getfield 28, 1, 12), (124, .iload_n 2, 0, 0), (125, .iaload, 0, 0), (126, .iastore, 0, 0), (127, .aload_n 0, 0, 0), (128, .getfield 31, 1, 13), (131, .iload_n 2, 0, 0), (132, .iaload, 0, 0), (133, .ifCond .le 43, 0, 0), (136, .aload_n 0, 0, 0), (137, .getfield 31, 1, 13), (140, .iload_n 2, 0, 0), (141, .iaload, 0, 0), (142, .aload_n 0, 0, 0), (143, .getfield 112, 1, 7), (146, .if_icmp .ge 30, 0, 0), (149, .aload_n 0, 0, 0), (150, .getfield 112, 1, 7), (153, .aload_n 0, 0, 0), (154, .getfield 31, 1, 13), (157, .iload_n 2, 0, 0), (158, .iaload, 0, 0), (159, .irem, 0, 0), (160, .ifCond .eq 16, 0, 0), (163, .aload_n 0, 0, 0), (164, .getfield 31, 1, 13), (167, .iload_n 2, 0, 0), (168, .dup2, 0, 0), (169, .iaload, 0, 0), (170, .iconst 1, 0, 0), (171, .iadd, 0, 0), (172, .iastore, 0, 0), (173, .goto (-46), 0, 0), (176, .iinc 2 1, 0, 0), (179, .goto (-72), 0, 0), (182, .return_, 0, 0)]
noncomputable def tb_20 : List TE := [(0, .iconst 0, 0, 0), (1, .istore_n 1, 0, 0), (2, .iconst 0, 0, 0), (3, .istore_n 2, 0, 0), (4, .iload_n 2, 0, 0), (5, .aload_n 0, 0, 0), (6, .getfield 39, 1, 2), (9, .if_icmp .ge 18, 0, 0), (12, .iload_n 1, 0, 0), (13, .aload_n 0, 0, 0), (14, .getfield 31, 1, 13), (17, .iload_n 2, 0, 0), (18, .iaload, 0, 0), (19, .iadd, 0, 0), (20, .istore_n 1, 0, 0), (21, .iinc 2 1, 0, 0), (24, .goto (-20), 0, 0), (27, .iload_n 1, 0, 0), (28, .ireturn, 0, 0)]
noncomputable def tb_21 : List TE := [(0, .aload_n 0, 0, 0), (1, .getfield 9, 1, 3), (4, .ifCond .gt 7, 0, 0), (7, .iconst 0, 0, 0), (8, .goto 14, 0, 0), (11, .aload_n 0, 0, 0), (12, .getfield 19, 1, 9), (15, .iload_n 1, 0, 0), (16, .iaload, 0, 0), (17, .aload_n 0, 0, 0), (18, .getfield 9, 1, 3), (21, .idiv, 0, 0), (22, .ireturn, 0, 0)]
noncomputable def tb_22 : List TE := [(0, .iconst 0, 0, 0), (1, .istore_n 2, 0, 0), (2, .iconst 0, 0, 0), (3, .istore_n 3, 0, 0), (4, .iload_n 3, 0, 0), (5, .aload_n 0, 0, 0), (6, .getfield 39, 1, 2), (9, .if_icmp .ge 58, 0, 0), (12, .iload_n 1, 0, 0), (13, .aload_n 0, 0, 0), (14, .getfield 22, 1, 10), (17, .iload_n 3, 0, 0), (18, .iaload, 0, 0), (19, .isub, 0, 0), (20, .aload_n 0, 0, 0), (21, .getfield 9, 1, 3), (24, .invokestatic 118, 317, 2), (27, .istore 4, 0, 0), (29, .iload 4, 0, 0), (31, .aload_n 0, 0, 0), (32, .getfield 25, 1, 11), (35, .iload_n 3, 0, 0), (36, .iaload, 0, 0), (37, .if_icmp .ge 24, 0, 0), (40, .iload_n 2, 0, 0), (41, .aload_n 0, 0, 0), (42, .getfield 25, 1, 11), (45, .iload_n 3, 0, 0), (46, .iaload, 0, 0), (47, .iload 4, 0, 0), (49, .isub, 0, 0), (50, .iconst 1, 0, 0), (51, .isub, 0, 0), (52, .aload_n 0, 0, 0), (53, .getfield 9, 1, 3), (56, .idiv, 0, 0), (57, .iconst 1, 0, 0), (58, .iadd, 0, 0), (59, .iadd, 0, 0), (60, .istore_n 2, 0, 0), (61, .iinc 3 1, 0, 0), (64, .goto (-60), 0, 0), (67, .iload_n 2, 0, 0), (68, .ireturn, 0, 0)]
noncomputable def tb_23 : List TE := [(0, .iconst 0, 0, 0), (1, .istore_n 1, 0, 0), (2, .aload_n 0, 0, 0), (3, .iconst 0, 0, 0), (4, .invokevirtual 121, 22, 0), (7, .istore_n 2, 0, 0), (8, .iconst 1, 0, 0), (9, .istore_n 3, 0, 0), (10, .iload_n 3, 0, 0), (11, .aload_n 0, 0, 0), (12, .getfield 9, 1, 3), (15, .if_icmp .ge 27, 0, 0), (18, .aload_n 0, 0, 0), (19, .iload_n 3, 0, 0), (20, .invokevirtual 121, 22, 0), (23, .istore 4, 0, 0), (25, .iload 4, 0, 0), (27, .iload_n 2, 0, 0), (28, .if_icmp .le 8, 0, 0), (31, .iload 4, 0, 0), (33, .istore_n 2, 0, 0), (34, .iload_n 3, 0, 0), (35, .istore_n 1, 0, 0), (36, .iinc 3 1, 0, 0), (39, .goto (-29), 0, 0), (42, .iload_n 1, 0, 0), (43, .ireturn, 0, 0)]
noncomputable def tb_24 : List TE := [(0, .bipush 99, 0, 0), (2, .istore_n 3, 0, 0), (3, .iconst 0, 0, 0), (4, .istore 4, 0, 0), (6, .iload 4, 0, 0), (8, .aload_n 1, 0, 0), (9, .getfield 76, 7, 0), (12, .if_icmp .ge 79, 0, 0), (15, .aload_n 1, 0, 0), (16, .getfield 79, 7, 2), (19, .iload 4, 0, 0), (21, .iaload, 0, 0), (22, .istore 5, 0, 0), (24, .aload_n 1, 0, 0), (25, .getfield 82, 7, 1), (28, .iload 4, 0, 0), (30, .iaload, 0, 0), (31, .iload_n 2, 0, 0), (32, .if_icmp .ne 53, 0, 0), (35, .iload 5, 0, 0), (37, .iload_n 2, 0, 0), (38, .if_icmp .eq 47, 0, 0), (41, .aload_n 0, 0, 0), (42, .getfield 19, 1, 9), (45, .iload 5, 0, 0), (47, .iaload, 0, 0), (48, .aload_n 0, 0, 0), (49, .getfield 19, 1, 9), (52, .iload_n 2, 0, 0), (53, .iaload, 0, 0), (54, .isub, 0, 0), (55, .aload_n 1, 0, 0), (56, .getfield 85, 7, 4), (59, .iload 4, 0, 0), (61, .iaload, 0, 0), (62, .isub, 0, 0), (63, .aload_n 0, 0, 0), (64, .getfield 9, 1, 3), (67, .aload_n 1, 0, 0), (68, .getfield 88, 7, 3), (71, .iload 4, 0, 0), (73, .iaload, 0, 0), (74, .imul, 0, 0), (75, .iadd, 0, 0), (76, .istore 6, 0, 0), (78, .iload_n 3, 0, 0), (79, .iload 6, 0, 0), (81, .invokestatic 124, 319, 2), (84, .istore_n 3, 0, 0), (85, .iinc 4 1, 0, 0), (88, .goto (-82), 0, 0), (91, .iload_n 3, 0, 0), (92, .ireturn, 0, 0)]
noncomputable def tb_25 : List TE := [(0, .iconst 0, 0, 0), (1, .istore 4, 0, 0), (3, .iconst 0, 0, 0), (4, .istore 5, 0, 0), (6, .iload 5, 0, 0), (8, .iconst 4, 0, 0), (9, .if_icmp .ge 43, 0, 0), (12, .aload_n 1, 0, 0), (13, .iload_n 2, 0, 0), (14, .invokevirtual 127, 4, 1), (17, .iconst 1, 0, 0), (18, .iload 5, 0, 0), (20, .ishl, 0, 0), (21, .iand, 0, 0), (22, .ifCond .eq 24, 0, 0), (25, .aload_n 0, 0, 0), (26, .getfield 15, 1, 8), (29, .iload_n 2, 0, 0), (30, .iaload, 0, 0), (31, .iload 5, 0, 0), (33, .iadd, 0, 0), (34, .aload_n 0, 0, 0), (35, .getfield 9, 1, 3), (38, .irem, 0, 0), (39, .iload_n 3, 0, 0), (40, .if_icmp .ne 6, 0, 0), (43, .iinc 4 1, 0, 0), (46, .iinc 5 1, 0, 0), (49, .goto (-43), 0, 0), (52, .iload 4, 0, 0), (54, .ireturn, 0, 0)]
noncomputable def tb_26 : List TE := [(0, .iconst 0, 0, 0), (1, .istore 4, 0, 0), (3, .iconst 0, 0, 0), (4, .istore 5, 0, 0), (6, .iload 5, 0, 0), (8, .aload_n 0, 0, 0), (9, .getfield 39, 1, 2), (12, .if_icmp .ge 32, 0, 0), (15, .aload_n 1, 0, 0), (16, .iload 5, 0, 0), (18, .invokevirtual 130, 3, 1), (21, .iload_n 2, 0, 0), (22, .if_icmp .ne 16, 0, 0), (25, .iload 4, 0, 0), (27, .aload_n 0, 0, 0), (28, .aload_n 1, 0, 0), (29, .iload 5, 0, 0), (31, .iload_n 3, 0, 0), (32, .invokevirtual 133, 25, 0), (35, .iadd, 0, 0), (36, .istore 4, 0, 0), (38, .iinc 5 1, 0, 0), (41, .goto (-35), 0, 0), (44, .iload 4, 0, 0), (46, .ireturn, 0, 0)]
noncomputable def tb_27 : List TE := [(0, .iconst 0, 0, 0), (1, .istore 4, 0, 0), (3, .iconst 0, 0, 0), (4, .istore 5, 0, 0), (6, .iload 5, 0, 0), (8, .aload_n 0, 0, 0), (9, .getfield 39, 1, 2), (12, .if_icmp .ge 39, 0, 0), (15, .aload_n 1, 0, 0), (16, .iload 5, 0, 0), (18, .invokevirtual 130, 3, 1), (21, .iload_n 2, 0, 0), (22, .if_icmp .ne 23, 0, 0), (25, .aload_n 0, 0, 0), (26, .aload_n 1, 0, 0), (27, .iload 5, 0, 0), (29, .iload_n 3, 0, 0), (30, .invokevirtual 133, 25, 0), (33, .ifCond .le 12, 0, 0), (36, .iload 4, 0, 0), (38, .iconst 1, 0, 0), (39, .iload 5, 0, 0), (41, .ishl, 0, 0), (42, .ior, 0, 0), (43, .istore 4, 0, 0), (45, .iinc 5 1, 0, 0), (48, .goto (-42), 0, 0), (51, .iload 4, 0, 0), (53, .ireturn, 0, 0)]
noncomputable def tb_28 : List TE := [(0, .iload_n 2, 0, 0), (1, .aload_n 0, 0, 0), (2, .getfield 19, 1, 9), (5, .iload_n 1, 0, 0), (6, .iaload, 0, 0), (7, .if_icmp .lt 18, 0, 0), (10, .iload_n 2, 0, 0), (11, .aload_n 0, 0, 0), (12, .getfield 9, 1, 3), (15, .irem, 0, 0), (16, .aload_n 0, 0, 0), (17, .getfield 15, 1, 8), (20, .iload_n 1, 0, 0), (21, .iaload, 0, 0), (22, .if_icmp .eq 5, 0, 0), (25, .iconst (-1), 0, 0), (26, .ireturn, 0, 0), (27, .iload_n 2, 0, 0), (28, .aload_n 0, 0, 0), (29, .getfield 19, 1, 9), (32, .iload_n 1, 0, 0), (33, .iaload, 0, 0), (34, .isub, 0, 0), (35, .aload_n 0, 0, 0), (36, .getfield 9, 1, 3), (39, .idiv, 0, 0), (40, .istore 4, 0, 0), (42, .iload 4, 0, 0), (44, .iload_n 3, 0, 0), (45, .if_icmp .ge 8, 0, 0), (48, .iload 4, 0, 0), (50, .goto 4, 0, 0), (53, .iconst (-1), 0, 0), (54, .ireturn, 0, 0)]
noncomputable def tb_29 : List TE := [(0, .iload_n 1, 0, 0), (1, .ifCond .gt 7, 0, 0), (4, .iconst 0, 0, 0), (5, .goto 16, 0, 0), (8, .aload_n 0, 0, 0), (9, .getfield 9, 1, 3), (12, .iload_n 1, 0, 0), (13, .iconst 1, 0, 0), (14, .isub, 0, 0), (15, .imul, 0, 0), (16, .aload_n 0, 0, 0), (17, .getfield 50, 1, 4), (20, .iadd, 0, 0), (21, .ireturn, 0, 0)]
noncomputable def tb_30 : List TE := [(0, .aload_n 0, 0, 0), (1, .iload_n 1, 0, 0), (2, .invokevirtual 137, 29, 0), (5, .istore_n 2, 0, 0), (6, .iload_n 1, 0, 0), (7, .aload_n 0, 0, 0), (8, .getfield 53, 1, 5), (11, .if_icmp .ge 7, 0, 0), (14, .iload_n 2, 0, 0), (15, .goto 18, 0, 0), (18, .iload_n 2, 0, 0), (19, .aload_n 0, 0, 0), (20, .getfield 9, 1, 3), (23, .aload_n 0, 0, 0), (24, .getfield 53, 1, 5), (27, .iconst 1, 0, 0), (28, .isub, 0, 0), (29, .imul, 0, 0), (30, .invokestatic 124, 319, 2), (33, .ireturn, 0, 0)]
noncomputable def tb_31 : List TE := [(0, .iload_n 1, 0, 0), (1, .aload_n 0, 0, 0), (2, .getfield 53, 1, 5), (5, .if_icmp .ge 5, 0, 0), (8, .iconst 0, 0, 0), (9, .ireturn, 0, 0), (10, .aload_n 0, 0, 0), (11, .getfield 9, 1, 3), (14, .iload_n 1, 0, 0), (15, .aload_n 0, 0, 0), (16, .getfield 53, 1, 5), (19, .isub, 0, 0), (20, .iconst 1, 0, 0), (21, .iadd, 0, 0), (22, .imul, 0, 0), (23, .aload_n 0, 0, 0), (24, .iload_n 1, 0, 0), (25, .invokevirtual 137, 29, 0), (28, .aload_n 0, 0, 0), (29, .iload_n 1, 0, 0), (30, .invokevirtual 140, 30, 0), (33, .isub, 0, 0), (34, .invokestatic 124, 319, 2), (37, .ireturn, 0, 0)]
noncomputable def tb_32 : List TE := [(0, .iload_n 1, 0, 0), (1, .aload_n 0, 0, 0), (2, .getfield 53, 1, 5), (5, .if_icmp .lt 10, 0, 0), (8, .aload_n 0, 0, 0), (9, .getfield 112, 1, 7), (12, .ifCond .gt 5, 0, 0), (15, .iload_n 1, 0, 0), (16, .ireturn, 0, 0), (17, .iload_n 1, 0, 0), (18, .aload_n 0, 0, 0), (19, .getfield 53, 1, 5), (22, .isub, 0, 0), (23, .iconst 1, 0, 0), (24, .iadd, 0, 0), (25, .aload_n 0, 0, 0), (26, .getfield 112, 1, 7), (29, .irem, 0, 0), (30, .ireturn, 0, 0)]
noncomputable def tb_33 : List TE := [(0, .iconst 0, 0, 0), (1, .istore_n 2, 0, 0), (2, .aload_n 0, 0, 0), (3, .iload_n 1, 0, 0), (4, .invokevirtual 137, 29, 0), (7, .istore_n 3, 0, 0), (8, .iconst 0, 0, 0), (9, .istore 4, 0, 0), (11, .iload 4, 0, 0), (13, .iload_n 3, 0, 0), (14, .if_icmp .ge 22, 0, 0), (17, .aload_n 0, 0, 0), (18, .iload 4, 0, 0), (20, .iload_n 1, 0, 0), (21, .invokevirtual 143, 34, 0), (24, .ifCond .ne 6, 0, 0), (27, .iinc 2 1, 0, 0), (30, .iinc 4 1, 0, 0), (33, .goto (-22), 0, 0), (36, .iload_n 2, 0, 0), (37, .ireturn, 0, 0)]
noncomputable def tb_34 : List TE := [(0, .iconst 0, 0, 0), (1, .istore_n 3, 0, 0), (2, .iload_n 3, 0, 0), (3, .aload_n 0, 0, 0), (4, .getfield 39, 1, 2), (7, .if_icmp .ge 22, 0, 0), (10, .aload_n 0, 0, 0), (11, .iload_n 3, 0, 0), (12, .iload_n 1, 0, 0), (13, .iload_n 2, 0, 0), (14, .invokevirtual 147, 28, 0), (17, .iconst (-1), 0, 0), (18, .if_icmp .eq 5, 0, 0), (21, .iconst 1, 0, 0), (22, .ireturn, 0, 0), (23, .iinc 3 1, 0, 0), (26, .goto (-24), 0, 0), (29, .iconst 0, 0, 0), (30, .ireturn, 0, 0)]
noncomputable def tb_35 : List TE := [(0, .iload_n 3, 0, 0), (1, .aload_n 0, 0, 0), (2, .getfield 22, 1, 10), (5, .iload_n 1, 0, 0), (6, .iaload, 0, 0), (7, .if_icmp .lt 12, 0, 0), (10, .aload_n 0, 0, 0), (11, .getfield 31, 1, 13), (14, .iload_n 1, 0, 0), (15, .iaload, 0, 0), (16, .ifCond .gt 5, 0, 0), (19, .iconst (-1), 0, 0), (20, .ireturn, 0, 0), (21, .iload 4, 0, 0), (23, .iconst 1, 0, 0), (24, .isub, 0, 0), (25, .iload_n 3, 0, 0), (26, .aload_n 0, 0, 0), (27, .getfield 22, 1, 10), (30, .iload_n 1, 0, 0), (31, .iaload, 0, 0), (32, .isub, 0, 0), (33, .aload_n 0, 0, 0), (34, .getfield 9, 1, 3), (37, .idiv, 0, 0), (38, .invokestatic 124, 319, 2), (41, .istore 5, 0, 0), (43, .iload 5, 0, 0), (45, .iload 5, 0, 0), (47, .iload_n 2, 0, 0), (48, .isub, 0, 0), (49, .aload_n 0, 0, 0), (50, .getfield 31, 1, 13), (53, .iload_n 1, 0, 0), (54, .iaload, 0, 0), (55, .invokestatic 118, 317, 2), (58, .isub, 0, 0), (59, .istore 5, 0, 0), (61, .iload 5, 0, 0), (63, .ifCond .ge 7, 0, 0), (66, .iconst (-1), 0, 0), (67, .goto 5, 0, 0), (70, .iload 5, 0, 0), (72, .ireturn, 0, 0)]
noncomputable def tb_36 : List TE := [(0, .aload_n 0, 0, 0), (1, .invokespecial 3, 0, 6), (4, .aload_n 0, 0, 0), (5, .bipush 8, 0, 0), (7, .newarray .int, 0, 0), (9, .putfield 9, 2, 4), (12, .aload_n 0, 0, 0), (13, .bipush 8, 0, 0), (15, .newarray .int, 0, 0), (17, .putfield 15, 2, 5), (20, .aload_n 0, 0, 0), (21, .bipush 12, 0, 0), (23, .newarray .int, 0, 0), (25, .putfield 18, 2, 6), (28, .aload_n 0, 0, 0), (29, .bipush 8, 0, 0), (31, .newarray .int, 0, 0), (33, .putfield 21, 2, 7), (36, .return_, 0, 0)]
noncomputable def tb_37 : List TE := [(0, .aload_n 0, 0, 0), (1, .getfield 24, 2, 0), (4, .iload 4, 0, 0), (6, .if_icmp .ne 4, 0, 0), (9, .return_, 0, 0), (10, .aload_n 0, 0, 0), (11, .iload 4, 0, 0), (13, .putfield 24, 2, 0), (16, .aload_n 0, 0, 0), (17, .iconst 0, 0, 0), (18, .putfield 28, 2, 1), (21, .aload_n 0, 0, 0), (22, .iconst 0, 0, 0), (23, .putfield 32, 2, 2), (26, .aload_n 0, 0, 0), (27, .iconst 0, 0, 0), (28, .putfield 35, 2, 3), (31, .iconst 0, 0, 0), (32, .istore 5, 0, 0), (34, .iload 5, 0, 0), (36, .aload_n 1, 0, 0), (37, .getfield 38, 0, 0), (40, .if_icmp .ge 53, 0, 0), (43, .aload_n 0, 0, 0), (44, .getfield 15, 2, 5), (47, .iload 5, 0, 0), (49, .iconst (-1), 0, 0), (50, .iastore, 0, 0), (51, .aload_n 0, 0, 0), (52, .getfield 21, 2, 7), (55, .iload 5, 0, 0), (57, .aload_n 3, 0, 0), (58, .iload 5, 0, 0), (60, .invokevirtual 43, 61, 1), (63, .iastore, 0, 0), (64, .aload_n 0, 0, 0), (65, .aload_n 1, 0, 0), (66, .aload_n 1, 0, 0), (67, .iload 5, 0, 0), (69, .invokevirtual 49, 3, 1), (72, .invokevirtual 52, 41, 0), (75, .aload_n 0, 0, 0), (76, .aload_n 1, 0, 0), (77, .iload 5, 0, 0), (79, .iconst 0, 0, 0), (80, .invokevirtual 56, 43, 0), (83, .ifCond .ne 4, 0, 0), (86, .return_, 0, 0), (87, .iinc 5 1, 0, 0), (90, .goto (-56), 0, 0), (93, .iconst 1, 0, 0), (94, .aload_n 1, 0, 0), (95, .getfield 38, 0, 0), (98, .ishl, 0, 0), (99, .iconst 1, 0, 0), (100, .isub, 0, 0), (101, .istore 5, 0, 0), (103, .aload_n 0, 0, 0), (104, .getfield 32, 2, 2), (107, .bipush 6, 0, 0), (109, .aload_n 1, 0, 0), (110, .getfield 38, 0, 0), (113, .imul, 0, 0), (114, .if_icmp .ge 39, 0, 0), (117, .aload_n 0, 0, 0), (118, .getfield 35, 2, 3), (121, .iload 5, 0, 0), (123, .if_icmp .eq 30, 0, 0), (126, .aload_n 0, 0, 0), (127, .aload_n 1, 0, 0), (128, .aload_n 2, 0, 0), (129, .aload_n 0, 0, 0), (130, .aload_n 1, 0, 0), (131, .getfield 38, 0, 0), (134, .invokevirtual 60, 38, 0), (137, .invokevirtual 63, 39, 0), (140, .aload_n 0, 0, 0), (141, .dup, 0, 0), (142, .getfield 32, 2, 2), (145, .iconst 1, 0, 0), (146, .iadd, 0, 0), (147, .putfield 32, 2, 2), (150, .goto (-47), 0, 0), (153, .aload_n 0, 0, 0), (154, .aload_n 0, 0, 0), (155, .getfield 35, 2, 3), (158, .iload 5, 0, 0), (160, .if_icmp .ne 7, 0, 0), (163, .iconst 1, 0, 0), (164, .goto 4, 0, 0), (167, .iconst 0, 0, 0), (168, .putfield 28, 2, 1), (171, .return_, 0, 0)]
noncomputable def tb_38 : List TE := [(0, .iconst 0, 0, 0), (1, .istore_n 2, 0, 0), (2, .iconst (-1), 0, 0), (3, .istore_n 3, 0, 0), (4, .iconst 0, 0, 0), (5, .istore 4, 0, 0), (7, .iload 4, 0, 0), (9, .iload_n 1, 0, 0), (10, .if_icmp .ge 43, 0, 0), (13, .aload_n 0, 0, 0), (14, .getfield 35, 2, 3), (17, .iconst 1, 0, 0), (18, .iload 4, 0, 0), (20, .ishl, 0, 0), (21, .iand, 0, 0), (22, .ifCond .ne 25, 0, 0), (25, .aload_n 0, 0, 0), (26, .getfield 21, 2, 7), (29, .iload 4, 0, 0), (31, .iaload, 0, 0), (32, .iload_n 3, 0, 0), (33, .if_icmp .le 14, 0, 0), (36, .aload_n 0, 0, 0), (37, .getfield 21, 2, 7), (40, .iload 4, 0, 0), (42, .iaload, 0, 0), (43, .istore_n 3, 0, 0), (44, .iload 4, 0, 0), (46, .istore_n 2, 0, 0), (47, .iinc 4 1, 0, 0), (50, .goto (-43), 0, 0), (53, .iload_n 2, 0, 0), (54, .ireturn, 0, 0)]
noncomputable def tb_39 : List TE := [(0, .aload_n 0, 0, 0), (1, .aload_n 2, 0, 0), (2, .iload_n 3, 0, 0), (3, .invokevirtual 67, 40, 0), (6, .istore 4, 0, 0), (8, .aload_n 0, 0, 0), (9, .aload_n 1, 0, 0), (10, .aload_n 1, 0, 0), (11, .iload_n 3, 0, 0), (12, .invokevirtual 49, 3, 1), (15, .invokevirtual 52, 41, 0), (18, .iload 4, 0, 0), (20, .istore 5, 0, 0), (22, .iload 5, 0, 0), (24, .iload 4, 0, 0), (26, .aload_n 0, 0, 0), (27, .getfield 24, 2, 0), (30, .iadd, 0, 0), (31, .if_icmp .ge 20, 0, 0), (34, .aload_n 0, 0, 0), (35, .aload_n 1, 0, 0), (36, .iload_n 3, 0, 0), (37, .iload 5, 0, 0), (39, .invokevirtual 56, 43, 0), (42, .ifCond .ne 9, 0, 0), (45, .iinc 5 1, 0, 0), (48, .goto (-26), 0, 0), (51, .iload 5, 0, 0), (53, .iload 4, 0, 0), (55, .aload_n 0, 0, 0), (56, .getfield 24, 2, 0), (59, .iadd, 0, 0), (60, .if_icmp .lt 7, 0, 0), (63, .iconst 1, 0, 0), (64, .goto 4, 0, 0), (67, .iconst 0, 0, 0), (68, .istore 6, 0, 0), (70, .iload 6, 0, 0), (72, .ifCond .eq 18, 0, 0), (75, .iload 4, 0, 0), (77, .aload_n 0, 0, 0), (78, .getfield 15, 2, 5), (81, .iload_n 3, 0, 0), (82, .iaload, 0, 0), (83, .iconst 1, 0, 0), (84, .iadd, 0, 0), (85, .invokestatic 71, 318, 2), (88, .istore 5, 0, 0), (90, .aload_n 0, 0, 0), (91, .getfield 9, 2, 4), (94, .iload_n 3, 0, 0), (95, .iload 5, 0, 0), (97, .iastore, 0, 0), (98, .aload_n 0, 0, 0), (99, .getfield 15, 2, 5), (102, .iload_n 3, 0, 0), (103, .iload 5, 0, 0), (105, .iastore, 0, 0), (106, .aload_n 0, 0, 0), (107, .dup, 0, 0), (108, .getfield 35, 2, 3), (111, .iconst 1, 0, 0), (112, .iload_n 3, 0, 0), (113, .ishl, 0, 0), (114, .ior, 0, 0), (115, .putfield 35, 2, 3), (118, .iload 6, 0, 0), (120, .ifCond .eq 9, 0, 0), (123, .aload_n 0, 0, 0), (124, .aload_n 1, 0, 0), (125, .iload_n 3, 0, 0), (126, .invokevirtual 77, 45, 0), (129, .aload_n 0, 0, 0), (130, .aload_n 2, 0, 0), (131, .iload_n 3, 0, 0), (132, .invokevirtual 80, 48, 0), (135, .return_, 0, 0)]
noncomputable def tb_40 : List TE := [(0, .iconst 0, 0, 0), (1, .istore_n 3, 0, 0), (2, .iconst 0, 0, 0), (3, .istore 4, 0, 0), (5, .iload 4, 0, 0), (7, .aload_n 1, 0, 0), (8, .getfield 84, 7, 0), (11, .if_icmp .ge 80, 0, 0), (14, .aload_n 1, 0, 0), (15, .getfield 87, 7, 1), (18, .iload 4, 0, 0), (20, .iaload, 0, 0), (21, .istore 5, 0, 0), (23, .aload_n 1, 0, 0), (24, .getfield 90, 7, 2), (27, .iload 4, 0, 0), (29, .iaload, 0, 0), (30, .iload_n 2, 0, 0), (31, .if_icmp .ne 54, 0, 0), (34, .iload 5, 0, 0), (36, .iload_n 2, 0, 0), (37, .if_icmp .eq 48, 0, 0), (40, .aload_n 0, 0, 0), (41, .getfield 35, 2, 3), (44, .iconst 1, 0, 0), (45, .iload 5, 0, 0), (47, .ishl, 0, 0), (48, .iand, 0, 0), (49, .ifCond .eq 36, 0, 0), (52, .iload_n 3, 0, 0), (53, .aload_n 0, 0, 0), (54, .getfield 9, 2, 4), (57, .iload 5, 0, 0), (59, .iaload, 0, 0), (60, .aload_n 1, 0, 0), (61, .getfield 93, 7, 4), (64, .iload 4, 0, 0), (66, .iaload, 0, 0), (67, .iadd, 0, 0), (68, .aload_n 0, 0, 0), (69, .getfield 24, 2, 0), (72, .aload_n 1, 0, 0), (73, .getfield 96, 7, 3), (76, .iload 4, 0, 0), (78, .iaload, 0, 0), (79, .imul, 0, 0), (80, .isub, 0, 0), (81, .invokestatic 71, 318, 2), (84, .istore_n 3, 0, 0), (85, .iinc 4 1, 0, 0), (88, .goto (-83), 0, 0), (91, .iload_n 3, 0, 0), (92, .ireturn, 0, 0)]
noncomputable def tb_41 : List TE := [(0, .aload_n 0, 0, 0), (1, .getfield 18, 2, 6), (4, .iconst 0, 0, 0), (5, .invokestatic 99, 320, 2), (8, .iconst 0, 0, 0), (9, .istore_n 3, 0, 0), (10, .iload_n 3, 0, 0), (11, .aload_n 1, 0, 0), (12, .getfield 38, 0, 0), (15, .if_icmp .ge 45, 0, 0), (18, .aload_n 0, 0, 0), (19, .getfield 35, 2, 3), (22, .iconst 1, 0, 0), (23, .iload_n 3, 0, 0), (24, .ishl, 0, 0), (25, .iand, 0, 0), (26, .ifCond .eq 28, 0, 0), (29, .aload_n 1, 0, 0), (30, .iload_n 3, 0, 0), (31, .invokevirtual 49, 3, 1), (34, .iload_n 2, 0, 0), (35, .if_icmp .ne 19, 0, 0), (38, .aload_n 0, 0, 0), (39, .aload_n 1, 0, 0), (40, .iload_n 3, 0, 0), (41, .invokevirtual 105, 4, 1), (44, .aload_n 0, 0, 0), (45, .getfield 9, 2, 4), (48, .iload_n 3, 0, 0), (49, .iaload, 0, 0), (50, .iconst 1, 0, 0), (51, .invokevirtual 108, 42, 0), (54, .iinc 3 1, 0, 0), (57, .goto (-47), 0, 0), (60, .return_, 0, 0)]
noncomputable def tb_42 : List TE := [(0, .iconst 0, 0, 0), (1, .istore 4, 0, 0), (3, .iload 4, 0, 0), (5, .iconst 4, 0, 0), (6, .if_icmp .ge 36, 0, 0), (9, .iload_n 1, 0, 0), (10, .iconst 1, 0, 0), (11, .iload 4, 0, 0), (13, .ishl, 0, 0), (14, .iand, 0, 0), (15, .ifCond .eq 21, 0, 0), (18, .aload_n 0, 0, 0), (19, .getfield 18, 2, 6), (22, .iload_n 2, 0, 0), (23, .iload 4, 0, 0), (25, .iadd, 0, 0), (26, .aload_n 0, 0, 0), (27, .getfield 24, 2, 0), (30, .irem, 0, 0), (31, .dup2, 0, 0), (32, .iaload, 0, 0), (33, .iload_n 3, 0, 0), (34, .iadd, 0, 0), (35, .iastore, 0, 0), (36, .iinc 4 1, 0, 0), (39, .goto (-36), 0, 0), (42, .return_, 0, 0)]
noncomputable def tb_43 : List TE := [(0, .aload_n 1, 0, 0), (1, .iload_n 2, 0, 0), (2, .invokevirtual 105, 4, 1), (5, .istore 4, 0, 0), (7, .aload_n 0, 0, 0), (8, .iload 4, 0, 0), (10, .iload_n 3, 0, 0), (11, .iconst 1, 0, 0), (12, .invokevirtual 108, 42, 0), (15, .aload_n 0, 0, 0), (16, .iload 4, 0, 0), (18, .iload_n 3, 0, 0), (19, .aload_n 1, 0, 0), (20, .getfield 112, 0, 7), (23, .aload_n 1, 0, 0), (24, .iload_n 2, 0, 0), (25, .invokevirtual 49, 3, 1), (28, .iaload, 0, 0), (29, .invokevirtual 115, 44, 0), (32, .ifCond .ne 7, 0, 0), (35, .iconst 1, 0, 0), (36, .goto 4, 0, 0), (39, .iconst 0, 0, 0), (40, .istore 5, 0, 0), (42, .aload_n 0, 0, 0), (43, .iload 4, 0, 0), (45, .iload_n 3, 0, 0), (46, .iconst (-1), 0, 0), (47, .invokevirtual 108, 42, 0), (50, .iload 5, 0, 0), (52, .ireturn, 0, 0)]
noncomputable def tb_44 : List TE := [(0, .iconst 0, 0, 0), (1, .istore 4, 0, 0), (3, .iload 4, 0, 0), (5, .iconst 4, 0, 0), (6, .if_icmp .ge 38, 0, 0), (9, .iload_n 1, 0, 0), (10, .iconst 1, 0, 0), (11, .iload 4, 0, 0), (13, .ishl, 0, 0), (14, .iand, 0, 0), (15, .ifCond .eq 23, 0, 0), (18, .aload_n 0, 0, 0), (19, .getfield 18, 2, 6), (22, .iload_n 2, 0, 0), (23, .iload 4, 0, 0), (25, .iadd, 0, 0), (26, .aload_n 0, 0, 0), (27, .getfield 24, 2, 0), (30, .irem, 0, 0), (31, .iaload, 0, 0), (32, .iload_n 3, 0, 0), (33, .if_icmp .le 5, 0, 0), (36, .iconst 1, 0, 0), (37, .ireturn, 0, 0), (38, .iinc 4 1, 0, 0), (41, .goto (-38), 0, 0), (44, .iconst 0, 0, 0), (45, .ireturn, 0, 0)]
noncomputable def tb_45 : List TE := [(0, .aload_n 1, 0, 0), (1, .iload_n 2, 0, 0), (2, .invokevirtual 49, 3, 1), (5, .istore_n 3, 0, 0), (6, .aload_n 0, 0, 0), (7, .aload_n 1, 0, 0), (8, .iload_n 3, 0, 0), (9, .invokevirtual 52, 41, 0), (12, .iconst 0, 0, 0), (13, .istore 4, 0, 0), (15, .iload 4, 0, 0), (17, .aload_n 1, 0, 0), (18, .getfield 38, 0, 0), (21, .if_icmp .ge 93, 0, 0), (24, .iload 4, 0, 0), (26, .iload_n 2, 0, 0), (27, .if_icmp .eq 17, 0, 0), (30, .aload_n 1, 0, 0), (31, .iload 4, 0, 0), (33, .invokevirtual 49, 3, 1), (36, .iload_n 3, 0, 0), (37, .if_icmp .ne 7, 0, 0), (40, .iconst 1, 0, 0), (41, .goto 4, 0, 0), (44, .iconst 0, 0, 0), (45, .istore 5, 0, 0), (47, .iload 5, 0, 0), (49, .ifCond .eq 59, 0, 0), (52, .aload_n 0, 0, 0), (53, .getfield 35, 2, 3), (56, .iconst 1, 0, 0), (57, .iload 4, 0, 0), (59, .ishl, 0, 0), (60, .iand, 0, 0), (61, .ifCond .eq 47, 0, 0), (64, .aload_n 0, 0, 0), (65, .aload_n 1, 0, 0), (66, .iload_n 2, 0, 0), (67, .iload 4, 0, 0), (69, .invokevirtual 119, 46, 0), (72, .ifCond .eq 36, 0, 0), (75, .aload_n 0, 0, 0), (76, .dup, 0, 0), (77, .getfield 35, 2, 3), (80, .iconst 1, 0, 0), (81, .iload 4, 0, 0), (83, .ishl, 0, 0), (84, .iconst (-1), 0, 0), (85, .ixor, 0, 0), (86, .iand, 0, 0), (87, .putfield 35, 2, 3), (90, .aload_n 0, 0, 0), (91, .aload_n 1, 0, 0), (92, .iload 4, 0, 0), (94, .invokevirtual 105, 4, 1), (97, .aload_n 0, 0, 0), (98, .getfield 9, 2, 4), (101, .iload 4, 0, 0), (103, .iaload, 0, 0), (104, .iconst (-1), 0, 0), (105, .invokevirtual 108, 42, 0), (108, .iinc 4 1, 0, 0), (111, .goto (-96), 0, 0), (114, .return_, 0, 0)]
noncomputable def tb_46 : List TE := [(0, .aload_n 1, 0, 0), (1, .getfield 112, 0, 7), (4, .aload_n 1, 0, 0), (5, .iload_n 2, 0, 0), (6, .invokevirtual 49, 3, 1), (9, .iaload, 0, 0), (10, .istore 4, 0, 0), (12, .aload_n 0, 0, 0), (13, .aload_n 1, 0, 0), (14, .iload_n 2, 0, 0), (15, .invokevirtual 122, 47, 0), (18, .aload_n 0, 0, 0), (19, .aload_n 1, 0, 0), (20, .iload_n 3, 0, 0), (21, .invokevirtual 122, 47, 0), (24, .iand, 0, 0), (25, .istore 5, 0, 0), (27, .iconst 0, 0, 0), (28, .istore 6, 0, 0), (30, .iload 6, 0, 0), (32, .aload_n 0, 0, 0), (33, .getfield 24, 2, 0), (36, .if_icmp .ge 33, 0, 0), (39, .iload 5, 0, 0), (41, .iconst 1, 0, 0), (42, .iload 6, 0, 0), (44, .ishl, 0, 0), (45, .iand, 0, 0), (46, .ifCond .eq 17, 0, 0), (49, .aload_n 0, 0, 0), (50, .getfield 18, 2, 6), (53, .iload 6, 0, 0), (55, .iaload, 0, 0), (56, .iload 4, 0, 0), (58, .if_icmp .le 5, 0, 0), (61, .iconst 1, 0, 0), (62, .ireturn, 0, 0), (63, .iinc 6 1, 0, 0), (66, .goto (-36), 0, 0), (69, .iconst 0, 0, 0), (70, .ireturn, 0, 0)]
noncomputable def tb_47 : List TE := [(0, .iconst 0, 0, 0), (1, .istore_n 3, 0, 0), (2, .iconst 0, 0, 0), (3, .istore 4, 0, 0), (5, .iload 4, 0, 0), (7, .iconst 4, 0, 0), (8, .if_icmp .ge 41, 0, 0), (11, .aload_n 1, 0, 0), (12, .iload_n 2, 0, 0), (13, .invokevirtual 105, 4, 1), (16, .iconst 1, 0, 0), (17, .iload 4, 0, 0), (19, .ishl, 0, 0), (20, .iand, 0, 0), (21, .ifCond .eq 22, 0, 0), (24, .iload_n 3, 0, 0), (25, .iconst 1, 0, 0), (26, .aload_n 0, 0, 0), (27, .getfield 9, 2, 4), (30, .iload_n 2, 0, 0), (31, .iaload, 0, 0), (32, .iload 4, 0, 0), (34, .iadd, 0, 0), (35, .aload_n 0, 0, 0), (36, .getfield 24, 2, 0), (39, .irem, 0, 0), (40, .ishl, 0, 0), (41, .ior, 0, 0), (42, .istore_n 3, 0, 0), (43, .iinc 4 1, 0, 0), (46, .goto (-41), 0, 0), (49, .iload_n 3, 0, 0), (50, .ireturn, 0, 0)]
noncomputable def tb_48 : List TE := [(0, .iconst 0, 0, 0), (1, .istore_n 3, 0, 0), (2, .iload_n 3, 0, 0), (3, .aload_n 1, 0, 0), (4, .getfield 84, 7, 0), (7, .if_icmp .ge 146, 0, 0), (10, .aload_n 1, 0, 0), (11, .getfield 87, 7, 1), (14, .iload_n 3, 0, 0), (15, .iaload, 0, 0), (16, .istore 4, 0, 0), (18, .aload_n 1, 0, 0), (19, .getfield 90, 7, 2), (22, .iload_n 3, 0, 0), (23, .iaload, 0, 0), (24, .istore 5, 0, 0), (26, .iconst 1, 0, 0), (27, .iload 4, 0, 0), (29, .ishl, 0, 0), (30, .iconst 1, 0, 0), (31, .iload 5, 0, 0), (33, .ishl, 0, 0), (34, .ior, 0, 0), (35, .istore 6, 0, 0), (37, .iload 4, 0, 0), (39, .iload_n 2, 0, 0), (40, .if_icmp .ne 7, 0, 0), (43, .iconst 1, 0, 0), (44, .goto 4, 0, 0), (47, .iconst 0, 0, 0), (48, .iload 5, 0, 0), (50, .iload_n 2, 0, 0), (51, .if_icmp .ne 7, 0, 0), (54, .iconst 1, 0, 0), (55, .goto 4, 0, 0), (58, .iconst 0, 0, 0), (59, .if_icmp .eq 19, 0, 0), (62, .aload_n 0, 0, 0), (63, .getfield 35, 2, 3), (66, .iload 6, 0, 0), (68, .iand, 0, 0), (69, .iload 6, 0, 0), (71, .if_icmp .ne 7, 0, 0), (74, .iconst 1, 0, 0), (75, .goto 4, 0, 0), (78, .iconst 0, 0, 0), (79, .istore 7, 0, 0), (81, .iload 7, 0, 0), (83, .ifCond .eq 64, 0, 0), (86, .aload_n 0, 0, 0), (87, .getfield 9, 2, 4), (90, .iload 5, 0, 0), (92, .iaload, 0, 0), (93, .aload_n 0, 0, 0), (94, .getfield 9, 2, 4), (97, .iload 4, 0, 0), (99, .iaload, 0, 0), (100, .aload_n 1, 0, 0), (101, .getfield 93, 7, 4), (104, .iload_n 3, 0, 0), (105, .iaload, 0, 0), (106, .iadd, 0, 0), (107, .aload_n 0, 0, 0), (108, .getfield 24, 2, 0), (111, .aload_n 1, 0, 0), (112, .getfield 96, 7, 3), (115, .iload_n 3, 0, 0), (116, .iaload, 0, 0), (117, .imul, 0, 0), (118, .isub, 0, 0), (119, .if_icmp .ge 28, 0, 0), (122, .aload_n 0, 0, 0), (123, .dup, 0, 0), (124, .getfield 35, 2, 3), (127, .iload 6, 0, 0), (129, .iconst (-1), 0, 0), (130, .ixor, 0, 0), (131, .iand, 0, 0), (132, .putfield 35, 2, 3), (135, .aload_n 0, 0, 0), (136, .dup, 0, 0), (137, .getfield 35, 2, 3), (140, .iconst 1, 0, 0), (141, .iload_n 2, 0, 0), (142, .ishl, 0, 0), (143, .ior, 0, 0), (144, .putfield 35, 2, 3), (147, .iinc 3 1, 0, 0), (150, .goto (-148), 0, 0), (153, .return_, 0, 0)]
noncomputable def tb_49 : List TE := [(0, .aload_n 0, 0, 0), (1, .invokespecial 3, 0, 6), (4, .aload_n 0, 0, 0), (5, .sipush 1024, 0, 0), (8, .newarray .int, 0, 0), (10, .putfield 11, 3, 0), (13, .return_, 0, 0)]
noncomputable def tb_50 : List TE := [(0, .aload_n 0, 0, 0), (1, .iload 4, 0, 0), (3, .putfield 15, 3, 1), (6, .aload_n 0, 0, 0), (7, .iload 5, 0, 0), (9, .putfield 19, 3, 2), (12, .sipush 1024, 0, 0), (15, .aload_n 2, 0, 0), (16, .iload_n 3, 0, 0), (17, .invokevirtual 22, 29, 1), (20, .invokestatic 28, 319, 2), (23, .istore 6, 0, 0), (25, .iconst 0, 0, 0), (26, .istore 7, 0, 0), (28, .iconst 0, 0, 0), (29, .istore 8, 0, 0), (31, .iload 8, 0, 0), (33, .iload 6, 0, 0), (35, .if_icmp .ge 73, 0, 0), (38, .iconst 0, 0, 0), (39, .istore 9, 0, 0), (41, .iload 9, 0, 0), (43, .aload_n 2, 0, 0), (44, .getfield 34, 1, 2), (47, .if_icmp .ge 46, 0, 0), (50, .aload_n 2, 0, 0), (51, .iload 9, 0, 0), (53, .iload 8, 0, 0), (55, .iload_n 3, 0, 0), (56, .invokevirtual 37, 28, 1), (59, .istore 10, 0, 0), (61, .iload 10, 0, 0), (63, .iconst (-1), 0, 0), (64, .if_icmp .eq 23, 0, 0), (67, .iload 7, 0, 0), (69, .aload_n 0, 0, 0), (70, .aload_n 1, 0, 0), (71, .aload_n 2, 0, 0), (72, .iload 9, 0, 0), (74, .iload 10, 0, 0), (76, .invokevirtual 41, 51, 0), (79, .iload 8, 0, 0), (81, .isub, 0, 0), (82, .invokestatic 45, 318, 2), (85, .istore 7, 0, 0), (87, .iinc 9 1, 0, 0), (90, .goto (-49), 0, 0), (93, .aload_n 0, 0, 0), (94, .getfield 11, 3, 0), (97, .iload 8, 0, 0), (99, .iload 7, 0, 0), (101, .iastore, 0, 0), (102, .iinc 8 1, 0, 0), (105, .goto (-74), 0, 0), (108, .iload 7, 0, 0), (110, .ireturn, 0, 0)]
noncomputable def tb_51 : List TE := [(0, .iconst 0, 0, 0), (1, .istore 5, 0, 0), (3, .iconst 0, 0, 0), (4, .istore 6, 0, 0), (6, .iload 6, 0, 0), (8, .aload_n 1, 0, 0), (9, .iload_n 3, 0, 0), (10, .invokevirtual 48, 5, 1), (13, .if_icmp .ge 57, 0, 0), (16, .aload_n 1, 0, 0), (17, .iload_n 3, 0, 0), (18, .iload 6, 0, 0), (20, .invokevirtual 53, 6, 1), (23, .istore 7, 0, 0), (25, .iload 4, 0, 0), (27, .aload_n 1, 0, 0), (28, .iload_n 3, 0, 0), (29, .iload 6, 0, 0), (31, .invokevirtual 56, 7, 1), (34, .isub, 0, 0), (35, .istore 8, 0, 0), (37, .iload 7, 0, 0), (39, .ifCond .lt 25, 0, 0), (42, .iload 8, 0, 0), (44, .ifCond .lt 20, 0, 0), (47, .iload 5, 0, 0), (49, .aload_n 0, 0, 0), (50, .aload_n 1, 0, 0), (51, .aload_n 2, 0, 0), (52, .iload 7, 0, 0), (54, .iload 8, 0, 0), (56, .invokevirtual 59, 52, 0), (59, .invokestatic 45, 318, 2), (62, .istore 5, 0, 0), (64, .iinc 6 1, 0, 0), (67, .goto (-61), 0, 0), (70, .iload 5, 0, 0), (72, .ireturn, 0, 0)]
noncomputable def tb_52 : List TE := [(0, .aload_n 2, 0, 0), (1, .getfield 62, 1, 9), (4, .iload_n 3, 0, 0), (5, .iaload, 0, 0), (6, .aload_n 2, 0, 0), (7, .getfield 65, 1, 3), (10, .iload 4, 0, 0), (12, .imul, 0, 0), (13, .iadd, 0, 0), (14, .istore 5, 0, 0), (16, .iload 5, 0, 0), (18, .ifCond .lt 11, 0, 0), (21, .iload 5, 0, 0), (23, .sipush 1024, 0, 0), (26, .if_icmp .lt 5, 0, 0), (29, .iconst 0, 0, 0), (30, .ireturn, 0, 0), (31, .iload 5, 0, 0), (33, .aload_n 0, 0, 0), (34, .getfield 11, 3, 0), (37, .iload 5, 0, 0), (39, .iaload, 0, 0), (40, .iadd, 0, 0), (41, .aload_n 1, 0, 0), (42, .iload_n 3, 0, 0), (43, .invokevirtual 68, 2, 1), (46, .iadd, 0, 0), (47, .istore 6, 0, 0), (49, .aload_n 1, 0, 0), (50, .getfield 71, 0, 1), (53, .iload_n 3, 0, 0), (54, .iaload, 0, 0), (55, .iconst 4, 0, 0), (56, .if_icmp .ne 7, 0, 0), (59, .iconst 1, 0, 0), (60, .goto 4, 0, 0), (63, .iconst 0, 0, 0), (64, .istore 7, 0, 0), (66, .iload 7, 0, 0), (68, .ifCond .eq 35, 0, 0), (71, .aload_n 0, 0, 0), (72, .getfield 15, 3, 1), (75, .ifCond .le 28, 0, 0), (78, .iload 4, 0, 0), (80, .aload_n 1, 0, 0), (81, .iload_n 3, 0, 0), (82, .invokevirtual 74, 9, 1), (85, .iadd, 0, 0), (86, .aload_n 0, 0, 0), (87, .getfield 15, 3, 1), (90, .irem, 0, 0), (91, .ifCond .ne 12, 0, 0), (94, .iload 6, 0, 0), (96, .aload_n 0, 0, 0), (97, .getfield 19, 3, 2), (100, .iadd, 0, 0), (101, .istore 6, 0, 0), (103, .iload 6, 0, 0), (105, .ireturn, 0, 0)]
noncomputable def tb_53 : List TE := [(0, .aload_n 0, 0, 0), (1, .invokespecial 3, 0, 6), (4, .aload_n 0, 0, 0), (5, .iconst 2, 0, 0), (6, .bipush 64, 0, 0), (8, .multianewarray 9 2, 0, 0), (12, .putfield 11, 4, 0), (15, .aload_n 0, 0, 0), (16, .sipush 320, 0, 0), (19, .newarray .int, 0, 0), (21, .putfield 16, 4, 1), (24, .return_, 0, 0)]
noncomputable def tb_54 : List TE := [(0, .iconst 0, 0, 0), (1, .istore_n 3, 0, 0), (2, .iload_n 3, 0, 0), (3, .bipush 64, 0, 0), (5, .if_icmp .ge 36, 0, 0), (8, .aload_n 0, 0, 0), (9, .getfield 11, 4, 0), (12, .iconst 0, 0, 0), (13, .aaload, 0, 0), (14, .iload_n 3, 0, 0), (15, .iconst 3, 0, 0), (16, .iload_n 3, 0, 0), (17, .imul, 0, 0), (18, .iconst 1, 0, 0), (19, .iadd, 0, 0), (20, .iastore, 0, 0), (21, .aload_n 0, 0, 0), (22, .getfield 11, 4, 0), (25, .iconst 1, 0, 0), (26, .aaload, 0, 0), (27, .iload_n 3, 0, 0), (28, .bipush 7, 0, 0), (30, .iload_n 3, 0, 0), (31, .imul, 0, 0), (32, .iconst 5, 0, 0), (33, .isub, 0, 0), (34, .iastore, 0, 0), (35, .iinc 3 1, 0, 0), (38, .goto (-36), 0, 0), (41, .iconst 0, 0, 0), (42, .istore_n 3, 0, 0), (43, .iload_n 3, 0, 0), (44, .iload_n 2, 0, 0), (45, .if_icmp .ge 47, 0, 0), (48, .iconst 0, 0, 0), (49, .istore 4, 0, 0), (51, .iload 4, 0, 0), (53, .aload_n 1, 0, 0), (54, .getfield 20, 0, 0), (57, .if_icmp .ge 29, 0, 0), (60, .aload_n 0, 0, 0), (61, .getfield 16, 4, 1), (64, .iload 4, 0, 0), (66, .bipush 40, 0, 0), (68, .imul, 0, 0), (69, .iload_n 3, 0, 0), (70, .iadd, 0, 0), (71, .aload_n 0, 0, 0), (72, .aload_n 1, 0, 0), (73, .iload 4, 0, 0), (75, .iload_n 3, 0, 0), (76, .invokevirtual 26, 55, 0), (79, .iastore, 0, 0), (80, .iinc 4 1, 0, 0), (83, .goto (-32), 0, 0), (86, .iinc 3 1, 0, 0), (89, .goto (-46), 0, 0), (92, .return_, 0, 0)]
noncomputable def tb_55 : List TE := [(0, .aload_n 1, 0, 0), (1, .getfield 30, 0, 1), (4, .iload_n 2, 0, 0), (5, .iaload, 0, 0), (6, .istore 4, 0, 0), (8, .iload 4, 0, 0), (10, .iconst 4, 0, 0), (11, .if_icmp .ne 22, 0, 0), (14, .aload_n 0, 0, 0), (15, .getfield 11, 4, 0), (18, .aload_n 1, 0, 0), (19, .iload_n 2, 0, 0), (20, .invokevirtual 33, 8, 1), (23, .aaload, 0, 0), (24, .iload_n 3, 0, 0), (25, .aload_n 1, 0, 0), (26, .iload_n 2, 0, 0), (27, .invokevirtual 37, 9, 1), (30, .iadd, 0, 0), (31, .iaload, 0, 0), (32, .ireturn, 0, 0), (33, .aload_n 0, 0, 0), (34, .aload_n 1, 0, 0), (35, .iload_n 2, 0, 0), (36, .iconst 0, 0, 0), (37, .iload_n 3, 0, 0), (38, .invokevirtual 40, 56, 0), (41, .istore 5, 0, 0), (43, .iload 4, 0, 0), (45, .iconst 5, 0, 0), (46, .if_icmp .ne 26, 0, 0), (49, .aload_n 0, 0, 0), (50, .getfield 11, 4, 0), (53, .aload_n 1, 0, 0), (54, .iload_n 2, 0, 0), (55, .invokevirtual 33, 8, 1), (58, .aaload, 0, 0), (59, .iload_n 3, 0, 0), (60, .aload_n 1, 0, 0), (61, .iload_n 2, 0, 0), (62, .invokevirtual 37, 9, 1), (65, .iadd, 0, 0), (66, .iload 5, 0, 0), (68, .iastore, 0, 0), (69, .iload 5, 0, 0), (71, .ireturn, 0, 0), (72, .aload_n 0, 0, 0), (73, .aload_n 1, 0, 0), (74, .iload_n 2, 0, 0), (75, .iconst 1, 0, 0), (76, .iload_n 3, 0, 0), (77, .invokevirtual 40, 56, 0), (80, .istore 6, 0, 0), (82, .iload 4, 0, 0), (84, .tableswitch 46 0 2 #[28, 34, 40], 28, 0), (112, .iload 5, 0, 0), (114, .iload 6, 0, 0), (116, .iadd, 0, 0), (117, .ireturn, 0, 0), (118, .iload 5, 0, 0), (120, .iload 6, 0, 0), (122, .isub, 0, 0), (123, .ireturn, 0, 0), (124, .iload 5, 0, 0), (126, .iload 6, 0, 0), (128, .imul, 0, 0), (129, .ireturn, 0, 0), (130, .iload 5, 0, 0), (132, .iload 6, 0, 0), (134, .invokestatic 44, 319, 2), (137, .ireturn, 0, 0)]
noncomputable def tb_56 : List TE := [(0, .aload_n 1, 0, 0), (1, .iload_n 2, 0, 0), (2, .iload_n 3, 0, 0), (3, .invokevirtual 50, 6, 1), (6, .istore 5, 0, 0), (8, .aload_n 1, 0, 0), (9, .iload_n 2, 0, 0), (10, .iload_n 3, 0, 0), (11, .invokevirtual 53, 7, 1), (14, .istore 6, 0, 0), (16, .iload 5, 0, 0), (18, .iconst (-1), 0, 0), (19, .if_icmp .ne 6, 0, 0), (22, .iload 4, 0, 0), (24, .ireturn, 0, 0), (25, .iload 5, 0, 0), (27, .bipush (-2), 0, 0), (29, .if_icmp .ne 6, 0, 0), (32, .iload 6, 0, 0), (34, .ireturn, 0, 0), (35, .aload_n 0, 0, 0), (36, .aload_n 1, 0, 0), (37, .iload 5, 0, 0), (39, .iload 4, 0, 0), (41, .iload 6, 0, 0), (43, .isub, 0, 0), (44, .invokevirtual 56, 57, 0), (47, .ireturn, 0, 0)]
noncomputable def tb_57 : List TE := [(0, .iload_n 3, 0, 0), (1, .ifCond .ge 12, 0, 0), (4, .aload_n 1, 0, 0), (5, .getfield 59, 0, 3), (8, .iload_n 2, 0, 0), (9, .iaload, 0, 0), (10, .goto 14, 0, 0), (13, .aload_n 0, 0, 0), (14, .getfield 16, 4, 1), (17, .iload_n 2, 0, 0), (18, .bipush 40, 0, 0), (20, .imul, 0, 0), (21, .iload_n 3, 0, 0), (22, .iadd, 0, 0), (23, .iaload, 0, 0), (24, .ireturn, 0, 0)]
noncomputable def tb_58 : List TE := [(0, .aload_n 0, 0, 0), (1, .invokespecial 3, 0, 6), (4, .aload_n 0, 0, 0), (5, .bipush 64, 0, 0), (7, .newarray .int, 0, 0), (9, .putfield 9, 5, 2), (12, .return_, 0, 0)]
noncomputable def tb_59 : List TE := [(0, .aload_n 0, 0, 0), (1, .getfield 15, 5, 1), (4, .iload_n 3, 0, 0), (5, .if_icmp .ne 4, 0, 0), (8, .return_, 0, 0), (9, .aload_n 0, 0, 0), (10, .iload_n 3, 0, 0), (11, .putfield 15, 5, 1), (14, .aload_n 0, 0, 0), (15, .aload_n 1, 0, 0), (16, .getfield 19, 0, 0), (19, .putfield 24, 5, 0), (22, .aload_n 0, 0, 0), (23, .getfield 9, 5, 2), (26, .ldc 25, 0, 0), (28, .invokestatic 26, 320, 2), (31, .iconst 0, 0, 0), (32, .istore 4, 0, 0), (34, .iload 4, 0, 0), (36, .aload_n 2, 0, 0), (37, .getfield 32, 7, 0), (40, .if_icmp .ge 63, 0, 0), (43, .aload_n 2, 0, 0), (44, .getfield 35, 7, 1), (47, .iload 4, 0, 0), (49, .iaload, 0, 0), (50, .bipush 8, 0, 0), (52, .imul, 0, 0), (53, .aload_n 2, 0, 0), (54, .getfield 38, 7, 2), (57, .iload 4, 0, 0), (59, .iaload, 0, 0), (60, .iadd, 0, 0), (61, .istore 5, 0, 0), (63, .aload_n 0, 0, 0), (64, .getfield 9, 5, 2), (67, .iload 5, 0, 0), (69, .aload_n 0, 0, 0), (70, .getfield 9, 5, 2), (73, .iload 5, 0, 0), (75, .iaload, 0, 0), (76, .aload_n 2, 0, 0), (77, .getfield 41, 7, 4), (80, .iload 4, 0, 0), (82, .iaload, 0, 0), (83, .iload_n 3, 0, 0), (84, .aload_n 2, 0, 0), (85, .getfield 44, 7, 3), (88, .iload 4, 0, 0), (90, .iaload, 0, 0), (91, .imul, 0, 0), (92, .isub, 0, 0), (93, .invokestatic 47, 318, 2), (96, .iastore, 0, 0), (97, .iinc 4 1, 0, 0), (100, .goto (-66), 0, 0), (103, .iconst 0, 0, 0), (104, .istore 4, 0, 0), (106, .iload 4, 0, 0), (108, .aload_n 0, 0, 0), (109, .getfield 24, 5, 0), (112, .if_icmp .ge 53, 0, 0), (115, .iconst 0, 0, 0), (116, .istore 5, 0, 0), (118, .iload 5, 0, 0), (120, .aload_n 0, 0, 0), (121, .getfield 24, 5, 0), (124, .if_icmp .ge 35, 0, 0), (127, .aload_n 0, 0, 0), (128, .getfield 9, 5, 2), (131, .iload 5, 0, 0), (133, .bipush 8, 0, 0), (135, .imul, 0, 0), (136, .iload 4, 0, 0), (138, .iadd, 0, 0), (139, .iaload, 0, 0), (140, .ldc 25, 0, 0), (142, .if_icmp .eq 11, 0, 0), (145, .aload_n 0, 0, 0), (146, .iload 5, 0, 0), (148, .iload 4, 0, 0), (150, .invokevirtual 53, 60, 0), (153, .iinc 5 1, 0, 0), (156, .goto (-38), 0, 0), (159, .iinc 4 1, 0, 0), (162, .goto (-56), 0, 0), (165, .return_, 0, 0)]
noncomputable def tb_60 : List TE := [(0, .aload_n 0, 0, 0), (1, .getfield 9, 5, 2), (4, .iload_n 1, 0, 0), (5, .bipush 8, 0, 0), (7, .imul, 0, 0), (8, .iload_n 2, 0, 0), (9, .iadd, 0, 0), (10, .iaload, 0, 0), (11, .istore_n 3, 0, 0), (12, .iconst 0, 0, 0), (13, .istore 4, 0, 0), (15, .iload 4, 0, 0), (17, .aload_n 0, 0, 0), (18, .getfield 24, 5, 0), (21, .if_icmp .ge 60, 0, 0), (24, .aload_n 0, 0, 0), (25, .getfield 9, 5, 2), (28, .iload_n 2, 0, 0), (29, .bipush 8, 0, 0), (31, .imul, 0, 0), (32, .iload 4, 0, 0), (34, .iadd, 0, 0), (35, .iaload, 0, 0), (36, .istore 5, 0, 0), (38, .iload 5, 0, 0), (40, .ldc 25, 0, 0), (42, .if_icmp .eq 33, 0, 0), (45, .iload_n 1, 0, 0), (46, .bipush 8, 0, 0), (48, .imul, 0, 0), (49, .iload 4, 0, 0), (51, .iadd, 0, 0), (52, .istore 6, 0, 0), (54, .aload_n 0, 0, 0), (55, .getfield 9, 5, 2), (58, .iload 6, 0, 0), (60, .aload_n 0, 0, 0), (61, .getfield 9, 5, 2), (64, .iload 6, 0, 0), (66, .iaload, 0, 0), (67, .iload_n 3, 0, 0), (68, .iload 5, 0, 0), (70, .iadd, 0, 0), (71, .invokestatic 47, 318, 2), (74, .iastore, 0, 0), (75, .iinc 4 1, 0, 0), (78, .goto (-63), 0, 0), (81, .return_, 0, 0)]
noncomputable def tb_61 : List TE := [(0, .iconst 0, 0, 0), (1, .istore_n 2, 0, 0), (2, .iconst 0, 0, 0), (3, .istore_n 3, 0, 0), (4, .iload_n 3, 0, 0), (5, .aload_n 0, 0, 0), (6, .getfield 24, 5, 0), (9, .if_icmp .ge 25, 0, 0), (12, .iload_n 2, 0, 0), (13, .aload_n 0, 0, 0), (14, .getfield 9, 5, 2), (17, .iload_n 1, 0, 0), (18, .bipush 8, 0, 0), (20, .imul, 0, 0), (21, .iload_n 3, 0, 0), (22, .iadd, 0, 0), (23, .iaload, 0, 0), (24, .invokestatic 47, 318, 2), (27, .istore_n 2, 0, 0), (28, .iinc 3 1, 0, 0), (31, .goto (-27), 0, 0), (34, .iload_n 2, 0, 0), (35, .ireturn, 0, 0)]
noncomputable def tb_62 : List TE := [(0, .iconst 0, 0, 0), (1, .istore_n 2, 0, 0), (2, .iconst 0, 0, 0), (3, .istore_n 3, 0, 0), (4, .iload_n 3, 0, 0), (5, .aload_n 0, 0, 0), (6, .getfield 24, 5, 0), (9, .if_icmp .ge 25, 0, 0), (12, .iload_n 2, 0, 0), (13, .aload_n 0, 0, 0), (14, .getfield 9, 5, 2), (17, .iload_n 3, 0, 0), (18, .bipush 8, 0, 0), (20, .imul, 0, 0), (21, .iload_n 1, 0, 0), (22, .iadd, 0, 0), (23, .iaload, 0, 0), (24, .invokestatic 47, 318, 2), (27, .istore_n 2, 0, 0), (28, .iinc 3 1, 0, 0), (31, .goto (-27), 0, 0), (34, .iload_n 2, 0, 0), (35, .ireturn, 0, 0)]
noncomputable def tb_63 : List TE := [(0, .iconst 0, 0, 0), (1, .istore_n 3, 0, 0), (2, .iconst 0, 0, 0), (3, .istore 4, 0, 0), (5, .iload 4, 0, 0), (7, .aload_n 0, 0, 0), (8, .getfield 24, 5, 0), (11, .if_icmp .ge 27, 0, 0), (14, .iload_n 3, 0, 0), (15, .aload_n 0, 0, 0), (16, .iload 4, 0, 0), (18, .invokevirtual 57, 62, 0), (21, .aload_n 1, 0, 0), (22, .iload 4, 0, 0), (24, .invokevirtual 61, 2, 1), (27, .iadd, 0, 0), (28, .invokestatic 47, 318, 2), (31, .istore_n 3, 0, 0), (32, .iinc 4 1, 0, 0), (35, .goto (-30), 0, 0), (38, .iload_n 3, 0, 0), (39, .aload_n 1, 0, 0), (40, .iload_n 2, 0, 0), (41, .invokevirtual 61, 2, 1), (44, .isub, 0, 0), (45, .istore 4, 0, 0), (47, .iconst 0, 0, 0), (48, .istore 5, 0, 0), (50, .iload 5, 0, 0), (52, .aload_n 0, 0, 0), (53, .getfield 24, 5, 0), (56, .if_icmp .ge 48, 0, 0), (59, .aload_n 0, 0, 0), (60, .getfield 9, 5, 2), (63, .iload_n 2, 0, 0), (64, .bipush 8, 0, 0), (66, .imul, 0, 0), (67, .iload 5, 0, 0), (69, .iadd, 0, 0), (70, .iaload, 0, 0), (71, .istore 6, 0, 0), (73, .iload 6, 0, 0), (75, .ldc 25, 0, 0), (77, .if_icmp .eq 21, 0, 0), (80, .iload 4, 0, 0), (82, .iload_n 3, 0, 0), (83, .aload_n 1, 0, 0), (84, .iload 5, 0, 0), (86, .invokevirtual 61, 2, 1), (89, .isub, 0, 0), (90, .iload 6, 0, 0), (92, .isub, 0, 0), (93, .invokestatic 64, 319, 2), (96, .istore 4, 0, 0), (98, .iinc 5 1, 0, 0), (101, .goto (-51), 0, 0), (104, .iload 4, 0, 0), (106, .ireturn, 0, 0)]
noncomputable def tb_64 : List TE := [(0, .aload_n 0, 0, 0), (1, .invokespecial 3, 0, 6), (4, .aload_n 0, 0, 0), (5, .bipush 8, 0, 0), (7, .newarray .int, 0, 0), (9, .putfield 9, 6, 5), (12, .aload_n 0, 0, 0), (13, .bipush 8, 0, 0), (15, .newarray .int, 0, 0), (17, .putfield 15, 6, 6), (20, .aload_n 0, 0, 0), (21, .bipush 8, 0, 0), (23, .newarray .int, 0, 0), (25, .putfield 18, 6, 7), (28, .aload_n 0, 0, 0), (29, .iconst 3, 0, 0), (30, .newarray .int, 0, 0), (32, .putfield 21, 6, 8), (35, .aload_n 0, 0, 0), (36, .iconst 3, 0, 0), (37, .newarray .int, 0, 0), (39, .putfield 24, 6, 9), (42, .aload_n 0, 0, 0), (43, .bipush 32, 0, 0), (45, .newarray .int, 0, 0), (47, .putfield 27, 6, 10), (50, .aload_n 0, 0, 0), (51, .bipush 12, 0, 0), (53, .newarray .int, 0, 0), (55, .putfield 30, 6, 11), (58, .aload_n 0, 0, 0), (59, .bipush 32, 0, 0), (61, .newarray .int, 0, 0), (63, .putfield 33, 6, 12), (66, .aload_n 0, 0, 0), (67, .bipush 64, 0, 0), (69, .newarray .int, 0, 0), (71, .putfield 36, 6, 13), (74, .aload_n 0, 0, 0), (75, .sipush 512, 0, 0), (78, .newarray .int, 0, 0), (80, .putfield 39, 6, 14), (83, .aload_n 0, 0, 0), (84, .bipush 8, 0, 0), (86, .newarray .int, 0, 0), (88, .putfield 42, 6, 15), (91, .aload_n 0, 0, 0), (92, .bipush 8, 0, 0), (94, .newarray .int, 0, 0), (96, .putfield 45, 6, 16), (99, .aload_n 0, 0, 0), (100, .bipush 8, 0, 0), (102, .newarray .int, 0, 0), (104, .putfield 48, 6, 17), (107, .aload_n 0, 0, 0), (108, .bipush 8, 0, 0), (110, .newarray .int, 0, 0), (112, .putfield 51, 6, 18), (115, .aload_n 0, 0, 0), (116, .bipush 8, 0, 0), (118, .newarray .int, 0, 0), (120, .putfield 54, 6, 19), (123, .return_, 0, 0)]
noncomputable def tb_65 : List TE := [(0, .aload_n 0, 0, 0), (1, .aload_n 1, 0, 0), (2, .iload_n 2, 0, 0), (3, .invokevirtual 57, 67, 0), (6, .ifCond .ne 5, 0, 0), (9, .iconst 0, 0, 0), (10, .ireturn, 0, 0), (11, .aload_n 0, 0, 0), (12, .getfield 48, 6, 17), (15, .iconst 0, 0, 0), (16, .invokestatic 61, 320, 2), (19, .aload_n 0, 0, 0), (20, .getfield 54, 6, 19), (23, .iconst 1, 0, 0), (24, .invokestatic 61, 320, 2), (27, .aload_n 0, 0, 0), (28, .invokevirtual 67, 70, 0), (31, .iconst 0, 0, 0), (32, .istore_n 3, 0, 0), (33, .iconst 0, 0, 0), (34, .istore 4, 0, 0), (36, .iload 4, 0, 0), (38, .aload_n 0, 0, 0), (39, .getfield 70, 6, 0), (42, .if_icmp .ge 79, 0, 0), (45, .iload_n 3, 0, 0), (46, .iconst 1, 0, 0), (47, .iload 4, 0, 0), (49, .ishl, 0, 0), (50, .iand, 0, 0), (51, .ifCond .ne 64, 0, 0), (54, .aload_n 0, 0, 0), (55, .aload_n 0, 0, 0), (56, .getfield 24, 6, 9), (59, .aload_n 0, 0, 0), (60, .getfield 18, 6, 7), (63, .iload 4, 0, 0), (65, .iaload, 0, 0), (66, .iaload, 0, 0), (67, .putfield 74, 6, 3), (70, .iload_n 3, 0, 0), (71, .aload_n 0, 0, 0), (72, .getfield 74, 6, 3), (75, .ior, 0, 0), (76, .istore_n 3, 0, 0), (77, .aload_n 0, 0, 0), (78, .iload 4, 0, 0), (80, .iconst 0, 0, 0), (81, .invokevirtual 77, 79, 0), (84, .ifCond .eq 15, 0, 0), (87, .aload_n 0, 0, 0), (88, .iconst 0, 0, 0), (89, .invokevirtual 81, 73, 0), (92, .ifCond .eq 7, 0, 0), (95, .iconst 1, 0, 0), (96, .goto 4, 0, 0), (99, .iconst 0, 0, 0), (100, .istore 5, 0, 0), (102, .aload_n 0, 0, 0), (103, .iload 4, 0, 0), (105, .invokevirtual 85, 80, 0), (108, .iload 5, 0, 0), (110, .ifCond .ne 5, 0, 0), (113, .iconst 0, 0, 0), (114, .ireturn, 0, 0), (115, .iinc 4 1, 0, 0), (118, .goto (-82), 0, 0), (121, .iconst 1, 0, 0), (122, .ireturn, 0, 0)]
noncomputable def tb_66 : List TE := [(0, .aload_n 0, 0, 0), (1, .aload_n 1, 0, 0), (2, .invokevirtual 89, 69, 0), (5, .aload_n 0, 0, 0), (6, .invokevirtual 67, 70, 0), (9, .iconst 0, 0, 0), (10, .istore_n 2, 0, 0), (11, .iload_n 2, 0, 0), (12, .aload_n 0, 0, 0), (13, .getfield 70, 6, 0), (16, .if_icmp .ge 156, 0, 0), (19, .aload_n 0, 0, 0), (20, .aload_n 0, 0, 0), (21, .iload_n 2, 0, 0), (22, .invokevirtual 93, 72, 0), (25, .putfield 74, 6, 3), (28, .aload_n 0, 0, 0), (29, .getfield 74, 6, 3), (32, .aload_n 0, 0, 0), (33, .getfield 97, 6, 4), (36, .iand, 0, 0), (37, .ifCond .ne 7, 0, 0), (40, .iconst 1, 0, 0), (41, .goto 4, 0, 0), (44, .iconst 0, 0, 0), (45, .istore_n 3, 0, 0), (46, .iload_n 3, 0, 0), (47, .ifCond .eq 7, 0, 0), (50, .iconst 1, 0, 0), (51, .goto 8, 0, 0), (54, .aload_n 0, 0, 0), (55, .iload_n 2, 0, 0), (56, .invokevirtual 100, 76, 0), (59, .istore 4, 0, 0), (61, .iconst 0, 0, 0), (62, .istore 5, 0, 0), (64, .iconst 0, 0, 0), (65, .istore 6, 0, 0), (67, .iload 6, 0, 0), (69, .aload_n 0, 0, 0), (70, .getfield 103, 6, 1), (73, .if_icmp .ge 86, 0, 0), (76, .iload 5, 0, 0), (78, .ifCond .ne 81, 0, 0), (81, .iload 4, 0, 0), (83, .iconst 1, 0, 0), (84, .iload 6, 0, 0), (86, .ishl, 0, 0), (87, .iand, 0, 0), (88, .ifCond .eq 65, 0, 0), (91, .iload_n 3, 0, 0), (92, .ifCond .ne 18, 0, 0), (95, .iload 6, 0, 0), (97, .aload_n 0, 0, 0), (98, .getfield 15, 6, 6), (101, .iload_n 2, 0, 0), (102, .iaload, 0, 0), (103, .if_icmp .ne 7, 0, 0), (106, .iconst 1, 0, 0), (107, .goto 4, 0, 0), (110, .iconst 0, 0, 0), (111, .istore 7, 0, 0), (113, .aload_n 0, 0, 0), (114, .iload_n 2, 0, 0), (115, .iload 6, 0, 0), (117, .invokevirtual 77, 79, 0), (120, .ifCond .eq 20, 0, 0), (123, .iload 7, 0, 0), (125, .ifCond .ne 11, 0, 0), (128, .aload_n 0, 0, 0), (129, .iconst 0, 0, 0), (130, .invokevirtual 81, 73, 0), (133, .ifCond .eq 7, 0, 0), (136, .iconst 1, 0, 0), (137, .goto 4, 0, 0), (140, .iconst 0, 0, 0), (141, .istore 5, 0, 0), (143, .iload 5, 0, 0), (145, .ifCond .ne 8, 0, 0), (148, .aload_n 0, 0, 0), (149, .iload_n 2, 0, 0), (150, .invokevirtual 85, 80, 0), (153, .iinc 6 1, 0, 0), (156, .goto (-89), 0, 0), (159, .iload 5, 0, 0), (161, .ifCond .ne 5, 0, 0), (164, .iconst 0, 0, 0), (165, .ireturn, 0, 0), (166, .iinc 2 1, 0, 0), (169, .goto (-158), 0, 0), (172, .iconst 1, 0, 0), (173, .ireturn, 0, 0)]
noncomputable def tb_67 : List TE := [(0, .aload_n 0, 0, 0), (1, .aload_n 1, 0, 0), (2, .getfield 106, 0, 0), (5, .putfield 70, 6, 0), (8, .aload_n 0, 0, 0), (9, .iload_n 2, 0, 0), (10, .putfield 103, 6, 1), (13, .aload_n 0, 0, 0), (14, .iconst 1, 0, 0), (15, .iload_n 2, 0, 0), (16, .ishl, 0, 0), (17, .iconst 1, 0, 0), (18, .isub, 0, 0), (19, .putfield 109, 6, 2), (22, .aload_n 0, 0, 0), (23, .iconst 0, 0, 0), (24, .putfield 97, 6, 4), (27, .iconst 0, 0, 0), (28, .istore_n 3, 0, 0), (29, .iload_n 3, 0, 0), (30, .iconst 3, 0, 0), (31, .if_icmp .ge 91, 0, 0), (34, .aload_n 0, 0, 0), (35, .getfield 21, 6, 8), (38, .iload_n 3, 0, 0), (39, .aload_n 1, 0, 0), (40, .getfield 112, 0, 7), (43, .iload_n 3, 0, 0), (44, .iaload, 0, 0), (45, .iastore, 0, 0), (46, .aload_n 1, 0, 0), (47, .iload_n 3, 0, 0), (48, .invokevirtual 113, 12, 1), (51, .iload_n 2, 0, 0), (52, .aload_n 0, 0, 0), (53, .getfield 21, 6, 8), (56, .iload_n 3, 0, 0), (57, .iaload, 0, 0), (58, .imul, 0, 0), (59, .if_icmp .le 5, 0, 0), (62, .iconst 0, 0, 0), (63, .ireturn, 0, 0), (64, .aload_n 0, 0, 0), (65, .getfield 24, 6, 9), (68, .iload_n 3, 0, 0), (69, .iconst 0, 0, 0), (70, .iastore, 0, 0), (71, .aload_n 0, 0, 0), (72, .getfield 30, 6, 11), (75, .iload_n 3, 0, 0), (76, .iconst 4, 0, 0), (77, .imul, 0, 0), (78, .aload_n 0, 0, 0), (79, .getfield 109, 6, 2), (82, .iastore, 0, 0), (83, .aload_n 0, 0, 0), (84, .getfield 30, 6, 11), (87, .iload_n 3, 0, 0), (88, .iconst 4, 0, 0), (89, .imul, 0, 0), (90, .iconst 1, 0, 0), (91, .iadd, 0, 0), (92, .iconst 0, 0, 0), (93, .iastore, 0, 0), (94, .aload_n 0, 0, 0), (95, .getfield 30, 6, 11), (98, .iload_n 3, 0, 0), (99, .iconst 4, 0, 0), (100, .imul, 0, 0), (101, .iconst 2, 0, 0), (102, .iadd, 0, 0), (103, .iconst 0, 0, 0), (104, .iastore, 0, 0), (105, .aload_n 0, 0, 0), (106, .getfield 30, 6, 11), (109, .iload_n 3, 0, 0), (110, .iconst 4, 0, 0), (111, .imul, 0, 0), (112, .iconst 3, 0, 0), (113, .iadd, 0, 0), (114, .iconst 0, 0, 0), (115, .iastore, 0, 0), (116, .iinc 3 1, 0, 0), (119, .goto (-90), 0, 0), (122, .iconst 0, 0, 0), (123, .istore_n 3, 0, 0), (124, .iload_n 3, 0, 0), (125, .aload_n 0, 0, 0), (126, .getfield 70, 6, 0), (129, .if_icmp .ge 52, 0, 0), (132, .aload_n 0, 0, 0), (133, .getfield 18, 6, 7), (136, .iload_n 3, 0, 0), (137, .aload_n 1, 0, 0), (138, .iload_n 3, 0, 0), (139, .invokevirtual 116, 3, 1), (142, .iastore, 0, 0), (143, .aload_n 0, 0, 0), (144, .getfield 24, 6, 9), (147, .aload_n 0, 0, 0), (148, .getfield 18, 6, 7), (151, .iload_n 3, 0, 0), (152, .iaload, 0, 0), (153, .dup2, 0, 0), (154, .iaload, 0, 0), (155, .iconst 1, 0, 0), (156, .iload_n 3, 0, 0), (157, .ishl, 0, 0), (158, .ior, 0, 0), (159, .iastore, 0, 0), (160, .aload_n 0, 0, 0), (161, .iload_n 3, 0, 0), (162, .aload_n 1, 0, 0), (163, .iload_n 3, 0, 0), (164, .invokevirtual 119, 4, 1), (167, .invokevirtual 122, 68, 0), (170, .ifCond .ne 5, 0, 0), (173, .iconst 0, 0, 0), (174, .ireturn, 0, 0), (175, .iinc 3 1, 0, 0), (178, .goto (-54), 0, 0), (181, .iconst 1, 0, 0), (182, .ireturn, 0, 0)]
noncomputable def tb_68 : List TE := [(0, .iconst 0, 0, 0), (1, .istore_n 3, 0, 0), (2, .iload_n 3, 0, 0), (3, .iconst 4, 0, 0), (4, .if_icmp .ge 20, 0, 0), (7, .aload_n 0, 0, 0), (8, .getfield 27, 6, 10), (11, .iload_n 1, 0, 0), (12, .iconst 4, 0, 0), (13, .imul, 0, 0), (14, .iload_n 3, 0, 0), (15, .iadd, 0, 0), (16, .iconst 0, 0, 0), (17, .iastore, 0, 0), (18, .iinc 3 1, 0, 0), (21, .goto (-19), 0, 0), (24, .iconst 0, 0, 0), (25, .istore_n 3, 0, 0), (26, .iload_n 3, 0, 0), (27, .iconst 4, 0, 0), (28, .if_icmp .ge 63, 0, 0), (31, .iload_n 2, 0, 0), (32, .iconst 1, 0, 0), (33, .iload_n 3, 0, 0), (34, .ishl, 0, 0), (35, .iand, 0, 0), (36, .ifCond .eq 49, 0, 0), (39, .iload_n 1, 0, 0), (40, .iconst 4, 0, 0), (41, .imul, 0, 0), (42, .iload_n 3, 0, 0), (43, .aload_n 0, 0, 0), (44, .getfield 103, 6, 1), (47, .irem, 0, 0), (48, .iadd, 0, 0), (49, .istore 4, 0, 0), (51, .aload_n 0, 0, 0), (52, .getfield 27, 6, 10), (55, .iload 4, 0, 0), (57, .dup2, 0, 0), (58, .iaload, 0, 0), (59, .iconst 1, 0, 0), (60, .iadd, 0, 0), (61, .iastore, 0, 0), (62, .aload_n 0, 0, 0), (63, .getfield 27, 6, 10), (66, .iload 4, 0, 0), (68, .iaload, 0, 0), (69, .aload_n 0, 0, 0), (70, .getfield 21, 6, 8), (73, .aload_n 0, 0, 0), (74, .getfield 18, 6, 7), (77, .iload_n 1, 0, 0), (78, .iaload, 0, 0), (79, .iaload, 0, 0), (80, .if_icmp .le 5, 0, 0), (83, .iconst 0, 0, 0), (84, .ireturn, 0, 0), (85, .iinc 3 1, 0, 0), (88, .goto (-62), 0, 0), (91, .iconst 1, 0, 0), (92, .ireturn, 0, 0)]
noncomputable def tb_69 : List TE := [(0, .aload_n 1, 0, 0), (1, .iconst 0, 0, 0), (2, .aload_n 0, 0, 0), (3, .getfield 36, 6, 13), (6, .iconst 0, 0, 0), (7, .bipush 64, 0, 0), (9, .invokestatic 125, 0, 7), (12, .iconst 0, 0, 0), (13, .istore_n 2, 0, 0), (14, .iload_n 2, 0, 0), (15, .aload_n 0, 0, 0), (16, .getfield 70, 6, 0), (19, .if_icmp .ge 93, 0, 0), (22, .aload_n 0, 0, 0), (23, .getfield 48, 6, 17), (26, .iload_n 2, 0, 0), (27, .iconst 0, 0, 0), (28, .iastore, 0, 0), (29, .iconst 0, 0, 0), (30, .istore_n 3, 0, 0), (31, .iload_n 3, 0, 0), (32, .aload_n 0, 0, 0), (33, .getfield 70, 6, 0), (36, .if_icmp .ge 70, 0, 0), (39, .aload_n 0, 0, 0), (40, .getfield 36, 6, 13), (43, .iload_n 2, 0, 0), (44, .bipush 8, 0, 0), (46, .imul, 0, 0), (47, .iload_n 3, 0, 0), (48, .iadd, 0, 0), (49, .iaload, 0, 0), (50, .ldc 131, 1, 0), (52, .if_icmp .eq 7, 0, 0), (55, .iconst 1, 0, 0), (56, .goto 4, 0, 0), (59, .iconst 0, 0, 0), (60, .istore 4, 0, 0), (62, .iload_n 3, 0, 0), (63, .iload_n 2, 0, 0), (64, .if_icmp .eq 36, 0, 0), (67, .iload 4, 0, 0), (69, .ifCond .eq 31, 0, 0), (72, .aload_n 0, 0, 0), (73, .getfield 36, 6, 13), (76, .iload_n 3, 0, 0), (77, .bipush 8, 0, 0), (79, .imul, 0, 0), (80, .iload_n 2, 0, 0), (81, .iadd, 0, 0), (82, .iaload, 0, 0), (83, .ldc 131, 1, 0), (85, .if_icmp .eq 15, 0, 0), (88, .aload_n 0, 0, 0), (89, .getfield 48, 6, 17), (92, .iload_n 2, 0, 0), (93, .dup2, 0, 0), (94, .iaload, 0, 0), (95, .iconst 1, 0, 0), (96, .iload_n 3, 0, 0), (97, .ishl, 0, 0), (98, .ior, 0, 0), (99, .iastore, 0, 0), (100, .iinc 3 1, 0, 0), (103, .goto (-72), 0, 0), (106, .iinc 2 1, 0, 0), (109, .goto (-95), 0, 0), (112, .return_, 0, 0)]
noncomputable def tb_70 : List TE := [(0, .iconst 0, 0, 0), (1, .istore_n 1, 0, 0), (2, .iload_n 1, 0, 0), (3, .aload_n 0, 0, 0), (4, .getfield 70, 6, 0), (7, .if_icmp .ge 58, 0, 0), (10, .aload_n 0, 0, 0), (11, .getfield 51, 6, 18), (14, .iload_n 1, 0, 0), (15, .iconst 0, 0, 0), (16, .iastore, 0, 0), (17, .iconst 0, 0, 0), (18, .istore_n 2, 0, 0), (19, .iload_n 2, 0, 0), (20, .aload_n 0, 0, 0), (21, .getfield 70, 6, 0), (24, .if_icmp .ge 35, 0, 0), (27, .iload_n 2, 0, 0), (28, .iload_n 1, 0, 0), (29, .if_icmp .eq 24, 0, 0), (32, .aload_n 0, 0, 0), (33, .iload_n 1, 0, 0), (34, .iload_n 2, 0, 0), (35, .invokevirtual 132, 71, 0), (38, .ifCond .eq 15, 0, 0), (41, .aload_n 0, 0, 0), (42, .getfield 51, 6, 18), (45, .iload_n 1, 0, 0), (46, .dup2, 0, 0), (47, .iaload, 0, 0), (48, .iconst 1, 0, 0), (49, .iload_n 2, 0, 0), (50, .ishl, 0, 0), (51, .ior, 0, 0), (52, .iastore, 0, 0), (53, .iinc 2 1, 0, 0), (56, .goto (-37), 0, 0), (59, .iinc 1 1, 0, 0), (62, .goto (-60), 0, 0), (65, .return_, 0, 0)]
noncomputable def tb_71 : List TE := [(0, .aload_n 0, 0, 0), (1, .getfield 48, 6, 17), (4, .iload_n 1, 0, 0), (5, .iaload, 0, 0), (6, .ifCond .ne 27, 0, 0), (9, .aload_n 0, 0, 0), (10, .getfield 48, 6, 17), (13, .iload_n 2, 0, 0), (14, .iaload, 0, 0), (15, .ifCond .ne 18, 0, 0), (18, .aload_n 0, 0, 0), (19, .getfield 18, 6, 7), (22, .iload_n 1, 0, 0), (23, .iaload, 0, 0), (24, .aload_n 0, 0, 0), (25, .getfield 18, 6, 7), (28, .iload_n 2, 0, 0), (29, .iaload, 0, 0), (30, .if_icmp .eq 5, 0, 0), (33, .iconst 0, 0, 0), (34, .ireturn, 0, 0), (35, .iconst 0, 0, 0), (36, .istore_n 3, 0, 0), (37, .iload_n 3, 0, 0), (38, .iconst 4, 0, 0), (39, .if_icmp .ge 34, 0, 0), (42, .aload_n 0, 0, 0), (43, .getfield 27, 6, 10), (46, .iload_n 1, 0, 0), (47, .iconst 4, 0, 0), (48, .imul, 0, 0), (49, .iload_n 3, 0, 0), (50, .iadd, 0, 0), (51, .iaload, 0, 0), (52, .aload_n 0, 0, 0), (53, .getfield 27, 6, 10), (56, .iload_n 2, 0, 0), (57, .iconst 4, 0, 0), (58, .imul, 0, 0), (59, .iload_n 3, 0, 0), (60, .iadd, 0, 0), (61, .iaload, 0, 0), (62, .if_icmp .eq 5, 0, 0), (65, .iconst 0, 0, 0), (66, .ireturn, 0, 0), (67, .iinc 3 1, 0, 0), (70, .goto (-33), 0, 0), (73, .iconst 1, 0, 0), (74, .ireturn, 0, 0)]
noncomputable def tb_72 : List TE := [(0, .iconst 1, 0, 0), (1, .iload_n 1, 0, 0), (2, .ishl, 0, 0), (3, .istore_n 2, 0, 0), (4, .iconst 0, 0, 0), (5, .istore_n 3, 0, 0), (6, .iconst 0, 0, 0), (7, .istore 4, 0, 0), (9, .iload 4, 0, 0), (11, .bipush 8, 0, 0), (13, .if_icmp .ge 66, 0, 0), (16, .iload_n 2, 0, 0), (17, .iload_n 3, 0, 0), (18, .if_icmp .eq 61, 0, 0), (21, .iload_n 2, 0, 0), (22, .istore_n 3, 0, 0), (23, .iconst 0, 0, 0), (24, .istore 5, 0, 0), (26, .iload 5, 0, 0), (28, .aload_n 0, 0, 0), (29, .getfield 70, 6, 0), (32, .if_icmp .ge 41, 0, 0), (35, .iload_n 2, 0, 0), (36, .iconst 1, 0, 0), (37, .iload 5, 0, 0), (39, .ishl, 0, 0), (40, .iand, 0, 0), (41, .ifCond .eq 26, 0, 0), (44, .iload_n 2, 0, 0), (45, .aload_n 0, 0, 0), (46, .getfield 48, 6, 17), (49, .iload 5, 0, 0), (51, .iaload, 0, 0), (52, .aload_n 0, 0, 0), (53, .getfield 24, 6, 9), (56, .aload_n 0, 0, 0), (57, .getfield 18, 6, 7), (60, .iload 5, 0, 0), (62, .iaload, 0, 0), (63, .iaload, 0, 0), (64, .ior, 0, 0), (65, .ior, 0, 0), (66, .istore_n 2, 0, 0), (67, .iinc 5 1, 0, 0), (70, .goto (-44), 0, 0), (73, .iinc 4 1, 0, 0), (76, .goto (-67), 0, 0), (79, .iload_n 2, 0, 0), (80, .ireturn, 0, 0)]
noncomputable def tb_73 : List TE := [(0, .iconst (-1), 0, 0), (1, .istore_n 2, 0, 0), (2, .aload_n 0, 0, 0), (3, .getfield 109, 6, 2), (6, .istore_n 3, 0, 0), (7, .iconst 0, 0, 0), (8, .istore 4, 0, 0), (10, .iload 4, 0, 0), (12, .aload_n 0, 0, 0), (13, .getfield 70, 6, 0), (16, .if_icmp .ge 69, 0, 0), (19, .iload_n 3, 0, 0), (20, .ifCond .eq 65, 0, 0), (23, .aload_n 0, 0, 0), (24, .getfield 74, 6, 3), (27, .aload_n 0, 0, 0), (28, .getfield 97, 6, 4), (31, .iconst (-1), 0, 0), (32, .ixor, 0, 0), (33, .iand, 0, 0), (34, .iconst 1, 0, 0), (35, .iload 4, 0, 0), (37, .ishl, 0, 0), (38, .iand, 0, 0), (39, .ifCond .eq 40, 0, 0), (42, .aload_n 0, 0, 0), (43, .iload 4, 0, 0), (45, .invokevirtual 100, 76, 0), (48, .istore 5, 0, 0), (50, .iload_n 2, 0, 0), (51, .iconst (-1), 0, 0), (52, .if_icmp .eq 21, 0, 0), (55, .iload 5, 0, 0), (57, .ifCond .eq 16, 0, 0), (60, .aload_n 0, 0, 0), (61, .iload 4, 0, 0), (63, .iload 5, 0, 0), (65, .iload_n 2, 0, 0), (66, .iload_n 3, 0, 0), (67, .invokevirtual 135, 74, 0), (70, .ifCond .eq 9, 0, 0), (73, .iload 4, 0, 0), (75, .istore_n 2, 0, 0), (76, .iload 5, 0, 0), (78, .istore_n 3, 0, 0), (79, .iinc 4 1, 0, 0), (82, .goto (-72), 0, 0), (85, .iload_n 2, 0, 0), (86, .iconst (-1), 0, 0), (87, .if_icmp .ne 9, 0, 0), (90, .aload_n 0, 0, 0), (91, .invokevirtual 139, 75, 0), (94, .iconst 1, 0, 0), (95, .ireturn, 0, 0), (96, .iload_n 3, 0, 0), (97, .ifCond .ne 13, 0, 0), (100, .aload_n 0, 0, 0), (101, .getfield 54, 6, 19), (104, .iload_n 2, 0, 0), (105, .dup2, 0, 0), (106, .iaload, 0, 0), (107, .iconst 1, 0, 0), (108, .iadd, 0, 0), (109, .iastore, 0, 0), (110, .iload_n 1, 0, 0), (111, .bipush 8, 0, 0), (113, .if_icmp .le 5, 0, 0), (116, .iconst 0, 0, 0), (117, .ireturn, 0, 0), (118, .iconst 0, 0, 0), (119, .istore 4, 0, 0), (121, .iconst 0, 0, 0), (122, .istore 5, 0, 0), (124, .iload 5, 0, 0), (126, .aload_n 0, 0, 0), (127, .getfield 103, 6, 1), (130, .if_icmp .ge 55, 0, 0), (133, .iload 4, 0, 0), (135, .ifCond .ne 50, 0, 0), (138, .iload_n 3, 0, 0), (139, .iconst 1, 0, 0), (140, .iload 5, 0, 0), (142, .ishl, 0, 0), (143, .iand, 0, 0), (144, .ifCond .eq 35, 0, 0), (147, .aload_n 0, 0, 0), (148, .iload_n 2, 0, 0), (149, .iload 5, 0, 0), (151, .invokevirtual 77, 79, 0), (154, .ifCond .eq 17, 0, 0), (157, .aload_n 0, 0, 0), (158, .iload_n 1, 0, 0), (159, .iconst 1, 0, 0), (160, .iadd, 0, 0), (161, .invokevirtual 81, 73, 0), (164, .ifCond .eq 7, 0, 0), (167, .iconst 1, 0, 0), (168, .goto 4, 0, 0), (171, .iconst 0, 0, 0), (172, .istore 4, 0, 0), (174, .aload_n 0, 0, 0), (175, .iload_n 2, 0, 0), (176, .invokevirtual 85, 80, 0), (179, .iinc 5 1, 0, 0), (182, .goto (-58), 0, 0), (185, .iload 4, 0, 0), (187, .ireturn, 0, 0)]
noncomputable def tb_74 : List TE := [(0, .iload_n 2, 0, 0), (1, .invokestatic 142, 315, 2), (4, .aload_n 0, 0, 0), (5, .getfield 54, 6, 19), (8, .iload_n 3, 0, 0), (9, .iaload, 0, 0), (10, .imul, 0, 0), (11, .iload 4, 0, 0), (13, .invokestatic 142, 315, 2), (16, .aload_n 0, 0, 0), (17, .getfield 54, 6, 19), (20, .iload_n 1, 0, 0), (21, .iaload, 0, 0), (22, .imul, 0, 0), (23, .if_icmp .ge 7, 0, 0), (26, .iconst 1, 0, 0), (27, .goto 4, 0, 0), (30, .iconst 0, 0, 0), (31, .ireturn, 0, 0)]
noncomputable def tb_75 : List TE := [(0, .iconst 0, 0, 0), (1, .istore_n 1, 0, 0), (2, .iload_n 1, 0, 0), (3, .aload_n 0, 0, 0), (4, .getfield 70, 6, 0), (7, .if_icmp .ge 32, 0, 0), (10, .aload_n 0, 0, 0), (11, .getfield 74, 6, 3), (14, .iconst 1, 0, 0), (15, .iload_n 1, 0, 0), (16, .ishl, 0, 0), (17, .iand, 0, 0), (18, .ifCond .eq 15, 0, 0), (21, .aload_n 0, 0, 0), (22, .getfield 15, 6, 6), (25, .iload_n 1, 0, 0), (26, .aload_n 0, 0, 0), (27, .getfield 9, 6, 5), (30, .iload_n 1, 0, 0), (31, .iaload, 0, 0), (32, .iastore, 0, 0), (33, .iinc 1 1, 0, 0), (36, .goto (-34), 0, 0), (39, .return_, 0, 0)]
noncomputable def tb_76 : List TE := [(0, .aload_n 0, 0, 0), (1, .getfield 109, 6, 2), (4, .istore_n 2, 0, 0), (5, .aload_n 0, 0, 0), (6, .getfield 18, 6, 7), (9, .iload_n 1, 0, 0), (10, .iaload, 0, 0), (11, .istore_n 3, 0, 0), (12, .iconst 0, 0, 0), (13, .istore 4, 0, 0), (15, .iload 4, 0, 0), (17, .iconst 4, 0, 0), (18, .if_icmp .ge 63, 0, 0), (21, .aload_n 0, 0, 0), (22, .getfield 27, 6, 10), (25, .iload_n 1, 0, 0), (26, .iconst 4, 0, 0), (27, .imul, 0, 0), (28, .iload 4, 0, 0), (30, .iadd, 0, 0), (31, .iaload, 0, 0), (32, .istore 5, 0, 0), (34, .iload 5, 0, 0), (36, .ifCond .le 39, 0, 0), (39, .iload_n 2, 0, 0), (40, .aload_n 0, 0, 0), (41, .aload_n 0, 0, 0), (42, .getfield 30, 6, 11), (45, .iload_n 3, 0, 0), (46, .iconst 4, 0, 0), (47, .imul, 0, 0), (48, .aload_n 0, 0, 0), (49, .getfield 21, 6, 8), (52, .iload_n 3, 0, 0), (53, .iaload, 0, 0), (54, .iadd, 0, 0), (55, .iload 5, 0, 0), (57, .isub, 0, 0), (58, .iconst 1, 0, 0), (59, .iadd, 0, 0), (60, .iaload, 0, 0), (61, .aload_n 0, 0, 0), (62, .getfield 103, 6, 1), (65, .iload 4, 0, 0), (67, .isub, 0, 0), (68, .invokevirtual 147, 78, 0), (71, .iconst (-1), 0, 0), (72, .ixor, 0, 0), (73, .iand, 0, 0), (74, .istore_n 2, 0, 0), (75, .iinc 4 1, 0, 0), (78, .goto (-63), 0, 0), (81, .aload_n 0, 0, 0), (82, .getfield 48, 6, 17), (85, .iload_n 1, 0, 0), (86, .iaload, 0, 0), (87, .aload_n 0, 0, 0), (88, .getfield 51, 6, 18), (91, .iload_n 1, 0, 0), (92, .iaload, 0, 0), (93, .ior, 0, 0), (94, .aload_n 0, 0, 0), (95, .getfield 97, 6, 4), (98, .iand, 0, 0), (99, .istore 4, 0, 0), (101, .iconst 0, 0, 0), (102, .istore 5, 0, 0), (104, .iload 5, 0, 0), (106, .aload_n 0, 0, 0), (107, .getfield 70, 6, 0), (110, .if_icmp .ge 96, 0, 0), (113, .iload 4, 0, 0), (115, .ifCond .eq 91, 0, 0), (118, .iload_n 2, 0, 0), (119, .ifCond .eq 87, 0, 0), (122, .iload 4, 0, 0), (124, .iconst 1, 0, 0), (125, .iload 5, 0, 0), (127, .ishl, 0, 0), (128, .iand, 0, 0), (129, .ifCond .ne 6, 0, 0), (132, .goto 68, 0, 0), (135, .aload_n 0, 0, 0), (136, .getfield 48, 6, 17), (139, .iload_n 1, 0, 0), (140, .iaload, 0, 0), (141, .iconst 1, 0, 0), (142, .iload 5, 0, 0), (144, .ishl, 0, 0), (145, .iand, 0, 0), (146, .ifCond .eq 16, 0, 0), (149, .iload_n 2, 0, 0), (150, .aload_n 0, 0, 0), (151, .iload_n 1, 0, 0), (152, .iload 5, 0, 0), (154, .invokevirtual 151, 77, 0), (157, .iand, 0, 0), (158, .istore_n 2, 0, 0), (159, .goto 41, 0, 0), (162, .iload 5, 0, 0), (164, .iload_n 1, 0, 0), (165, .if_icmp .ge 21, 0, 0), (168, .iload_n 2, 0, 0), (169, .aload_n 0, 0, 0), (170, .getfield 109, 6, 2), (173, .aload_n 0, 0, 0), (174, .getfield 9, 6, 5), (177, .iload 5, 0, 0), (179, .iaload, 0, 0), (180, .ishl, 0, 0), (181, .iand, 0, 0), (182, .istore_n 2, 0, 0), (183, .goto 17, 0, 0), (186, .iload_n 2, 0, 0), (187, .iconst 2, 0, 0), (188, .aload_n 0, 0, 0), (189, .getfield 9, 6, 5), (192, .iload 5, 0, 0), (194, .iaload, 0, 0), (195, .ishl, 0, 0), (196, .iconst 1, 0, 0), (197, .isub, 0, 0), (198, .iand, 0, 0), (199, .istore_n 2, 0, 0), (200, .iinc 5 1, 0, 0), (203, .goto (-99), 0, 0), (206, .iload_n 2, 0, 0), (207, .ireturn, 0, 0)]
noncomputable def tb_77 : List TE := [(0, .aload_n 0, 0, 0), (1, .getfield 36, 6, 13), (4, .iload_n 2, 0, 0), (5, .bipush 8, 0, 0), (7, .imul, 0, 0), (8, .iload_n 1, 0, 0), (9, .iadd, 0, 0), (10, .iaload, 0, 0), (11, .istore_n 3, 0, 0), (12, .iconst 1, 0, 0), (13, .aload_n 0, 0, 0), (14, .getfield 36, 6, 13), (17, .iload_n 1, 0, 0), (18, .bipush 8, 0, 0), (20, .imul, 0, 0), (21, .iload_n 2, 0, 0), (22, .iadd, 0, 0), (23, .iaload, 0, 0), (24, .isub, 0, 0), (25, .iload_n 3, 0, 0), (26, .isub, 0, 0), (27, .istore 4, 0, 0), (29, .iload 4, 0, 0), (31, .aload_n 0, 0, 0), (32, .getfield 103, 6, 1), (35, .if_icmp .lt 8, 0, 0), (38, .aload_n 0, 0, 0), (39, .getfield 109, 6, 2), (42, .ireturn, 0, 0), (43, .aload_n 0, 0, 0), (44, .getfield 9, 6, 5), (47, .iload_n 2, 0, 0), (48, .iaload, 0, 0), (49, .iload_n 3, 0, 0), (50, .iadd, 0, 0), (51, .aload_n 0, 0, 0), (52, .getfield 103, 6, 1), (55, .invokestatic 154, 317, 2), (58, .istore 5, 0, 0), (60, .iload 4, 0, 0), (62, .ifCond .gt 7, 0, 0), (65, .iconst 0, 0, 0), (66, .goto 9, 0, 0), (69, .iconst 1, 0, 0), (70, .iload 4, 0, 0), (72, .ishl, 0, 0), (73, .iconst 1, 0, 0), (74, .isub, 0, 0), (75, .istore 6, 0, 0), (77, .iload 6, 0, 0), (79, .iload 5, 0, 0), (81, .ishl, 0, 0), (82, .iload 6, 0, 0), (84, .aload_n 0, 0, 0), (85, .getfield 103, 6, 1), (88, .iload 5, 0, 0), (90, .isub, 0, 0), (91, .ishr, 0, 0), (92, .ior, 0, 0), (93, .aload_n 0, 0, 0), (94, .getfield 109, 6, 2), (97, .iand, 0, 0), (98, .ireturn, 0, 0)]
noncomputable def tb_78 : List TE := [(0, .iload_n 1, 0, 0), (1, .iload_n 2, 0, 0), (2, .ishl, 0, 0), (3, .iload_n 1, 0, 0), (4, .aload_n 0, 0, 0), (5, .getfield 103, 6, 1), (8, .iload_n 2, 0, 0), (9, .isub, 0, 0), (10, .ishr, 0, 0), (11, .ior, 0, 0), (12, .aload_n 0, 0, 0), (13, .getfield 109, 6, 2), (16, .iand, 0, 0), (17, .ireturn, 0, 0)]
noncomputable def tb_79 : List TE := [(0, .aload_n 0, 0, 0), (1, .getfield 18, 6, 7), (4, .iload_n 1, 0, 0), (5, .iaload, 0, 0), (6, .iconst 4, 0, 0), (7, .imul, 0, 0), (8, .istore_n 3, 0, 0), (9, .aload_n 0, 0, 0), (10, .getfield 30, 6, 11), (13, .iload_n 3, 0, 0), (14, .aload_n 0, 0, 0), (15, .getfield 33, 6, 12), (18, .iload_n 1, 0, 0), (19, .iconst 4, 0, 0), (20, .imul, 0, 0), (21, .iconst 4, 0, 0), (22, .invokestatic 125, 0, 7), (25, .aload_n 0, 0, 0), (26, .getfield 9, 6, 5), (29, .iload_n 1, 0, 0), (30, .iload_n 2, 0, 0), (31, .iastore, 0, 0), (32, .aload_n 0, 0, 0), (33, .dup, 0, 0), (34, .getfield 97, 6, 4), (37, .iconst 1, 0, 0), (38, .iload_n 1, 0, 0), (39, .ishl, 0, 0), (40, .ior, 0, 0), (41, .putfield 97, 6, 4), (44, .iconst 0, 0, 0), (45, .istore 4, 0, 0), (47, .iload 4, 0, 0), (49, .iconst 4, 0, 0), (50, .if_icmp .ge 103, 0, 0), (53, .aload_n 0, 0, 0), (54, .getfield 27, 6, 10), (57, .iload_n 1, 0, 0), (58, .iconst 4, 0, 0), (59, .imul, 0, 0), (60, .iload 4, 0, 0), (62, .iadd, 0, 0), (63, .iaload, 0, 0), (64, .istore 5, 0, 0), (66, .iload 5, 0, 0), (68, .ifCond .le 79, 0, 0), (71, .iconst 1, 0, 0), (72, .iload_n 2, 0, 0), (73, .iload 4, 0, 0), (75, .iadd, 0, 0), (76, .aload_n 0, 0, 0), (77, .getfield 103, 6, 1), (80, .irem, 0, 0), (81, .ishl, 0, 0), (82, .istore 6, 0, 0), (84, .aload_n 0, 0, 0), (85, .getfield 30, 6, 11), (88, .iload_n 3, 0, 0), (89, .iconst 3, 0, 0), (90, .iadd, 0, 0), (91, .dup2, 0, 0), (92, .iaload, 0, 0), (93, .aload_n 0, 0, 0), (94, .getfield 30, 6, 11), (97, .iload_n 3, 0, 0), (98, .iconst 2, 0, 0), (99, .iadd, 0, 0), (100, .iaload, 0, 0), (101, .iload 6, 0, 0), (103, .iand, 0, 0), (104, .ior, 0, 0), (105, .iastore, 0, 0), (106, .aload_n 0, 0, 0), (107, .getfield 30, 6, 11), (110, .iload_n 3, 0, 0), (111, .iconst 2, 0, 0), (112, .iadd, 0, 0), (113, .dup2, 0, 0), (114, .iaload, 0, 0), (115, .aload_n 0, 0, 0), (116, .getfield 30, 6, 11), (119, .iload_n 3, 0, 0), (120, .iconst 1, 0, 0), (121, .iadd, 0, 0), (122, .iaload, 0, 0), (123, .iload 6, 0, 0), (125, .iand, 0, 0), (126, .ior, 0, 0), (127, .iastore, 0, 0), (128, .aload_n 0, 0, 0), (129, .getfield 30, 6, 11), (132, .iload_n 3, 0, 0), (133, .iconst 1, 0, 0), (134, .iadd, 0, 0), (135, .dup2, 0, 0), (136, .iaload, 0, 0), (137, .iload 6, 0, 0), (139, .ior, 0, 0), (140, .iastore, 0, 0), (141, .iinc 5 (-1), 0, 0), (144, .goto (-78), 0, 0), (147, .iinc 4 1, 0, 0), (150, .goto (-103), 0, 0), (153, .aload_n 0, 0, 0), (154, .iload_n 1, 0, 0), (155, .invokevirtual 159, 81, 0), (158, .ifCond .ne 5, 0, 0), (161, .iconst 1, 0, 0), (162, .ireturn, 0, 0), (163, .aload_n 0, 0, 0), (164, .getfield 36, 6, 13), (167, .iconst 0, 0, 0), (168, .aload_n 0, 0, 0), (169, .getfield 39, 6, 14), (172, .iload_n 1, 0, 0), (173, .bipush 64, 0, 0), (175, .imul, 0, 0), (176, .bipush 64, 0, 0), (178, .invokestatic 125, 0, 7), (181, .aload_n 0, 0, 0), (182, .iload_n 1, 0, 0), (183, .invokevirtual 162, 82, 0), (186, .ifCond .ne 5, 0, 0), (189, .iconst 0, 0, 0), (190, .ireturn, 0, 0), (191, .aload_n 0, 0, 0), (192, .iload_n 1, 0, 0), (193, .invokevirtual 165, 83, 0), (196, .iconst 1, 0, 0), (197, .ireturn, 0, 0)]
noncomputable def tb_80 : List TE := [(0, .aload_n 0, 0, 0), (1, .getfield 33, 6, 12), (4, .iload_n 1, 0, 0), (5, .iconst 4, 0, 0), (6, .imul, 0, 0), (7, .aload_n 0, 0, 0), (8, .getfield 30, 6, 11), (11, .aload_n 0, 0, 0), (12, .getfield 18, 6, 7), (15, .iload_n 1, 0, 0), (16, .iaload, 0, 0), (17, .iconst 4, 0, 0), (18, .imul, 0, 0), (19, .iconst 4, 0, 0), (20, .invokestatic 125, 0, 7), (23, .aload_n 0, 0, 0), (24, .dup, 0, 0), (25, .getfield 97, 6, 4), (28, .iconst 1, 0, 0), (29, .iload_n 1, 0, 0), (30, .ishl, 0, 0), (31, .iconst (-1), 0, 0), (32, .ixor, 0, 0), (33, .iand, 0, 0), (34, .putfield 97, 6, 4), (37, .aload_n 0, 0, 0), (38, .iload_n 1, 0, 0), (39, .invokevirtual 159, 81, 0), (42, .ifCond .eq 21, 0, 0), (45, .aload_n 0, 0, 0), (46, .getfield 39, 6, 14), (49, .iload_n 1, 0, 0), (50, .bipush 64, 0, 0), (52, .imul, 0, 0), (53, .aload_n 0, 0, 0), (54, .getfield 36, 6, 13), (57, .iconst 0, 0, 0), (58, .bipush 64, 0, 0), (60, .invokestatic 125, 0, 7), (63, .return_, 0, 0)]
noncomputable def tb_81 : List TE := [(0, .aload_n 0, 0, 0), (1, .getfield 48, 6, 17), (4, .iload_n 1, 0, 0), (5, .iaload, 0, 0), (6, .invokestatic 142, 315, 2), (9, .iconst 2, 0, 0), (10, .if_icmp .lt 7, 0, 0), (13, .iconst 1, 0, 0), (14, .goto 4, 0, 0), (17, .iconst 0, 0, 0), (18, .ireturn, 0, 0)]
noncomputable def tb_82_0 : List TE := [(0, .aload_n 0, 0, 0), (1, .getfield 48, 6, 17), (4, .iload_n 1, 0, 0), (5, .iaload, 0, 0), (6, .aload_n 0, 0, 0), (7, .getfield 97, 6, 4), (10, .iand, 0, 0), (11, .istore_n 2, 0, 0), (12, .iconst 0, 0, 0), (13, .istore_n 3, 0, 0), (14, .iload_n 3, 0, 0), (15, .aload_n 0, 0, 0), (16, .getfield 70, 6, 0), (19, .if_icmp .ge 123, 0, 0), (22, .aload_n 0, 0, 0), (23, .getfield 42, 6, 15), (26, .iload_n 3, 0, 0), (27, .aload_n 0, 0, 0), (28, .getfield 36, 6, 13), (31, .iload_n 3, 0, 0), (32, .bipush 8, 0, 0), (34, .imul, 0, 0), (35, .iload_n 1, 0, 0), (36, .iadd, 0, 0), (37, .iaload, 0, 0), (38, .iastore, 0, 0), (39, .aload_n 0, 0, 0), (40, .getfield 45, 6, 16), (43, .iload_n 3, 0, 0), (44, .aload_n 0, 0, 0), (45, .getfield 36, 6, 13), (48, .iload_n 1, 0, 0), (49, .bipush 8, 0, 0), (51, .imul, 0, 0), (52, .iload_n 3, 0, 0), (53, .iadd, 0, 0), (54, .iaload, 0, 0), (55, .iastore, 0, 0), (56, .iload_n 2, 0, 0), (57, .iconst 1, 0, 0), (58, .iload_n 3, 0, 0), (59, .ishl, 0, 0), (60, .iand, 0, 0), (61, .ifCond .eq 75, 0, 0), (64, .aload_n 0, 0, 0), (65, .getfield 42, 6, 15), (68, .iload_n 3, 0, 0), (69, .dup2, 0, 0), (70, .iaload, 0, 0), (71, .aload_n 0, 0, 0), (72, .getfield 9, 6, 5), (75, .iload_n 1, 0, 0), (76, .iaload, 0, 0), (77, .aload_n 0, 0, 0), (78, .getfield 9, 6, 5), (81, .iload_n 3, 0, 0), (82, .iaload, 0, 0), (83, .isub, 0, 0), (84, .aload_n 0, 0, 0), (85, .getfield 42, 6, 15), (88, .iload_n 3, 0, 0), (89, .iaload, 0, 0), (90, .isub, 0, 0), (91, .aload_n 0, 0, 0), (92, .getfield 103, 6, 1), (95, .invokestatic 154, 317, 2), (98, .iadd, 0, 0), (99, .iastore, 0, 0), (100, .aload_n 0, 0, 0), (101, .getfield 45, 6, 16), (104, .iload_n 3, 0, 0), (105, .dup2, 0, 0), (106, .iaload, 0, 0), (107, .aload_n 0, 0, 0), (108, .getfield 9, 6, 5), (111, .iload_n 3, 0, 0), (112, .iaload, 0, 0), (113, .aload_n 0, 0, 0), (114, .getfield 9, 6, 5), (117, .iload_n 1, 0, 0), (118, .iaload, 0, 0), (119, .isub, 0, 0), (120, .aload_n 0, 0, 0), (121, .getfield 45, 6, 16), (124, .iload_n 3, 0, 0), (125, .iaload, 0, 0), (126, .isub, 0, 0), (127, .aload_n 0, 0, 0), (128, .getfield 103, 6, 1), (131, .invokestatic 154, 317, 2), (134, .iadd, 0, 0), (135, .iastore, 0, 0), (136, .iinc 3 1, 0, 0), (139, .goto (-125), 0, 0), (142, .iconst 0, 0, 0), (143, .istore_n 3, 0, 0), (144, .iload_n 3, 0, 0), (145, .aload_n 0, 0, 0), (146, .getfield 70, 6, 0), (149, .if_icmp .ge 140, 0, 0), (152, .aload_n 0, 0, 0), (153, .getfield 48, 6, 17), (156, .iload_n 1, 0, 0), (157, .iaload, 0, 0), (158, .iconst 1, 0, 0), (159, .iload_n 3, 0, 0), (160, .ishl, 0, 0), (161, .iand, 0, 0), (162, .ifCond .ne 6, 0, 0), (165, .goto 118, 0, 0), (168, .iconst 0, 0, 0), (169, .istore 4, 0, 0), (171, .iload 4, 0, 0), (173, .aload_n 0, 0, 0), (174, .getfield 70, 6, 0), (177, .if_icmp .ge 88, 0, 0), (180, .iload_n 2, 0, 0), (181, .iconst 1, 0, 0), (182, .iload 4, 0, 0), (184, .ishl, 0, 0), (185, .iand, 0, 0), (186, .ifCond .eq 73, 0, 0), (189, .aload_n 0, 0, 0), (190, .getfield 42, 6, 15), (193, .iload_n 3, 0, 0), (194, .aload_n 0, 0, 0), (195, .getfield 42, 6, 15), (198, .iload_n 3, 0, 0), (199, .iaload, 0, 0), (200, .aload_n 0, 0, 0), (201, .getfield 36, 6, 13), (204, .iload_n 3, 0, 0), (205, .bipush 8, 0, 0), (207, .imul, 0, 0), (208, .iload 4, 0, 0), (210, .iadd, 0, 0), (211, .iaload, 0, 0), (212, .aload_n 0, 0, 0), (213, .getfield 42, 6, 15), (216, .iload 4, 0, 0), (218, .iaload, 0, 0), (219, .iadd, 0, 0), (220, .invokestatic 168, 318, 2), (223, .iastore, 0, 0), (224, .aload_n 0, 0, 0), (225, .getfield 45, 6, 16), (228, .iload_n 3, 0, 0), (229, .aload_n 0, 0, 0), (230, .getfield 45, 6, 16), (233, .iload_n 3, 0, 0), (234, .iaload, 0, 0), (235, .aload_n 0, 0, 0), (236, .getfield 45, 6, 16), (239, .iload 4, 0, 0), (241, .iaload, 0, 0), (242, .aload_n 0, 0, 0), (243, .getfield 36, 6, 13), (246, .iload 4, 0, 0), (248, .bipush 8, 0, 0), (250, .imul, 0, 0)]
noncomputable def tb_82_1 : List TE := [(251, .iload_n 3, 0, 0), (252, .iadd, 0, 0), (253, .iaload, 0, 0), (254, .iadd, 0, 0), (255, .invokestatic 168, 318, 2), (258, .iastore, 0, 0), (259, .iinc 4 1, 0, 0), (262, .goto (-91), 0, 0), (265, .aload_n 0, 0, 0), (266, .getfield 42, 6, 15), (269, .iload_n 3, 0, 0), (270, .iaload, 0, 0), (271, .aload_n 0, 0, 0), (272, .getfield 45, 6, 16), (275, .iload_n 3, 0, 0), (276, .iaload, 0, 0), (277, .iadd, 0, 0), (278, .ifCond .le 5, 0, 0), (281, .iconst 0, 0, 0), (282, .ireturn, 0, 0), (283, .iinc 3 1, 0, 0), (286, .goto (-142), 0, 0), (289, .iconst 1, 0, 0), (290, .ireturn, 0, 0)]
noncomputable def tb_82 : List TE := tb_82_0 ++ (tb_82_1)
noncomputable def tb_83 : List TE := [(0, .iconst 0, 0, 0), (1, .istore_n 2, 0, 0), (2, .iload_n 2, 0, 0), (3, .aload_n 0, 0, 0), (4, .getfield 70, 6, 0), (7, .if_icmp .ge 131, 0, 0), (10, .aload_n 0, 0, 0), (11, .getfield 48, 6, 17), (14, .iload_n 1, 0, 0), (15, .iaload, 0, 0), (16, .iconst 1, 0, 0), (17, .iload_n 2, 0, 0), (18, .ishl, 0, 0), (19, .iand, 0, 0), (20, .ifCond .ne 6, 0, 0), (23, .goto 109, 0, 0), (26, .aload_n 0, 0, 0), (27, .getfield 36, 6, 13), (30, .iload_n 2, 0, 0), (31, .bipush 8, 0, 0), (33, .imul, 0, 0), (34, .iload_n 1, 0, 0), (35, .iadd, 0, 0), (36, .aload_n 0, 0, 0), (37, .getfield 42, 6, 15), (40, .iload_n 2, 0, 0), (41, .iaload, 0, 0), (42, .iastore, 0, 0), (43, .aload_n 0, 0, 0), (44, .getfield 36, 6, 13), (47, .iload_n 1, 0, 0), (48, .bipush 8, 0, 0), (50, .imul, 0, 0), (51, .iload_n 2, 0, 0), (52, .iadd, 0, 0), (53, .aload_n 0, 0, 0), (54, .getfield 45, 6, 16), (57, .iload_n 2, 0, 0), (58, .iaload, 0, 0), (59, .iastore, 0, 0), (60, .iconst 0, 0, 0), (61, .istore_n 3, 0, 0), (62, .iload_n 3, 0, 0), (63, .aload_n 0, 0, 0), (64, .getfield 70, 6, 0), (67, .if_icmp .ge 65, 0, 0), (70, .iload_n 3, 0, 0), (71, .iload_n 2, 0, 0), (72, .if_icmp .eq 54, 0, 0), (75, .aload_n 0, 0, 0), (76, .getfield 48, 6, 17), (79, .iload_n 1, 0, 0), (80, .iaload, 0, 0), (81, .iconst 1, 0, 0), (82, .iload_n 3, 0, 0), (83, .ishl, 0, 0), (84, .iand, 0, 0), (85, .ifCond .eq 41, 0, 0), (88, .iload_n 2, 0, 0), (89, .bipush 8, 0, 0), (91, .imul, 0, 0), (92, .iload_n 3, 0, 0), (93, .iadd, 0, 0), (94, .istore 4, 0, 0), (96, .aload_n 0, 0, 0), (97, .getfield 36, 6, 13), (100, .iload 4, 0, 0), (102, .aload_n 0, 0, 0), (103, .getfield 36, 6, 13), (106, .iload 4, 0, 0), (108, .iaload, 0, 0), (109, .aload_n 0, 0, 0), (110, .getfield 42, 6, 15), (113, .iload_n 2, 0, 0), (114, .iaload, 0, 0), (115, .aload_n 0, 0, 0), (116, .getfield 45, 6, 16), (119, .iload_n 3, 0, 0), (120, .iaload, 0, 0), (121, .iadd, 0, 0), (122, .invokestatic 168, 318, 2), (125, .iastore, 0, 0), (126, .iinc 3 1, 0, 0), (129, .goto (-67), 0, 0), (132, .iinc 2 1, 0, 0), (135, .goto (-133), 0, 0), (138, .return_, 0, 0)]
noncomputable def tb_84 : List TE := [(0, .aload_n 0, 0, 0), (1, .invokespecial 3, 0, 6), (4, .aload_n 0, 0, 0), (5, .bipush 64, 0, 0), (7, .newarray .int, 0, 0), (9, .putfield 11, 7, 1), (12, .aload_n 0, 0, 0), (13, .bipush 64, 0, 0), (15, .newarray .int, 0, 0), (17, .putfield 15, 7, 2), (20, .aload_n 0, 0, 0), (21, .bipush 64, 0, 0), (23, .newarray .int, 0, 0), (25, .putfield 18, 7, 3), (28, .aload_n 0, 0, 0), (29, .bipush 64, 0, 0), (31, .newarray .int, 0, 0), (33, .putfield 21, 7, 4), (36, .aload_n 0, 0, 0), (37, .iconst 1, 0, 0), (38, .putfield 24, 7, 6), (41, .return_, 0, 0)]
noncomputable def tb_85 : List TE := [(0, .aload_n 0, 0, 0), (1, .getfield 28, 7, 5), (4, .aload_n 0, 0, 0), (5, .getfield 24, 7, 6), (8, .invokestatic 31, 170, 3), (11, .ireturn, 0, 0)]
noncomputable def tb_86 : List TE := [(0, .aload_n 0, 0, 0), (1, .iconst 0, 0, 0), (2, .putfield 35, 7, 0), (5, .iconst 0, 0, 0), (6, .istore_n 3, 0, 0), (7, .iload_n 3, 0, 0), (8, .aload_n 1, 0, 0), (9, .getfield 38, 0, 0), (12, .if_icmp .ge 63, 0, 0), (15, .iconst 0, 0, 0), (16, .istore 4, 0, 0), (18, .iload 4, 0, 0), (20, .aload_n 1, 0, 0), (21, .iload_n 3, 0, 0), (22, .invokevirtual 41, 5, 1), (25, .if_icmp .ge 44, 0, 0), (28, .aload_n 1, 0, 0), (29, .iload_n 3, 0, 0), (30, .iload 4, 0, 0), (32, .invokevirtual 45, 6, 1), (35, .istore 5, 0, 0), (37, .iload 5, 0, 0), (39, .ifCond .lt 24, 0, 0), (42, .aload_n 0, 0, 0), (43, .iload 5, 0, 0), (45, .iload_n 3, 0, 0), (46, .aload_n 1, 0, 0), (47, .iload_n 3, 0, 0), (48, .iload 4, 0, 0), (50, .invokevirtual 48, 7, 1), (53, .aload_n 1, 0, 0), (54, .iload 5, 0, 0), (56, .iload_n 2, 0, 0), (57, .invokestatic 51, 87, 2), (60, .invokevirtual 55, 89, 0), (63, .iinc 4 1, 0, 0), (66, .goto (-48), 0, 0), (69, .iinc 3 1, 0, 0), (72, .goto (-65), 0, 0), (75, .iconst 0, 0, 0), (76, .istore_n 3, 0, 0), (77, .iload_n 3, 0, 0), (78, .aload_n 1, 0, 0), (79, .getfield 38, 0, 0), (82, .if_icmp .ge 38, 0, 0), (85, .iload_n 3, 0, 0), (86, .iconst 1, 0, 0), (87, .iadd, 0, 0), (88, .istore 4, 0, 0), (90, .iload 4, 0, 0), (92, .aload_n 1, 0, 0), (93, .getfield 38, 0, 0), (96, .if_icmp .ge 18, 0, 0), (99, .aload_n 0, 0, 0), (100, .aload_n 1, 0, 0), (101, .iload_n 3, 0, 0), (102, .iload 4, 0, 0), (104, .iload_n 2, 0, 0), (105, .invokevirtual 59, 88, 0), (108, .iinc 4 1, 0, 0), (111, .goto (-21), 0, 0), (114, .iinc 3 1, 0, 0), (117, .goto (-40), 0, 0), (120, .return_, 0, 0)]
noncomputable def tb_87 : List TE := [(0, .aload_n 0, 0, 0), (1, .iload_n 1, 0, 0), (2, .invokevirtual 63, 2, 1), (5, .istore_n 3, 0, 0), (6, .aload_n 0, 0, 0), (7, .getfield 66, 0, 1), (10, .iload_n 1, 0, 0), (11, .iaload, 0, 0), (12, .iload_n 2, 0, 0), (13, .if_icmp .ne 9, 0, 0), (16, .iload_n 3, 0, 0), (17, .iconst 1, 0, 0), (18, .isub, 0, 0), (19, .goto 4, 0, 0), (22, .iload_n 3, 0, 0), (23, .ireturn, 0, 0)]
noncomputable def tb_88 : List TE := [(0, .aload_n 1, 0, 0), (1, .getfield 66, 0, 1), (4, .iload_n 2, 0, 0), (5, .iaload, 0, 0), (6, .iconst 4, 0, 0), (7, .if_icmp .lt 13, 0, 0), (10, .aload_n 1, 0, 0), (11, .getfield 66, 0, 1), (14, .iload_n 3, 0, 0), (15, .iaload, 0, 0), (16, .iconst 4, 0, 0), (17, .if_icmp .ge 4, 0, 0), (20, .return_, 0, 0), (21, .aload_n 1, 0, 0), (22, .iload_n 2, 0, 0), (23, .invokevirtual 69, 8, 1), (26, .aload_n 1, 0, 0), (27, .iload_n 3, 0, 0), (28, .invokevirtual 69, 8, 1), (31, .if_icmp .eq 4, 0, 0), (34, .return_, 0, 0), (35, .aload_n 1, 0, 0), (36, .iload_n 2, 0, 0), (37, .invokevirtual 72, 9, 1), (40, .aload_n 1, 0, 0), (41, .iload_n 3, 0, 0), (42, .invokevirtual 72, 9, 1), (45, .if_icmp .lt 7, 0, 0), (48, .iconst 1, 0, 0), (49, .goto 4, 0, 0), (52, .iconst 0, 0, 0), (53, .istore 5, 0, 0), (55, .iload 5, 0, 0), (57, .ifCond .eq 7, 0, 0), (60, .iload_n 2, 0, 0), (61, .goto 4, 0, 0), (64, .iload_n 3, 0, 0), (65, .istore 6, 0, 0), (67, .iload 5, 0, 0), (69, .ifCond .eq 7, 0, 0), (72, .iload_n 3, 0, 0), (73, .goto 4, 0, 0), (76, .iload_n 2, 0, 0), (77, .istore 7, 0, 0), (79, .aload_n 1, 0, 0), (80, .iload 6, 0, 0), (82, .invokevirtual 72, 9, 1), (85, .aload_n 1, 0, 0), (86, .iload 7, 0, 0), (88, .invokevirtual 72, 9, 1), (91, .isub, 0, 0), (92, .istore 8, 0, 0), (94, .aload_n 1, 0, 0), (95, .getfield 66, 0, 1), (98, .iload 6, 0, 0), (100, .iaload, 0, 0), (101, .iconst 5, 0, 0), (102, .if_icmp .ne 7, 0, 0), (105, .iconst 1, 0, 0), (106, .goto 4, 0, 0), (109, .iconst 0, 0, 0), (110, .istore 9, 0, 0), (112, .aload_n 1, 0, 0), (113, .getfield 66, 0, 1), (116, .iload 7, 0, 0), (118, .iaload, 0, 0), (119, .iconst 5, 0, 0), (120, .if_icmp .ne 7, 0, 0), (123, .iconst 1, 0, 0), (124, .goto 4, 0, 0), (127, .iconst 0, 0, 0), (128, .istore 10, 0, 0), (130, .iload 9, 0, 0), (132, .ifCond .eq 22, 0, 0), (135, .iload 10, 0, 0), (137, .ifCond .eq 17, 0, 0), (140, .aload_n 0, 0, 0), (141, .iload 6, 0, 0), (143, .iload 7, 0, 0), (145, .iload 8, 0, 0), (147, .iconst 1, 0, 0), (148, .invokevirtual 55, 89, 0), (151, .goto 54, 0, 0), (154, .iload 9, 0, 0), (156, .ifCond .eq 24, 0, 0), (159, .aload_n 0, 0, 0), (160, .iload 6, 0, 0), (162, .iload 7, 0, 0), (164, .iload 8, 0, 0), (166, .aload_n 1, 0, 0), (167, .iload 6, 0, 0), (169, .iload 4, 0, 0), (171, .invokestatic 51, 87, 2), (174, .invokevirtual 55, 89, 0), (177, .goto 28, 0, 0), (180, .iload 10, 0, 0), (182, .ifCond .eq 23, 0, 0), (185, .aload_n 0, 0, 0), (186, .iload 6, 0, 0), (188, .iload 7, 0, 0), (190, .iload 8, 0, 0), (192, .iconst 1, 0, 0), (193, .aload_n 1, 0, 0), (194, .iload 7, 0, 0), (196, .iload 4, 0, 0), (198, .invokestatic 51, 87, 2), (201, .isub, 0, 0), (202, .invokevirtual 55, 89, 0), (205, .return_, 0, 0)]
noncomputable def tb_89 : List TE := [(0, .iconst 0, 0, 0), (1, .istore 5, 0, 0), (3, .iconst (-1), 0, 0), (4, .istore 6, 0, 0), (6, .iload 5, 0, 0), (8, .aload_n 0, 0, 0), (9, .getfield 35, 7, 0), (12, .if_icmp .ge 30, 0, 0), (15, .aload_n 0, 0, 0), (16, .iload 5, 0, 0), (18, .iload_n 1, 0, 0), (19, .iload_n 2, 0, 0), (20, .iload_n 3, 0, 0), (21, .iload 4, 0, 0), (23, .invokevirtual 75, 90, 0), (26, .istore 6, 0, 0), (28, .iload 6, 0, 0), (30, .ifCond .lt 6, 0, 0), (33, .goto 9, 0, 0), (36, .iinc 5 1, 0, 0), (39, .goto (-33), 0, 0), (42, .iload 5, 0, 0), (44, .aload_n 0, 0, 0), (45, .getfield 35, 7, 0), (48, .if_icmp .ge 8, 0, 0), (51, .iload 6, 0, 0), (53, .ifCond .eq 12, 0, 0), (56, .aload_n 0, 0, 0), (57, .getfield 35, 7, 0), (60, .bipush 64, 0, 0), (62, .if_icmp .lt 4, 0, 0), (65, .return_, 0, 0), (66, .aload_n 0, 0, 0), (67, .getfield 35, 7, 0), (70, .istore 7, 0, 0), (72, .iload 7, 0, 0), (74, .iload 5, 0, 0), (76, .if_icmp .le 51, 0, 0), (79, .aload_n 0, 0, 0), (80, .iload 7, 0, 0), (82, .aload_n 0, 0, 0), (83, .getfield 11, 7, 1), (86, .iload 7, 0, 0), (88, .iconst 1, 0, 0), (89, .isub, 0, 0), (90, .iaload, 0, 0), (91, .aload_n 0, 0, 0), (92, .getfield 15, 7, 2), (95, .iload 7, 0, 0), (97, .iconst 1, 0, 0), (98, .isub, 0, 0), (99, .iaload, 0, 0), (100, .aload_n 0, 0, 0), (101, .getfield 18, 7, 3), (104, .iload 7, 0, 0), (106, .iconst 1, 0, 0), (107, .isub, 0, 0), (108, .iaload, 0, 0), (109, .aload_n 0, 0, 0), (110, .getfield 21, 7, 4), (113, .iload 7, 0, 0), (115, .iconst 1, 0, 0), (116, .isub, 0, 0), (117, .iaload, 0, 0), (118, .invokevirtual 79, 91, 0), (121, .iinc 7 (-1), 0, 0), (124, .goto (-52), 0, 0), (127, .aload_n 0, 0, 0), (128, .iload 5, 0, 0), (130, .iload_n 1, 0, 0), (131, .iload_n 2, 0, 0), (132, .iload_n 3, 0, 0), (133, .iload 4, 0, 0), (135, .invokevirtual 79, 91, 0), (138, .aload_n 0, 0, 0), (139, .dup, 0, 0), (140, .getfield 35, 7, 0), (143, .iconst 1, 0, 0), (144, .iadd, 0, 0), (145, .putfield 35, 7, 0), (148, .return_, 0, 0)]
noncomputable def tb_90 : List TE := [(0, .aload_n 0, 0, 0), (1, .getfield 11, 7, 1), (4, .iload_n 1, 0, 0), (5, .iaload, 0, 0), (6, .iload_n 2, 0, 0), (7, .if_icmp .eq 12, 0, 0), (10, .aload_n 0, 0, 0), (11, .getfield 11, 7, 1), (14, .iload_n 1, 0, 0), (15, .iaload, 0, 0), (16, .iload_n 2, 0, 0), (17, .isub, 0, 0), (18, .ireturn, 0, 0), (19, .aload_n 0, 0, 0), (20, .getfield 15, 7, 2), (23, .iload_n 1, 0, 0), (24, .iaload, 0, 0), (25, .iload_n 3, 0, 0), (26, .if_icmp .eq 12, 0, 0), (29, .aload_n 0, 0, 0), (30, .getfield 15, 7, 2), (33, .iload_n 1, 0, 0), (34, .iaload, 0, 0), (35, .iload_n 3, 0, 0), (36, .isub, 0, 0), (37, .ireturn, 0, 0), (38, .aload_n 0, 0, 0), (39, .getfield 18, 7, 3), (42, .iload_n 1, 0, 0), (43, .iaload, 0, 0), (44, .iload 4, 0, 0), (46, .if_icmp .eq 13, 0, 0), (49, .aload_n 0, 0, 0), (50, .getfield 18, 7, 3), (53, .iload_n 1, 0, 0), (54, .iaload, 0, 0), (55, .iload 4, 0, 0), (57, .isub, 0, 0), (58, .ireturn, 0, 0), (59, .aload_n 0, 0, 0), (60, .getfield 21, 7, 4), (63, .iload_n 1, 0, 0), (64, .iaload, 0, 0), (65, .iload 5, 0, 0), (67, .isub, 0, 0), (68, .ireturn, 0, 0)]
noncomputable def tb_91 : List TE := [(0, .aload_n 0, 0, 0), (1, .getfield 11, 7, 1), (4, .iload_n 1, 0, 0), (5, .iload_n 2, 0, 0), (6, .iastore, 0, 0), (7, .aload_n 0, 0, 0), (8, .getfield 15, 7, 2), (11, .iload_n 1, 0, 0), (12, .iload_n 3, 0, 0), (13, .iastore, 0, 0), (14, .aload_n 0, 0, 0), (15, .getfield 18, 7, 3), (18, .iload_n 1, 0, 0), (19, .iload 4, 0, 0), (21, .iastore, 0, 0), (22, .aload_n 0, 0, 0), (23, .getfield 21, 7, 4), (26, .iload_n 1, 0, 0), (27, .iload 5, 0, 0), (29, .iastore, 0, 0), (30, .return_, 0, 0)]
noncomputable def tb_92 : List TE := [(0, .aload_n 0, 0, 0), (1, .iconst 0, 0, 0), (2, .putfield 35, 7, 0), (5, .iconst 0, 0, 0), (6, .istore_n 3, 0, 0), (7, .iload_n 3, 0, 0), (8, .aload_n 1, 0, 0), (9, .getfield 35, 7, 0), (12, .if_icmp .ge 56, 0, 0), (15, .iload_n 3, 0, 0), (16, .iload_n 2, 0, 0), (17, .if_icmp .eq 45, 0, 0), (20, .aload_n 0, 0, 0), (21, .aload_n 0, 0, 0), (22, .getfield 35, 7, 0), (25, .aload_n 1, 0, 0), (26, .getfield 11, 7, 1), (29, .iload_n 3, 0, 0), (30, .iaload, 0, 0), (31, .aload_n 1, 0, 0), (32, .getfield 15, 7, 2), (35, .iload_n 3, 0, 0), (36, .iaload, 0, 0), (37, .aload_n 1, 0, 0), (38, .getfield 18, 7, 3), (41, .iload_n 3, 0, 0), (42, .iaload, 0, 0), (43, .aload_n 1, 0, 0), (44, .getfield 21, 7, 4), (47, .iload_n 3, 0, 0), (48, .iaload, 0, 0), (49, .invokevirtual 79, 91, 0), (52, .aload_n 0, 0, 0), (53, .dup, 0, 0), (54, .getfield 35, 7, 0), (57, .iconst 1, 0, 0), (58, .iadd, 0, 0), (59, .putfield 35, 7, 0), (62, .iinc 3 1, 0, 0), (65, .goto (-58), 0, 0), (68, .return_, 0, 0)]
noncomputable def tb_93 : List TE := [(0, .aload_n 0, 0, 0), (1, .iconst 0, 0, 0), (2, .putfield 28, 7, 5), (5, .aload_n 0, 0, 0), (6, .iconst 1, 0, 0), (7, .putfield 24, 7, 6), (10, .aload_n 0, 0, 0), (11, .iconst 0, 0, 0), (12, .putfield 83, 7, 7), (15, .iconst 0, 0, 0), (16, .istore_n 2, 0, 0), (17, .iload_n 2, 0, 0), (18, .iload_n 1, 0, 0), (19, .if_icmp .ge 20, 0, 0), (22, .aload_n 0, 0, 0), (23, .iload_n 2, 0, 0), (24, .iload_n 2, 0, 0), (25, .iconst 1, 0, 0), (26, .iload_n 2, 0, 0), (27, .ishl, 0, 0), (28, .iconst 0, 0, 0), (29, .iconst 0, 0, 0), (30, .invokevirtual 86, 94, 0), (33, .iinc 2 1, 0, 0), (36, .goto (-19), 0, 0), (39, .aload_n 0, 0, 0), (40, .getfield 28, 7, 5), (43, .aload_n 0, 0, 0), (44, .getfield 24, 7, 6), (47, .invokestatic 89, 96, 2), (50, .istore_n 2, 0, 0), (51, .iload_n 2, 0, 0), (52, .iconst 1, 0, 0), (53, .if_icmp .le 23, 0, 0), (56, .aload_n 0, 0, 0), (57, .dup, 0, 0), (58, .getfield 28, 7, 5), (61, .iload_n 2, 0, 0), (62, .idiv, 0, 0), (63, .putfield 28, 7, 5), (66, .aload_n 0, 0, 0), (67, .dup, 0, 0), (68, .getfield 24, 7, 6), (71, .iload_n 2, 0, 0), (72, .idiv, 0, 0), (73, .putfield 24, 7, 6), (76, .return_, 0, 0)]
noncomputable def tb_94 : List TE := [(0, .iconst 0, 0, 0), (1, .istore 6, 0, 0), (3, .iload 6, 0, 0), (5, .aload_n 0, 0, 0), (6, .getfield 35, 7, 0), (9, .if_icmp .ge 130, 0, 0), (12, .aload_n 0, 0, 0), (13, .getfield 11, 7, 1), (16, .iload 6, 0, 0), (18, .iaload, 0, 0), (19, .iload_n 2, 0, 0), (20, .if_icmp .ne 113, 0, 0), (23, .aload_n 0, 0, 0), (24, .getfield 15, 7, 2), (27, .iload 6, 0, 0), (29, .iaload, 0, 0), (30, .iload_n 1, 0, 0), (31, .if_icmp .ge 6, 0, 0), (34, .goto 99, 0, 0), (37, .aload_n 0, 0, 0), (38, .getfield 15, 7, 2), (41, .iload 6, 0, 0), (43, .iaload, 0, 0), (44, .iload_n 1, 0, 0), (45, .if_icmp .ne 31, 0, 0), (48, .aload_n 0, 0, 0), (49, .iload_n 3, 0, 0), (50, .iload 4, 0, 0), (52, .aload_n 0, 0, 0), (53, .getfield 21, 7, 4), (56, .iload 6, 0, 0), (58, .iaload, 0, 0), (59, .iadd, 0, 0), (60, .iload 5, 0, 0), (62, .aload_n 0, 0, 0), (63, .getfield 18, 7, 3), (66, .iload 6, 0, 0), (68, .iaload, 0, 0), (69, .iadd, 0, 0), (70, .invokevirtual 92, 95, 0), (73, .goto 60, 0, 0), (76, .iload_n 3, 0, 0), (77, .iconst 1, 0, 0), (78, .aload_n 0, 0, 0), (79, .getfield 15, 7, 2), (82, .iload 6, 0, 0), (84, .iaload, 0, 0), (85, .ishl, 0, 0), (86, .iand, 0, 0), (87, .ifCond .ne 46, 0, 0), (90, .aload_n 0, 0, 0), (91, .iload_n 1, 0, 0), (92, .aload_n 0, 0, 0), (93, .getfield 15, 7, 2), (96, .iload 6, 0, 0), (98, .iaload, 0, 0), (99, .iload_n 3, 0, 0), (100, .iconst 1, 0, 0), (101, .aload_n 0, 0, 0), (102, .getfield 15, 7, 2), (105, .iload 6, 0, 0), (107, .iaload, 0, 0), (108, .ishl, 0, 0), (109, .ior, 0, 0), (110, .iload 4, 0, 0), (112, .aload_n 0, 0, 0), (113, .getfield 21, 7, 4), (116, .iload 6, 0, 0), (118, .iaload, 0, 0), (119, .iadd, 0, 0), (120, .iload 5, 0, 0), (122, .aload_n 0, 0, 0), (123, .getfield 18, 7, 3), (126, .iload 6, 0, 0), (128, .iaload, 0, 0), (129, .iadd, 0, 0), (130, .invokevirtual 86, 94, 0), (133, .iinc 6 1, 0, 0), (136, .goto (-133), 0, 0), (139, .return_, 0, 0)]
noncomputable def tb_95 : List TE := [(0, .iload_n 2, 0, 0), (1, .ifCond .le 7, 0, 0), (4, .iload_n 3, 0, 0), (5, .ifCond .gt 4, 0, 0), (8, .return_, 0, 0), (9, .iload_n 2, 0, 0), (10, .aload_n 0, 0, 0), (11, .getfield 24, 7, 6), (14, .imul, 0, 0), (15, .aload_n 0, 0, 0), (16, .getfield 28, 7, 5), (19, .iload_n 3, 0, 0), (20, .imul, 0, 0), (21, .isub, 0, 0), (22, .istore 4, 0, 0), (24, .iload 4, 0, 0), (26, .ifCond .le 21, 0, 0), (29, .aload_n 0, 0, 0), (30, .iload_n 2, 0, 0), (31, .putfield 28, 7, 5), (34, .aload_n 0, 0, 0), (35, .iload_n 3, 0, 0), (36, .putfield 24, 7, 6), (39, .aload_n 0, 0, 0), (40, .iload_n 1, 0, 0), (41, .putfield 83, 7, 7), (44, .goto 20, 0, 0), (47, .iload 4, 0, 0), (49, .ifCond .ne 15, 0, 0), (52, .aload_n 0, 0, 0), (53, .aload_n 0, 0, 0), (54, .getfield 83, 7, 7), (57, .iload_n 1, 0, 0), (58, .invokestatic 96, 319, 2), (61, .putfield 83, 7, 7), (64, .return_, 0, 0)]
noncomputable def tb_96 : List TE := [(0, .iload_n 0, 0, 0), (1, .istore_n 2, 0, 0), (2, .iload_n 1, 0, 0), (3, .istore_n 3, 0, 0), (4, .iconst 0, 0, 0), (5, .istore 4, 0, 0), (7, .iload 4, 0, 0), (9, .bipush 100, 0, 0), (11, .if_icmp .ge 23, 0, 0), (14, .iload_n 3, 0, 0), (15, .ifCond .eq 19, 0, 0), (18, .iload_n 2, 0, 0), (19, .iload_n 3, 0, 0), (20, .irem, 0, 0), (21, .istore 5, 0, 0), (23, .iload_n 3, 0, 0), (24, .istore_n 2, 0, 0), (25, .iload 5, 0, 0), (27, .istore_n 3, 0, 0), (28, .iinc 4 1, 0, 0), (31, .goto (-24), 0, 0), (34, .iload_n 2, 0, 0), (35, .ireturn, 0, 0)]
noncomputable def tb_97 : List TE := [(0, .aload_n 0, 0, 0), (1, .invokespecial 3, 0, 6), (4, .aload_n 0, 0, 0), (5, .bipush 8, 0, 0), (7, .newarray .int, 0, 0), (9, .putfield 9, 8, 0), (12, .return_, 0, 0)]
noncomputable def tb_98 : List TE := [(0, .iconst 1, 0, 0), (1, .istore_n 3, 0, 0), (2, .iconst 0, 0, 0), (3, .istore 4, 0, 0), (5, .iload 4, 0, 0), (7, .aload_n 1, 0, 0), (8, .getfield 15, 1, 2), (11, .if_icmp .ge 63, 0, 0), (14, .aload_n 0, 0, 0), (15, .getfield 9, 8, 0), (18, .iload 4, 0, 0), (20, .iconst (-1), 0, 0), (21, .iastore, 0, 0), (22, .iload_n 3, 0, 0), (23, .ifCond .eq 45, 0, 0), (26, .aload_n 1, 0, 0), (27, .getfield 21, 1, 11), (30, .iload 4, 0, 0), (32, .iaload, 0, 0), (33, .ifCond .le 35, 0, 0), (36, .aload_n 0, 0, 0), (37, .getfield 9, 8, 0), (40, .iload 4, 0, 0), (42, .aload_n 0, 0, 0), (43, .aload_n 1, 0, 0), (44, .iload 4, 0, 0), (46, .iload_n 2, 0, 0), (47, .invokevirtual 24, 99, 0), (50, .iastore, 0, 0), (51, .aload_n 0, 0, 0), (52, .getfield 9, 8, 0), (55, .iload 4, 0, 0), (57, .iaload, 0, 0), (58, .iconst (-1), 0, 0), (59, .if_icmp .eq 7, 0, 0), (62, .iconst 1, 0, 0), (63, .goto 4, 0, 0), (66, .iconst 0, 0, 0), (67, .istore_n 3, 0, 0), (68, .iinc 4 1, 0, 0), (71, .goto (-66), 0, 0), (74, .iload_n 3, 0, 0), (75, .ireturn, 0, 0)]
noncomputable def tb_99 : List TE := [(0, .aload_n 1, 0, 0), (1, .getfield 21, 1, 11), (4, .iload_n 2, 0, 0), (5, .iaload, 0, 0), (6, .aload_n 1, 0, 0), (7, .getfield 28, 1, 3), (10, .iload_n 3, 0, 0), (11, .imul, 0, 0), (12, .if_icmp .le 5, 0, 0), (15, .iconst (-1), 0, 0), (16, .ireturn, 0, 0), (17, .lconst 0, 0, 0), (18, .lstore 4, 0, 0), (20, .iconst 0, 0, 0), (21, .istore 6, 0, 0), (23, .iload 6, 0, 0), (25, .iload_n 2, 0, 0), (26, .if_icmp .ge 33, 0, 0), (29, .aload_n 1, 0, 0), (30, .getfield 21, 1, 11), (33, .iload 6, 0, 0), (35, .iaload, 0, 0), (36, .ifCond .le 17, 0, 0), (39, .lload 4, 0, 0), (41, .aload_n 0, 0, 0), (42, .aload_n 1, 0, 0), (43, .iload 6, 0, 0), (45, .iload_n 2, 0, 0), (46, .iload_n 3, 0, 0), (47, .invokevirtual 31, 100, 0), (50, .lor, 0, 0), (51, .lstore 4, 0, 0), (53, .iinc 6 1, 0, 0), (56, .goto (-33), 0, 0), (59, .iconst 0, 0, 0), (60, .istore 6, 0, 0), (62, .iload 6, 0, 0), (64, .iload_n 3, 0, 0), (65, .if_icmp .ge 24, 0, 0), (68, .lload 4, 0, 0), (70, .lconst 1, 0, 0), (71, .iload 6, 0, 0), (73, .lshl, 0, 0), (74, .land, 0, 0), (75, .lconst 0, 0, 0), (76, .lcmp, 0, 0), (77, .ifCond .ne 6, 0, 0), (80, .iload 6, 0, 0), (82, .ireturn, 0, 0), (83, .iinc 6 1, 0, 0), (86, .goto (-24), 0, 0), (89, .iconst (-1), 0, 0), (90, .ireturn, 0, 0)]
noncomputable def tb_100 : List TE := [(0, .aload_n 1, 0, 0), (1, .getfield 35, 1, 10), (4, .iload_n 2, 0, 0), (5, .iaload, 0, 0), (6, .aload_n 1, 0, 0), (7, .getfield 35, 1, 10), (10, .iload_n 3, 0, 0), (11, .iaload, 0, 0), (12, .isub, 0, 0), (13, .istore 5, 0, 0), (15, .iload 5, 0, 0), (17, .aload_n 1, 0, 0), (18, .getfield 21, 1, 11), (21, .iload_n 3, 0, 0), (22, .iaload, 0, 0), (23, .isub, 0, 0), (24, .iconst 1, 0, 0), (25, .iadd, 0, 0), (26, .aload_n 1, 0, 0), (27, .getfield 28, 1, 3), (30, .invokestatic 38, 170, 3), (33, .istore 6, 0, 0), (35, .iload 5, 0, 0), (37, .aload_n 1, 0, 0), (38, .getfield 21, 1, 11), (41, .iload_n 2, 0, 0), (42, .iaload, 0, 0), (43, .iadd, 0, 0), (44, .iconst 1, 0, 0), (45, .isub, 0, 0), (46, .aload_n 1, 0, 0), (47, .getfield 28, 1, 3), (50, .invokestatic 42, 316, 2), (53, .istore 7, 0, 0), (55, .lconst 0, 0, 0), (56, .lstore 8, 0, 0), (58, .iload 6, 0, 0), (60, .istore 10, 0, 0), (62, .iload 10, 0, 0), (64, .iload 7, 0, 0), (66, .if_icmp .gt 40, 0, 0), (69, .iload 10, 0, 0), (71, .iload 6, 0, 0), (73, .iload 4, 0, 0), (75, .iadd, 0, 0), (76, .if_icmp .ge 30, 0, 0), (79, .lload 8, 0, 0), (81, .lconst 1, 0, 0), (82, .aload_n 0, 0, 0), (83, .getfield 9, 8, 0), (86, .iload_n 2, 0, 0), (87, .iaload, 0, 0), (88, .iload 10, 0, 0), (90, .iadd, 0, 0), (91, .iload 4, 0, 0), (93, .invokestatic 47, 317, 2), (96, .lshl, 0, 0), (97, .lor, 0, 0), (98, .lstore 8, 0, 0), (100, .iinc 10 1, 0, 0), (103, .goto (-41), 0, 0), (106, .lload 8, 0, 0), (108, .lreturn, 0, 0)]
noncomputable def tb_101 : List TE := [(0, .aload_n 0, 0, 0), (1, .invokespecial 3, 0, 6), (4, .aload_n 0, 0, 0), (5, .new 9, 0, 0), (8, .dup, 0, 0), (9, .invokespecial 11, 0, 5), (12, .putfield 12, 9, 0), (15, .aload_n 0, 0, 0), (16, .new 16, 7, 0), (19, .dup, 0, 0), (20, .invokespecial 18, 84, 5), (23, .putfield 19, 9, 1), (26, .aload_n 0, 0, 0), (27, .new 16, 7, 0), (30, .dup, 0, 0), (31, .invokespecial 18, 84, 5), (34, .putfield 23, 9, 2), (37, .aload_n 0, 0, 0), (38, .new 26, 5, 0), (41, .dup, 0, 0), (42, .invokespecial 28, 58, 5), (45, .putfield 29, 9, 3), (48, .aload_n 0, 0, 0), (49, .new 33, 6, 0), (52, .dup, 0, 0), (53, .invokespecial 35, 64, 5), (56, .putfield 36, 9, 4), (59, .aload_n 0, 0, 0), (60, .bipush 13, 0, 0), (62, .anewarray 40, 0, 0), (65, .putfield 42, 9, 5), (68, .iconst 0, 0, 0), (69, .istore_n 1, 0, 0), (70, .iload_n 1, 0, 0), (71, .bipush 12, 0, 0), (73, .if_icmp .gt 22, 0, 0), (76, .aload_n 0, 0, 0), (77, .getfield 42, 9, 5), (80, .iload_n 1, 0, 0), (81, .new 40, 1, 0), (84, .dup, 0, 0), (85, .invokespecial 46, 15, 5), (88, .aastore, 0, 0), (89, .iinc 1 1, 0, 0), (92, .goto (-22), 0, 0), (95, .aload_n 0, 0, 0), (96, .new 47, 2, 0), (99, .dup, 0, 0), (100, .invokespecial 49, 36, 5), (103, .putfield 50, 9, 6), (106, .aload_n 0, 0, 0), (107, .new 54, 4, 0), (110, .dup, 0, 0), (111, .invokespecial 56, 53, 5), (114, .putfield 57, 9, 7), (117, .aload_n 0, 0, 0), (118, .new 61, 8, 0), (121, .dup, 0, 0), (122, .invokespecial 63, 97, 5), (125, .putfield 64, 9, 8), (128, .aload_n 0, 0, 0), (129, .new 68, 3, 0), (132, .dup, 0, 0), (133, .invokespecial 70, 49, 5), (136, .putfield 71, 9, 9), (139, .aload_n 0, 0, 0), (140, .iconst 1, 0, 0), (141, .putfield 75, 9, 11), (144, .return_, 0, 0)]
noncomputable def tb_102 : List TE := [(0, .iload_n 1, 0, 0), (1, .ifCond .lt 26, 0, 0), (4, .iload_n 1, 0, 0), (5, .iconst 4, 0, 0), (6, .if_icmp .ge 21, 0, 0), (9, .iload_n 2, 0, 0), (10, .iload_n 3, 0, 0), (11, .invokestatic 79, 168, 2), (14, .ifCond .eq 13, 0, 0), (17, .iload 4, 0, 0), (19, .iload 5, 0, 0), (21, .invokestatic 79, 168, 2), (24, .ifCond .ne 13, 0, 0), (27, .new 83, 0, 1), (30, .dup, 0, 0), (31, .ldc 85, 0, 98), (33, .invokespecial 87, 0, 98), (36, .athrow, 0, 0), (37, .aload_n 0, 0, 0), (38, .iload_n 1, 0, 0), (39, .iload_n 2, 0, 0), (40, .iload_n 3, 0, 0), (41, .iload 4, 0, 0), (43, .iload 5, 0, 0), (45, .invokevirtual 90, 151, 0), (48, .ireturn, 0, 0)]
noncomputable def tb_103 : List TE := [(0, .iload_n 1, 0, 0), (1, .iload_n 2, 0, 0), (2, .invokestatic 94, 169, 2), (5, .ifCond .ne 13, 0, 0), (8, .new 83, 1, 1), (11, .dup, 0, 0), (12, .ldc 97, 0, 98), (14, .invokespecial 87, 0, 98), (17, .athrow, 0, 0), (18, .aload_n 0, 0, 0), (19, .iconst 4, 0, 0), (20, .iload_n 1, 0, 0), (21, .iload_n 2, 0, 0), (22, .iconst 0, 0, 0), (23, .iconst 0, 0, 0), (24, .invokevirtual 90, 151, 0), (27, .ireturn, 0, 0)]
noncomputable def tb_104 : List TE := [(0, .iload_n 1, 0, 0), (1, .iload_n 2, 0, 0), (2, .invokestatic 79, 168, 2), (5, .ifCond .eq 12, 0, 0), (8, .iload_n 3, 0, 0), (9, .iload 4, 0, 0), (11, .invokestatic 94, 169, 2), (14, .ifCond .ne 13, 0, 0), (17, .new 83, 2, 1), (20, .dup, 0, 0), (21, .ldc 99, 0, 98), (23, .invokespecial 87, 0, 98), (26, .athrow, 0, 0), (27, .aload_n 0, 0, 0), (28, .iconst 5, 0, 0), (29, .iload_n 1, 0, 0), (30, .iload_n 2, 0, 0), (31, .iload_n 3, 0, 0), (32, .iload 4, 0, 0), (34, .invokevirtual 90, 151, 0), (37, .ireturn, 0, 0)]
noncomputable def tb_105 : List TE := [(0, .aload_n 0, 0, 0), (1, .getfield 12, 9, 0), (4, .getfield 101, 0, 0), (7, .ifCond .ne 13, 0, 0), (10, .new 105, 3, 1), (13, .dup, 0, 0), (14, .ldc 107, 0, 98), (16, .invokespecial 109, 0, 98), (19, .athrow, 0, 0), (20, .aload_n 0, 0, 0), (21, .getfield 12, 9, 0), (24, .dup, 0, 0), (25, .getfield 101, 0, 0), (28, .iconst 1, 0, 0), (29, .isub, 0, 0), (30, .putfield 101, 0, 0), (33, .aload_n 0, 0, 0), (34, .iconst 1, 0, 0), (35, .putfield 75, 9, 11), (38, .aload_n 0, 0, 0), (39, .getfield 12, 9, 0), (42, .getfield 101, 0, 0), (45, .ireturn, 0, 0)]
noncomputable def tb_106 : List TE := [(0, .aload_n 0, 0, 0), (1, .iload_n 1, 0, 0), (2, .invokevirtual 110, 158, 0), (5, .iload_n 2, 0, 0), (6, .sipush (-9999), 0, 0), (9, .if_icmp .lt 10, 0, 0), (12, .iload_n 2, 0, 0), (13, .sipush 9999, 0, 0), (16, .if_icmp .le 13, 0, 0), (19, .new 83, 4, 1), (22, .dup, 0, 0), (23, .ldc 114, 0, 98), (25, .invokespecial 87, 0, 98), (28, .athrow, 0, 0), (29, .aload_n 0, 0, 0), (30, .getfield 12, 9, 0), (33, .getfield 116, 0, 3), (36, .iload_n 1, 0, 0), (37, .iaload, 0, 0), (38, .istore_n 3, 0, 0), (39, .aload_n 0, 0, 0), (40, .getfield 12, 9, 0), (43, .getfield 116, 0, 3), (46, .iload_n 1, 0, 0), (47, .iload_n 2, 0, 0), (48, .iastore, 0, 0), (49, .iload_n 3, 0, 0), (50, .ireturn, 0, 0)]
noncomputable def tb_107 : List TE := [(0, .aload_n 0, 0, 0), (1, .iload_n 1, 0, 0), (2, .invokevirtual 120, 160, 0), (5, .iload_n 2, 0, 0), (6, .ifCond .lt 23, 0, 0), (9, .iload_n 2, 0, 0), (10, .iconst 3, 0, 0), (11, .if_icmp .ge 18, 0, 0), (14, .iload_n 3, 0, 0), (15, .iconst 1, 0, 0), (16, .if_icmp .lt 13, 0, 0), (19, .iload_n 3, 0, 0), (20, .bipush 6, 0, 0), (22, .if_icmp .gt 7, 0, 0), (25, .iconst 1, 0, 0), (26, .goto 4, 0, 0), (29, .iconst 0, 0, 0), (30, .istore 5, 0, 0), (32, .iload 5, 0, 0), (34, .ifCond .eq 16, 0, 0), (37, .iload 4, 0, 0), (39, .iconst 1, 0, 0), (40, .if_icmp .lt 10, 0, 0), (43, .iload 4, 0, 0), (45, .bipush 15, 0, 0), (47, .if_icmp .le 13, 0, 0), (50, .new 83, 5, 1), (53, .dup, 0, 0), (54, .ldc 123, 0, 98), (56, .invokespecial 87, 0, 98), (59, .athrow, 0, 0), (60, .aload_n 0, 0, 0), (61, .getfield 12, 9, 0), (64, .getfield 125, 0, 4), (67, .iload_n 1, 0, 0), (68, .iload_n 2, 0, 0), (69, .iastore, 0, 0), (70, .aload_n 0, 0, 0), (71, .getfield 12, 9, 0), (74, .getfield 128, 0, 5), (77, .iload_n 1, 0, 0), (78, .iload_n 3, 0, 0), (79, .iastore, 0, 0), (80, .aload_n 0, 0, 0), (81, .getfield 12, 9, 0), (84, .getfield 131, 0, 6), (87, .iload_n 1, 0, 0), (88, .iload 4, 0, 0), (90, .iastore, 0, 0), (91, .aload_n 0, 0, 0), (92, .iconst 1, 0, 0), (93, .putfield 75, 9, 11), (96, .return_, 0, 0)]
noncomputable def tb_108 : List TE := [(0, .aload_n 0, 0, 0), (1, .iload_n 1, 0, 0), (2, .invokevirtual 134, 159, 0), (5, .iload_n 2, 0, 0), (6, .iconst 1, 0, 0), (7, .if_icmp .lt 8, 0, 0), (10, .iload_n 2, 0, 0), (11, .iconst 3, 0, 0), (12, .if_icmp .le 13, 0, 0), (15, .new 83, 6, 1), (18, .dup, 0, 0), (19, .ldc 137, 0, 98), (21, .invokespecial 87, 0, 98), (24, .athrow, 0, 0), (25, .aload_n 0, 0, 0), (26, .getfield 12, 9, 0), (29, .getfield 139, 0, 7), (32, .iload_n 1, 0, 0), (33, .iaload, 0, 0), (34, .istore_n 3, 0, 0), (35, .aload_n 0, 0, 0), (36, .getfield 12, 9, 0), (39, .getfield 139, 0, 7), (42, .iload_n 1, 0, 0), (43, .iload_n 2, 0, 0), (44, .iastore, 0, 0), (45, .aload_n 0, 0, 0), (46, .iconst 1, 0, 0), (47, .putfield 75, 9, 11), (50, .iload_n 3, 0, 0), (51, .ireturn, 0, 0)]
noncomputable def tb_109 : List TE := [(0, .aload_n 0, 0, 0), (1, .iload_n 1, 0, 0), (2, .invokevirtual 110, 158, 0), (5, .iload_n 2, 0, 0), (6, .iconst 5, 0, 0), (7, .invokestatic 142, 163, 2), (10, .iload_n 2, 0, 0), (11, .ifCond .ne 13, 0, 0), (14, .aload_n 0, 0, 0), (15, .getfield 12, 9, 0), (18, .getfield 146, 0, 1), (21, .iload_n 1, 0, 0), (22, .iaload, 0, 0), (23, .ireturn, 0, 0), (24, .iload_n 2, 0, 0), (25, .iconst 5, 0, 0), (26, .if_icmp .ne 13, 0, 0), (29, .aload_n 0, 0, 0), (30, .getfield 12, 9, 0), (33, .getfield 116, 0, 3), (36, .iload_n 1, 0, 0), (37, .iaload, 0, 0), (38, .ireturn, 0, 0), (39, .aload_n 0, 0, 0), (40, .getfield 12, 9, 0), (43, .getfield 149, 0, 2), (46, .iload_n 1, 0, 0), (47, .iconst 4, 0, 0), (48, .imul, 0, 0), (49, .iload_n 2, 0, 0), (50, .iadd, 0, 0), (51, .iconst 1, 0, 0), (52, .isub, 0, 0), (53, .iaload, 0, 0), (54, .ireturn, 0, 0)]
noncomputable def tb_110 : List TE := [(0, .aload_n 0, 0, 0), (1, .invokevirtual 152, 153, 0), (4, .aload_n 0, 0, 0), (5, .getfield 155, 9, 10), (8, .ireturn, 0, 0)]
noncomputable def tb_111 : List TE := [(0, .aload_n 0, 0, 0), (1, .invokevirtual 158, 156, 0), (4, .aload_n 0, 0, 0), (5, .iload_n 1, 0, 0), (6, .invokevirtual 161, 161, 0), (9, .iload_n 2, 0, 0), (10, .iconst 3, 0, 0), (11, .invokestatic 142, 163, 2), (14, .iload_n 2, 0, 0), (15, .tableswitch 55 0 2 #[25, 35, 45], 25, 0), (40, .aload_n 0, 0, 0), (41, .getfield 19, 9, 1), (44, .getfield 164, 7, 1), (47, .iload_n 1, 0, 0), (48, .iaload, 0, 0), (49, .ireturn, 0, 0), (50, .aload_n 0, 0, 0), (51, .getfield 19, 9, 1), (54, .getfield 167, 7, 2), (57, .iload_n 1, 0, 0), (58, .iaload, 0, 0), (59, .ireturn, 0, 0), (60, .aload_n 0, 0, 0), (61, .getfield 19, 9, 1), (64, .getfield 170, 7, 3), (67, .iload_n 1, 0, 0), (68, .iaload, 0, 0), (69, .ireturn, 0, 0), (70, .aload_n 0, 0, 0), (71, .getfield 19, 9, 1), (74, .getfield 173, 7, 4), (77, .iload_n 1, 0, 0), (78, .iaload, 0, 0), (79, .ireturn, 0, 0)]
noncomputable def tb_112 : List TE := [(0, .aload_n 0, 0, 0), (1, .iload_n 1, 0, 0), (2, .invokevirtual 110, 158, 0), (5, .aload_n 0, 0, 0), (6, .iload_n 2, 0, 0), (7, .invokevirtual 110, 158, 0), (10, .aload_n 0, 0, 0), (11, .iload_n 3, 0, 0), (12, .invokevirtual 176, 157, 0), (15, .aload_n 0, 0, 0), (16, .getfield 29, 9, 3), (19, .getfield 179, 5, 2), (22, .iload_n 1, 0, 0), (23, .bipush 8, 0, 0), (25, .imul, 0, 0), (26, .iload_n 2, 0, 0), (27, .iadd, 0, 0), (28, .iaload, 0, 0), (29, .istore 4, 0, 0), (31, .iload 4, 0, 0), (33, .ldc 182, 2, 0), (35, .if_icmp .ne 9, 0, 0), (38, .sipush (-1000), 0, 0), (41, .goto 5, 0, 0), (44, .iload 4, 0, 0), (46, .ireturn, 0, 0)]
noncomputable def tb_113 : List TE := [(0, .aload_n 0, 0, 0), (1, .iload_n 1, 0, 0), (2, .invokevirtual 110, 158, 0), (5, .aload_n 0, 0, 0), (6, .iload_n 2, 0, 0), (7, .invokevirtual 176, 157, 0), (10, .aload_n 0, 0, 0), (11, .getfield 29, 9, 3), (14, .iload_n 1, 0, 0), (15, .invokevirtual 183, 61, 1), (18, .ireturn, 0, 0)]
noncomputable def tb_114 : List TE := [(0, .aload_n 0, 0, 0), (1, .iload_n 1, 0, 0), (2, .invokevirtual 134, 159, 0), (5, .aload_n 0, 0, 0), (6, .getfield 12, 9, 0), (9, .iload_n 1, 0, 0), (10, .invokevirtual 187, 12, 1), (13, .ireturn, 0, 0)]
noncomputable def tb_115 : List TE := [(0, .iload_n 1, 0, 0), (1, .invokestatic 190, 164, 2), (4, .aload_n 0, 0, 0), (5, .invokevirtual 158, 156, 0), (8, .aload_n 0, 0, 0), (9, .iload_n 1, 0, 0), (10, .invokevirtual 193, 154, 0), (13, .getfield 197, 1, 1), (16, .ireturn, 0, 0)]
noncomputable def tb_116 : List TE := [(0, .aload_n 0, 0, 0), (1, .invokevirtual 158, 156, 0), (4, .iconst 1, 0, 0), (5, .istore_n 1, 0, 0), (6, .iload_n 1, 0, 0), (7, .bipush 12, 0, 0), (9, .if_icmp .gt 22, 0, 0), (12, .aload_n 0, 0, 0), (13, .iload_n 1, 0, 0), (14, .invokevirtual 193, 154, 0), (17, .getfield 197, 1, 1), (20, .ifCond .eq 5, 0, 0), (23, .iload_n 1, 0, 0), (24, .ireturn, 0, 0), (25, .iinc 1 1, 0, 0), (28, .goto (-22), 0, 0), (31, .iconst (-1), 0, 0), (32, .ireturn, 0, 0)]
noncomputable def tb_117 : List TE := [(0, .aload_n 0, 0, 0), (1, .iload_n 1, 0, 0), (2, .invokevirtual 110, 158, 0), (5, .aload_n 0, 0, 0), (6, .iload_n 2, 0, 0), (7, .invokevirtual 200, 155, 0), (10, .getfield 203, 1, 9), (13, .iload_n 1, 0, 0), (14, .iaload, 0, 0), (15, .ireturn, 0, 0)]
noncomputable def tb_118 : List TE := [(0, .aload_n 0, 0, 0), (1, .iload_n 1, 0, 0), (2, .invokevirtual 134, 159, 0), (5, .iload_n 3, 0, 0), (6, .invokestatic 190, 164, 2), (9, .iload_n 2, 0, 0), (10, .iload_n 3, 0, 0), (11, .invokestatic 206, 165, 2), (14, .aload_n 0, 0, 0), (15, .iload_n 3, 0, 0), (16, .invokevirtual 200, 155, 0), (19, .aload_n 0, 0, 0), (20, .getfield 12, 9, 0), (23, .iload_n 1, 0, 0), (24, .iload_n 2, 0, 0), (25, .invokevirtual 209, 26, 1), (28, .ireturn, 0, 0)]
noncomputable def tb_119 : List TE := [(0, .aload_n 0, 0, 0), (1, .iload_n 1, 0, 0), (2, .invokevirtual 110, 158, 0), (5, .aload_n 0, 0, 0), (6, .iload_n 2, 0, 0), (7, .invokevirtual 176, 157, 0), (10, .aload_n 0, 0, 0), (11, .getfield 50, 9, 6), (14, .aload_n 0, 0, 0), (15, .getfield 12, 9, 0), (18, .aload_n 0, 0, 0), (19, .getfield 19, 9, 1), (22, .aload_n 0, 0, 0), (23, .getfield 29, 9, 3), (26, .iload_n 2, 0, 0), (27, .invokevirtual 213, 37, 1), (30, .aload_n 0, 0, 0), (31, .getfield 50, 9, 6), (34, .getfield 217, 2, 1), (37, .ifCond .eq 15, 0, 0), (40, .aload_n 0, 0, 0), (41, .getfield 50, 9, 6), (44, .getfield 220, 2, 4), (47, .iload_n 1, 0, 0), (48, .iaload, 0, 0), (49, .goto 4, 0, 0), (52, .iconst (-1), 0, 0), (53, .ireturn, 0, 0)]
noncomputable def tb_120 : List TE := [(0, .aload_n 0, 0, 0), (1, .iload_n 1, 0, 0), (2, .invokevirtual 176, 157, 0), (5, .aload_n 0, 0, 0), (6, .getfield 50, 9, 6), (9, .aload_n 0, 0, 0), (10, .getfield 12, 9, 0), (13, .aload_n 0, 0, 0), (14, .getfield 19, 9, 1), (17, .aload_n 0, 0, 0), (18, .getfield 29, 9, 3), (21, .iload_n 1, 0, 0), (22, .invokevirtual 213, 37, 1), (25, .aload_n 0, 0, 0), (26, .getfield 50, 9, 6), (29, .getfield 217, 2, 1), (32, .ifCond .eq 13, 0, 0), (35, .aload_n 0, 0, 0), (36, .getfield 50, 9, 6), (39, .getfield 221, 2, 2), (42, .goto 4, 0, 0), (45, .iconst (-1), 0, 0), (46, .ireturn, 0, 0)]
noncomputable def tb_121 : List TE := [(0, .aload_n 0, 0, 0), (1, .invokevirtual 158, 156, 0), (4, .iconst 1, 0, 0), (5, .aload_n 0, 0, 0), (6, .getfield 19, 9, 1), (9, .invokevirtual 224, 85, 1), (12, .invokestatic 228, 318, 2), (15, .istore_n 1, 0, 0), (16, .iload_n 1, 0, 0), (17, .bipush 12, 0, 0), (19, .if_icmp .gt 57, 0, 0), (22, .aload_n 0, 0, 0), (23, .getfield 29, 9, 3), (26, .aload_n 0, 0, 0), (27, .getfield 12, 9, 0), (30, .aload_n 0, 0, 0), (31, .getfield 19, 9, 1), (34, .iload_n 1, 0, 0), (35, .invokevirtual 234, 59, 1), (38, .aload_n 0, 0, 0), (39, .getfield 50, 9, 6), (42, .aload_n 0, 0, 0), (43, .getfield 12, 9, 0), (46, .aload_n 0, 0, 0), (47, .getfield 19, 9, 1), (50, .aload_n 0, 0, 0), (51, .getfield 29, 9, 3), (54, .iload_n 1, 0, 0), (55, .invokevirtual 213, 37, 1), (58, .aload_n 0, 0, 0), (59, .getfield 50, 9, 6), (62, .getfield 217, 2, 1), (65, .ifCond .eq 5, 0, 0), (68, .iload_n 1, 0, 0), (69, .ireturn, 0, 0), (70, .iinc 1 1, 0, 0), (73, .goto (-57), 0, 0), (76, .iconst (-1), 0, 0), (77, .ireturn, 0, 0)]
noncomputable def tb_122 : List TE := [(0, .iload_n 2, 0, 0), (1, .bipush 6, 0, 0), (3, .invokestatic 142, 163, 2), (6, .aload_n 0, 0, 0), (7, .iload_n 1, 0, 0), (8, .invokevirtual 200, 155, 0), (11, .astore_n 3, 0, 0), (12, .iload_n 2, 0, 0), (13, .tableswitch 73 0 5 #[39, 44, 49, 54, 59, 64], 39, 0), (52, .aload_n 3, 0, 0), (53, .getfield 238, 1, 4), (56, .ireturn, 0, 0), (57, .aload_n 3, 0, 0), (58, .getfield 241, 1, 5), (61, .ireturn, 0, 0), (62, .aload_n 3, 0, 0), (63, .getfield 244, 1, 6), (66, .ireturn, 0, 0), (67, .aload_n 3, 0, 0), (68, .getfield 247, 1, 7), (71, .ireturn, 0, 0), (72, .aload_n 3, 0, 0), (73, .invokevirtual 250, 20, 1), (76, .ireturn, 0, 0), (77, .aload_n 3, 0, 0), (78, .aload_n 3, 0, 0), (79, .invokevirtual 253, 23, 1), (82, .invokevirtual 256, 22, 1), (85, .ireturn, 0, 0), (86, .aload_n 3, 0, 0), (87, .invokevirtual 253, 23, 1), (90, .ireturn, 0, 0)]
noncomputable def tb_123 : List TE := [(0, .aload_n 0, 0, 0), (1, .iload_n 1, 0, 0), (2, .invokevirtual 110, 158, 0), (5, .iload_n 3, 0, 0), (6, .iconst 5, 0, 0), (7, .invokestatic 142, 163, 2), (10, .aload_n 0, 0, 0), (11, .iload_n 2, 0, 0), (12, .invokevirtual 200, 155, 0), (15, .astore 4, 0, 0), (17, .iload_n 3, 0, 0), (18, .tableswitch 73 0 4 #[34, 41, 49, 57, 65], 34, 0), (52, .aload 4, 0, 0), (54, .iload_n 1, 0, 0), (55, .invokevirtual 259, 21, 1), (58, .ireturn, 0, 0), (59, .aload 4, 0, 0), (61, .getfield 262, 1, 8), (64, .iload_n 1, 0, 0), (65, .iaload, 0, 0), (66, .ireturn, 0, 0), (67, .aload 4, 0, 0), (69, .getfield 265, 1, 11), (72, .iload_n 1, 0, 0), (73, .iaload, 0, 0), (74, .ireturn, 0, 0), (75, .aload 4, 0, 0), (77, .getfield 268, 1, 12), (80, .iload_n 1, 0, 0), (81, .iaload, 0, 0), (82, .ireturn, 0, 0), (83, .aload 4, 0, 0), (85, .getfield 271, 1, 13), (88, .iload_n 1, 0, 0), (89, .iaload, 0, 0), (90, .ireturn, 0, 0), (91, .aload 4, 0, 0), (93, .aload_n 0, 0, 0), (94, .getfield 19, 9, 1), (97, .iload_n 1, 0, 0), (98, .invokevirtual 274, 24, 1), (101, .ireturn, 0, 0)]
noncomputable def tb_124 : List TE := [(0, .iload_n 2, 0, 0), (1, .invokestatic 190, 164, 2), (4, .iload_n 1, 0, 0), (5, .iload_n 2, 0, 0), (6, .invokestatic 206, 165, 2), (9, .aload_n 0, 0, 0), (10, .iload_n 2, 0, 0), (11, .invokevirtual 200, 155, 0), (14, .iload_n 1, 0, 0), (15, .invokevirtual 256, 22, 1), (18, .ireturn, 0, 0)]
noncomputable def tb_125 : List TE := [(0, .aload_n 0, 0, 0), (1, .iload_n 1, 0, 0), (2, .invokevirtual 110, 158, 0), (5, .iload_n 3, 0, 0), (6, .invokestatic 190, 164, 2), (9, .iload 4, 0, 0), (11, .invokestatic 278, 166, 2), (14, .iload_n 2, 0, 0), (15, .ifCond .ge 14, 0, 0), (18, .new 83, 7, 1), (21, .dup, 0, 0), (22, .ldc_w 281, 0, 98), (25, .invokespecial 87, 0, 98), (28, .athrow, 0, 0), (29, .aload_n 0, 0, 0), (30, .iload_n 3, 0, 0), (31, .invokevirtual 200, 155, 0), (34, .iload_n 1, 0, 0), (35, .iload_n 2, 0, 0), (36, .iload 4, 0, 0), (38, .invokevirtual 283, 28, 1), (41, .ireturn, 0, 0)]
noncomputable def tb_126 : List TE := [(0, .iload_n 3, 0, 0), (1, .iconst 3, 0, 0), (2, .invokestatic 142, 163, 2), (5, .iload_n 1, 0, 0), (6, .invokestatic 190, 164, 2), (9, .iload_n 2, 0, 0), (10, .invokestatic 278, 166, 2), (13, .aload_n 0, 0, 0), (14, .iload_n 1, 0, 0), (15, .invokevirtual 200, 155, 0), (18, .astore 4, 0, 0), (20, .iload_n 3, 0, 0), (21, .tableswitch 48 0 2 #[27, 34, 41], 27, 0), (48, .aload 4, 0, 0), (50, .iload_n 2, 0, 0), (51, .invokevirtual 287, 29, 1), (54, .ireturn, 0, 0), (55, .aload 4, 0, 0), (57, .iload_n 2, 0, 0), (58, .invokevirtual 290, 30, 1), (61, .ireturn, 0, 0), (62, .aload 4, 0, 0), (64, .iload_n 2, 0, 0), (65, .invokevirtual 293, 31, 1), (68, .ireturn, 0, 0), (69, .aload 4, 0, 0), (71, .iload_n 2, 0, 0), (72, .invokevirtual 287, 29, 1), (75, .aload 4, 0, 0), (77, .iload_n 2, 0, 0), (78, .invokevirtual 290, 30, 1), (81, .isub, 0, 0), (82, .aload 4, 0, 0), (84, .iload_n 2, 0, 0), (85, .invokevirtual 293, 31, 1), (88, .isub, 0, 0), (89, .ireturn, 0, 0)]
noncomputable def tb_127 : List TE := [(0, .iload_n 1, 0, 0), (1, .iload_n 2, 0, 0), (2, .invokestatic 296, 167, 2), (5, .iload_n 3, 0, 0), (6, .invokestatic 190, 164, 2), (9, .iload 4, 0, 0), (11, .invokestatic 278, 166, 2), (14, .aload_n 0, 0, 0), (15, .iload_n 3, 0, 0), (16, .invokevirtual 200, 155, 0), (19, .pop, 0, 0), (20, .aload_n 0, 0, 0), (21, .getfield 57, 9, 7), (24, .aload_n 0, 0, 0), (25, .getfield 12, 9, 0), (28, .iload 4, 0, 0), (30, .invokevirtual 299, 54, 1), (33, .aload_n 0, 0, 0), (34, .getfield 57, 9, 7), (37, .getfield 303, 4, 0), (40, .iload_n 1, 0, 0), (41, .aaload, 0, 0), (42, .iload_n 2, 0, 0), (43, .iaload, 0, 0), (44, .ireturn, 0, 0)]
noncomputable def tb_128 : List TE := [(0, .aload_n 0, 0, 0), (1, .iload_n 1, 0, 0), (2, .invokevirtual 110, 158, 0), (5, .aload_n 0, 0, 0), (6, .iload_n 1, 0, 0), (7, .invokevirtual 307, 162, 0), (10, .iload_n 2, 0, 0), (11, .invokestatic 190, 164, 2), (14, .iload_n 3, 0, 0), (15, .invokestatic 278, 166, 2), (18, .aload_n 0, 0, 0), (19, .iload_n 2, 0, 0), (20, .invokevirtual 200, 155, 0), (23, .pop, 0, 0), (24, .aload_n 0, 0, 0), (25, .getfield 57, 9, 7), (28, .aload_n 0, 0, 0), (29, .getfield 12, 9, 0), (32, .iload_n 3, 0, 0), (33, .invokevirtual 299, 54, 1), (36, .aload_n 0, 0, 0), (37, .getfield 57, 9, 7), (40, .aload_n 0, 0, 0), (41, .getfield 12, 9, 0), (44, .iload_n 1, 0, 0), (45, .iload_n 3, 0, 0), (46, .iconst 1, 0, 0), (47, .isub, 0, 0), (48, .invokevirtual 310, 57, 1), (51, .ireturn, 0, 0)]
noncomputable def tb_129 : List TE := [(0, .iload_n 1, 0, 0), (1, .iload_n 2, 0, 0), (2, .invokestatic 296, 167, 2), (5, .iload_n 3, 0, 0), (6, .invokestatic 278, 166, 2), (9, .aload_n 0, 0, 0), (10, .invokevirtual 158, 156, 0), (13, .aload_n 0, 0, 0), (14, .getfield 57, 9, 7), (17, .aload_n 0, 0, 0), (18, .getfield 12, 9, 0), (21, .iload_n 3, 0, 0), (22, .invokevirtual 299, 54, 1), (25, .aload_n 0, 0, 0), (26, .getfield 57, 9, 7), (29, .getfield 303, 4, 0), (32, .iload_n 1, 0, 0), (33, .aaload, 0, 0), (34, .iload_n 2, 0, 0), (35, .iaload, 0, 0), (36, .ireturn, 0, 0)]
noncomputable def tb_130 : List TE := [(0, .aload_n 0, 0, 0), (1, .iload_n 1, 0, 0), (2, .invokevirtual 110, 158, 0), (5, .iload_n 3, 0, 0), (6, .invokestatic 190, 164, 2), (9, .iload 4, 0, 0), (11, .invokestatic 278, 166, 2), (14, .iload_n 2, 0, 0), (15, .ifCond .lt 8, 0, 0), (18, .iload 4, 0, 0), (20, .ifCond .ne 14, 0, 0), (23, .new 83, 8, 1), (26, .dup, 0, 0), (27, .ldc_w 313, 0, 98), (30, .invokespecial 87, 0, 98), (33, .athrow, 0, 0), (34, .aload_n 0, 0, 0), (35, .iload_n 3, 0, 0), (36, .invokevirtual 200, 155, 0), (39, .astore 5, 0, 0), (41, .iload_n 2, 0, 0), (42, .iload 4, 0, 0), (44, .aload 5, 0, 0), (46, .getfield 241, 1, 5), (49, .iadd, 0, 0), (50, .iconst 1, 0, 0), (51, .isub, 0, 0), (52, .if_icmp .lt 14, 0, 0), (55, .new 83, 8, 1), (58, .dup, 0, 0), (59, .ldc_w 313, 0, 98), (62, .invokespecial 87, 0, 98), (65, .athrow, 0, 0), (66, .iload_n 2, 0, 0), (67, .aload 5, 0, 0), (69, .iload_n 1, 0, 0), (70, .invokevirtual 259, 21, 1), (73, .isub, 0, 0), (74, .istore 6, 0, 0), (76, .iload 6, 0, 0), (78, .ifCond .lt 14, 0, 0), (81, .iload 6, 0, 0), (83, .iload 4, 0, 0), (85, .if_icmp .ge 7, 0, 0), (88, .iconst 1, 0, 0), (89, .goto 4, 0, 0), (92, .iconst 0, 0, 0), (93, .ireturn, 0, 0)]
noncomputable def tb_131 : List TE := [(0, .aload_n 0, 0, 0), (1, .iload_n 1, 0, 0), (2, .invokevirtual 200, 155, 0), (5, .astore_n 3, 0, 0), (6, .iload_n 2, 0, 0), (7, .ifCond .eq 11, 0, 0), (10, .aload_n 0, 0, 0), (11, .getfield 12, 9, 0), (14, .getfield 101, 0, 0), (17, .ireturn, 0, 0), (18, .aload_n 0, 0, 0), (19, .getfield 12, 9, 0), (22, .getfield 101, 0, 0), (25, .aload_n 3, 0, 0), (26, .getfield 241, 1, 5), (29, .iconst 1, 0, 0), (30, .isub, 0, 0), (31, .imul, 0, 0), (32, .aload_n 0, 0, 0), (33, .getfield 12, 9, 0), (36, .getfield 101, 0, 0), (39, .aload_n 3, 0, 0), (40, .getfield 247, 1, 7), (43, .imul, 0, 0), (44, .iadd, 0, 0), (45, .ireturn, 0, 0)]
noncomputable def tb_132 : List TE := [(0, .iload_n 1, 0, 0), (1, .invokestatic 190, 164, 2), (4, .iload_n 2, 0, 0), (5, .invokestatic 278, 166, 2), (8, .aload_n 0, 0, 0), (9, .iload_n 1, 0, 0), (10, .invokevirtual 200, 155, 0), (13, .astore 4, 0, 0), (15, .aload 4, 0, 0), (17, .iload_n 2, 0, 0), (18, .invokevirtual 315, 32, 1), (21, .istore 5, 0, 0), (23, .iload_n 3, 0, 0), (24, .ifCond .ne 6, 0, 0), (27, .iload 5, 0, 0), (29, .ireturn, 0, 0), (30, .iload 5, 0, 0), (32, .aload_n 0, 0, 0), (33, .getfield 12, 9, 0), (36, .invokevirtual 318, 13, 1), (39, .imul, 0, 0), (40, .aload 4, 0, 0), (42, .iload_n 2, 0, 0), (43, .iload 5, 0, 0), (45, .isub, 0, 0), (46, .invokevirtual 287, 29, 1), (49, .iadd, 0, 0), (50, .ireturn, 0, 0)]
noncomputable def tb_133 : List TE := [(0, .aload_n 0, 0, 0), (1, .iload_n 1, 0, 0), (2, .invokevirtual 200, 155, 0), (5, .astore_n 2, 0, 0), (6, .iconst 1, 0, 0), (7, .istore_n 3, 0, 0), (8, .iload_n 3, 0, 0), (9, .bipush 40, 0, 0), (11, .if_icmp .gt 23, 0, 0), (14, .aload_n 0, 0, 0), (15, .getfield 64, 9, 8), (18, .aload_n 2, 0, 0), (19, .iload_n 3, 0, 0), (20, .invokevirtual 321, 98, 1), (23, .ifCond .eq 5, 0, 0), (26, .iload_n 3, 0, 0), (27, .ireturn, 0, 0), (28, .iinc 3 1, 0, 0), (31, .goto (-23), 0, 0), (34, .iconst (-1), 0, 0), (35, .ireturn, 0, 0)]
noncomputable def tb_134 : List TE := [(0, .aload_n 0, 0, 0), (1, .iload_n 1, 0, 0), (2, .invokevirtual 110, 158, 0), (5, .iload_n 2, 0, 0), (6, .invokestatic 190, 164, 2), (9, .iload_n 3, 0, 0), (10, .iconst 1, 0, 0), (11, .if_icmp .lt 9, 0, 0), (14, .iload_n 3, 0, 0), (15, .bipush 40, 0, 0), (17, .if_icmp .le 14, 0, 0), (20, .new 83, 9, 1), (23, .dup, 0, 0), (24, .ldc_w 325, 0, 98), (27, .invokespecial 87, 0, 98), (30, .athrow, 0, 0), (31, .aload_n 0, 0, 0), (32, .getfield 64, 9, 8), (35, .aload_n 0, 0, 0), (36, .iload_n 2, 0, 0), (37, .invokevirtual 200, 155, 0), (40, .iload_n 3, 0, 0), (41, .invokevirtual 321, 98, 1), (44, .pop, 0, 0), (45, .aload_n 0, 0, 0), (46, .getfield 64, 9, 8), (49, .getfield 327, 8, 0), (52, .iload_n 1, 0, 0), (53, .iaload, 0, 0), (54, .ireturn, 0, 0)]
noncomputable def tb_135 : List TE := [(0, .aload_n 0, 0, 0), (1, .iload_n 1, 0, 0), (2, .invokevirtual 110, 158, 0), (5, .aload_n 0, 0, 0), (6, .iload_n 1, 0, 0), (7, .invokevirtual 307, 162, 0), (10, .iload 4, 0, 0), (12, .invokestatic 190, 164, 2), (15, .iload 5, 0, 0), (17, .invokestatic 278, 166, 2), (20, .iload_n 2, 0, 0), (21, .ifCond .lt 16, 0, 0), (24, .iload_n 3, 0, 0), (25, .ifCond .lt 12, 0, 0), (28, .iload 5, 0, 0), (30, .ifCond .ne 18, 0, 0), (33, .iload_n 3, 0, 0), (34, .ifCond .le 14, 0, 0), (37, .new 83, 10, 1), (40, .dup, 0, 0), (41, .ldc_w 330, 0, 98), (44, .invokespecial 87, 0, 98), (47, .athrow, 0, 0), (48, .aload_n 0, 0, 0), (49, .iload 4, 0, 0), (51, .invokevirtual 200, 155, 0), (54, .astore 6, 0, 0), (56, .iload_n 2, 0, 0), (57, .aload 6, 0, 0), (59, .getfield 271, 1, 13), (62, .iload_n 1, 0, 0), (63, .iaload, 0, 0), (64, .if_icmp .ge 14, 0, 0), (67, .iload_n 3, 0, 0), (68, .aload 6, 0, 0), (70, .iload 5, 0, 0), (72, .invokevirtual 287, 29, 1), (75, .if_icmp .le 14, 0, 0), (78, .new 83, 10, 1), (81, .dup, 0, 0), (82, .ldc_w 330, 0, 98), (85, .invokespecial 87, 0, 98), (88, .athrow, 0, 0), (89, .aload_n 0, 0, 0), (90, .getfield 57, 9, 7), (93, .aload_n 0, 0, 0), (94, .getfield 12, 9, 0), (97, .iload 5, 0, 0), (99, .invokevirtual 299, 54, 1), (102, .aload_n 0, 0, 0), (103, .getfield 57, 9, 7), (106, .aload_n 0, 0, 0), (107, .getfield 12, 9, 0), (110, .iload_n 1, 0, 0), (111, .aload 6, 0, 0), (113, .iload_n 1, 0, 0), (114, .iload_n 2, 0, 0), (115, .iload_n 3, 0, 0), (116, .iload 5, 0, 0), (118, .invokevirtual 332, 35, 1), (121, .invokevirtual 310, 57, 1), (124, .ireturn, 0, 0)]
noncomputable def tb_136 : List TE := [(0, .aload_n 0, 0, 0), (1, .invokevirtual 158, 156, 0), (4, .iload_n 1, 0, 0), (5, .ifCond .eq 13, 0, 0), (8, .aload_n 0, 0, 0), (9, .getfield 19, 9, 1), (12, .getfield 336, 7, 6), (15, .goto 10, 0, 0), (18, .aload_n 0, 0, 0), (19, .getfield 19, 9, 1), (22, .getfield 339, 7, 5), (25, .ireturn, 0, 0)]
noncomputable def tb_137 : List TE := [(0, .aload_n 0, 0, 0), (1, .invokevirtual 158, 156, 0), (4, .aload_n 0, 0, 0), (5, .getfield 19, 9, 1), (8, .getfield 342, 7, 7), (11, .ireturn, 0, 0)]
noncomputable def tb_138 : List TE := [(0, .iload_n 1, 0, 0), (1, .iconst 1, 0, 0), (2, .if_icmp .lt 8, 0, 0), (5, .iload_n 1, 0, 0), (6, .iconst 4, 0, 0), (7, .if_icmp .le 14, 0, 0), (10, .new 83, 11, 1), (13, .dup, 0, 0), (14, .ldc_w 345, 0, 98), (17, .invokespecial 87, 0, 98), (20, .athrow, 0, 0), (21, .aload_n 0, 0, 0), (22, .invokevirtual 158, 156, 0), (25, .aload_n 0, 0, 0), (26, .iload_n 1, 0, 0), (27, .invokevirtual 347, 152, 0), (30, .ireturn, 0, 0)]
noncomputable def tb_139 : List TE := [(0, .aload_n 0, 0, 0), (1, .invokevirtual 158, 156, 0), (4, .iconst 1, 0, 0), (5, .istore_n 1, 0, 0), (6, .aload_n 0, 0, 0), (7, .iconst 1, 0, 0), (8, .invokevirtual 347, 152, 0), (11, .istore_n 2, 0, 0), (12, .iconst 2, 0, 0), (13, .istore_n 3, 0, 0), (14, .iload_n 3, 0, 0), (15, .iconst 4, 0, 0), (16, .if_icmp .gt 31, 0, 0), (19, .aload_n 0, 0, 0), (20, .iload_n 3, 0, 0), (21, .invokevirtual 347, 152, 0), (24, .istore 4, 0, 0), (26, .iload 4, 0, 0), (28, .iload_n 1, 0, 0), (29, .imul, 0, 0), (30, .iload_n 2, 0, 0), (31, .iload_n 3, 0, 0), (32, .imul, 0, 0), (33, .if_icmp .ge 8, 0, 0), (36, .iload_n 3, 0, 0), (37, .istore_n 1, 0, 0), (38, .iload 4, 0, 0), (40, .istore_n 2, 0, 0), (41, .iinc 3 1, 0, 0), (44, .goto (-30), 0, 0), (47, .iload_n 1, 0, 0), (48, .ireturn, 0, 0)]
noncomputable def tb_140 : List TE := [(0, .aload_n 0, 0, 0), (1, .iload_n 1, 0, 0), (2, .invokevirtual 120, 160, 0), (5, .aload_n 0, 0, 0), (6, .invokevirtual 158, 156, 0), (9, .aload_n 0, 0, 0), (10, .getfield 12, 9, 0), (13, .getfield 128, 0, 5), (16, .iload_n 1, 0, 0), (17, .iaload, 0, 0), (18, .iconst 1, 0, 0), (19, .if_icmp .ne 14, 0, 0), (22, .new 105, 12, 1), (25, .dup, 0, 0), (26, .ldc_w 350, 0, 98), (29, .invokespecial 109, 0, 98), (32, .athrow, 0, 0), (33, .aload_n 0, 0, 0), (34, .getfield 23, 9, 2), (37, .aload_n 0, 0, 0), (38, .getfield 12, 9, 0), (41, .iload_n 1, 0, 0), (42, .invokevirtual 352, 86, 1), (45, .aload_n 0, 0, 0), (46, .getfield 23, 9, 2), (49, .aload_n 0, 0, 0), (50, .getfield 12, 9, 0), (53, .getfield 101, 0, 0), (56, .invokevirtual 355, 93, 1), (59, .iconst 1, 0, 0), (60, .aload_n 0, 0, 0), (61, .getfield 23, 9, 2), (64, .invokevirtual 224, 85, 1), (67, .aload_n 0, 0, 0), (68, .getfield 12, 9, 0), (71, .iconst (-1), 0, 0), (72, .iconst 1, 0, 0), (73, .invokevirtual 358, 14, 1), (76, .invokestatic 228, 318, 2), (79, .invokestatic 228, 318, 2), (82, .ireturn, 0, 0)]
noncomputable def tb_141 : List TE := [(0, .aload_n 0, 0, 0), (1, .invokevirtual 158, 156, 0), (4, .aload_n 0, 0, 0), (5, .iload_n 1, 0, 0), (6, .invokevirtual 161, 161, 0), (9, .aload_n 0, 0, 0), (10, .getfield 23, 9, 2), (13, .aload_n 0, 0, 0), (14, .getfield 19, 9, 1), (17, .iload_n 1, 0, 0), (18, .invokevirtual 361, 92, 1), (21, .aload_n 0, 0, 0), (22, .getfield 23, 9, 2), (25, .aload_n 0, 0, 0), (26, .getfield 12, 9, 0), (29, .getfield 101, 0, 0), (32, .invokevirtual 355, 93, 1), (35, .aload_n 0, 0, 0), (36, .getfield 23, 9, 2), (39, .invokevirtual 224, 85, 1), (42, .ireturn, 0, 0)]
noncomputable def tb_142 : List TE := [(0, .aload_n 0, 0, 0), (1, .iload_n 1, 0, 0), (2, .invokevirtual 134, 159, 0), (5, .aload_n 0, 0, 0), (6, .iload_n 2, 0, 0), (7, .invokevirtual 200, 155, 0), (10, .pop, 0, 0), (11, .iload_n 2, 0, 0), (12, .aload_n 0, 0, 0), (13, .getfield 12, 9, 0), (16, .getfield 139, 0, 7), (19, .iload_n 1, 0, 0), (20, .iaload, 0, 0), (21, .imul, 0, 0), (22, .aload_n 0, 0, 0), (23, .getfield 12, 9, 0), (26, .iload_n 1, 0, 0), (27, .invokevirtual 187, 12, 1), (30, .isub, 0, 0), (31, .ireturn, 0, 0)]
noncomputable def tb_143 : List TE := [(0, .aload_n 0, 0, 0), (1, .iload_n 1, 0, 0), (2, .invokevirtual 110, 158, 0), (5, .aload_n 0, 0, 0), (6, .iload_n 2, 0, 0), (7, .invokevirtual 176, 157, 0), (10, .iload_n 3, 0, 0), (11, .ifCond .eq 18, 0, 0), (14, .aload_n 0, 0, 0), (15, .getfield 29, 9, 3), (18, .aload_n 0, 0, 0), (19, .getfield 12, 9, 0), (22, .iload_n 1, 0, 0), (23, .invokevirtual 365, 63, 1), (26, .goto 11, 0, 0), (29, .aload_n 0, 0, 0), (30, .getfield 29, 9, 3), (33, .iload_n 1, 0, 0), (34, .invokevirtual 369, 62, 1), (37, .ireturn, 0, 0)]
noncomputable def tb_144 : List TE := [(0, .aload_n 0, 0, 0), (1, .iload_n 1, 0, 0), (2, .invokevirtual 134, 159, 0), (5, .iload_n 3, 0, 0), (6, .invokestatic 190, 164, 2), (9, .iload_n 2, 0, 0), (10, .iload_n 3, 0, 0), (11, .invokestatic 206, 165, 2), (14, .aload_n 0, 0, 0), (15, .iload_n 3, 0, 0), (16, .invokevirtual 200, 155, 0), (19, .aload_n 0, 0, 0), (20, .getfield 12, 9, 0), (23, .iload_n 1, 0, 0), (24, .iload_n 2, 0, 0), (25, .invokevirtual 372, 27, 1), (28, .ireturn, 0, 0)]
noncomputable def tb_145 : List TE := [(0, .iload_n 1, 0, 0), (1, .invokestatic 190, 164, 2), (4, .iload_n 2, 0, 0), (5, .invokestatic 278, 166, 2), (8, .aload_n 0, 0, 0), (9, .iload_n 1, 0, 0), (10, .invokevirtual 200, 155, 0), (13, .iload_n 2, 0, 0), (14, .invokevirtual 375, 33, 1), (17, .ireturn, 0, 0)]
noncomputable def tb_146 : List TE := [(0, .iload_n 1, 0, 0), (1, .invokestatic 190, 164, 2), (4, .iload_n 2, 0, 0), (5, .invokestatic 278, 166, 2), (8, .iload_n 3, 0, 0), (9, .iconst 1, 0, 0), (10, .if_icmp .lt 22, 0, 0), (13, .iload_n 3, 0, 0), (14, .bipush 9, 0, 0), (16, .if_icmp .gt 16, 0, 0), (19, .iload 4, 0, 0), (21, .iconst 1, 0, 0), (22, .if_icmp .lt 10, 0, 0), (25, .iload 4, 0, 0), (27, .bipush 9, 0, 0), (29, .if_icmp .le 14, 0, 0), (32, .new 83, 13, 1), (35, .dup, 0, 0), (36, .ldc_w 378, 0, 98), (39, .invokespecial 87, 0, 98), (42, .athrow, 0, 0), (43, .aload_n 0, 0, 0), (44, .getfield 71, 9, 9), (47, .aload_n 0, 0, 0), (48, .getfield 12, 9, 0), (51, .aload_n 0, 0, 0), (52, .iload_n 1, 0, 0), (53, .invokevirtual 200, 155, 0), (56, .iload_n 2, 0, 0), (57, .iload_n 3, 0, 0), (58, .iload 4, 0, 0), (60, .invokevirtual 380, 50, 1), (63, .ireturn, 0, 0)]
noncomputable def tb_147 : List TE := [(0, .aload_n 0, 0, 0), (1, .iload_n 1, 0, 0), (2, .invokevirtual 200, 155, 0), (5, .astore_n 2, 0, 0), (6, .aload_n 0, 0, 0), (7, .getfield 12, 9, 0), (10, .invokevirtual 318, 13, 1), (13, .istore_n 3, 0, 0), (14, .iconst 1, 0, 0), (15, .istore 4, 0, 0), (17, .iload 4, 0, 0), (19, .bipush 40, 0, 0), (21, .if_icmp .gt 25, 0, 0), (24, .aload_n 2, 0, 0), (25, .iload 4, 0, 0), (27, .invokevirtual 287, 29, 1), (30, .iload 4, 0, 0), (32, .iload_n 3, 0, 0), (33, .imul, 0, 0), (34, .if_icmp .ge 6, 0, 0), (37, .iload 4, 0, 0), (39, .ireturn, 0, 0), (40, .iinc 4 1, 0, 0), (43, .goto (-26), 0, 0), (46, .iconst (-1), 0, 0), (47, .ireturn, 0, 0)]
noncomputable def tb_148 : List TE := [(0, .aload_n 0, 0, 0), (1, .iload_n 1, 0, 0), (2, .invokevirtual 134, 159, 0), (5, .aload_n 0, 0, 0), (6, .invokevirtual 158, 156, 0), (9, .iconst 1, 0, 0), (10, .aload_n 0, 0, 0), (11, .getfield 19, 9, 1), (14, .invokevirtual 224, 85, 1), (17, .aload_n 0, 0, 0), (18, .getfield 12, 9, 0), (21, .iload_n 1, 0, 0), (22, .iconst 1, 0, 0), (23, .invokevirtual 358, 14, 1), (26, .invokestatic 228, 318, 2), (29, .invokestatic 228, 318, 2), (32, .ireturn, 0, 0)]
noncomputable def tb_149 : List TE := [(0, .iload_n 1, 0, 0), (1, .ifCond .lt 9, 0, 0), (4, .iload_n 1, 0, 0), (5, .bipush 99, 0, 0), (7, .if_icmp .le 14, 0, 0), (10, .new 83, 14, 1), (13, .dup, 0, 0), (14, .ldc_w 384, 0, 98), (17, .invokespecial 87, 0, 98), (20, .athrow, 0, 0), (21, .aload_n 0, 0, 0), (22, .invokevirtual 158, 156, 0), (25, .iconst 1, 0, 0), (26, .istore_n 2, 0, 0), (27, .iload_n 2, 0, 0), (28, .bipush 12, 0, 0), (30, .if_icmp .gt 32, 0, 0), (33, .aload_n 0, 0, 0), (34, .iload_n 2, 0, 0), (35, .invokevirtual 193, 154, 0), (38, .astore_n 3, 0, 0), (39, .aload_n 3, 0, 0), (40, .getfield 197, 1, 1), (43, .ifCond .eq 13, 0, 0), (46, .aload_n 3, 0, 0), (47, .getfield 244, 1, 6), (50, .iload_n 1, 0, 0), (51, .if_icmp .gt 5, 0, 0), (54, .iload_n 2, 0, 0), (55, .ireturn, 0, 0), (56, .iinc 2 1, 0, 0), (59, .goto (-32), 0, 0), (62, .iconst (-1), 0, 0), (63, .ireturn, 0, 0)]
noncomputable def tb_150 : List TE := [(0, .aload_n 0, 0, 0), (1, .invokevirtual 152, 153, 0), (4, .iload_n 1, 0, 0), (5, .ifCond .ne 11, 0, 0), (8, .aload_n 0, 0, 0), (9, .getfield 12, 9, 0), (12, .getfield 101, 0, 0), (15, .ireturn, 0, 0), (16, .iload_n 1, 0, 0), (17, .iconst 1, 0, 0), (18, .if_icmp .lt 17, 0, 0), (21, .iload_n 1, 0, 0), (22, .iconst 4, 0, 0), (23, .if_icmp .gt 12, 0, 0), (26, .aload_n 0, 0, 0), (27, .getfield 155, 9, 10), (30, .ifCond .ne 5, 0, 0), (33, .iconst (-1), 0, 0), (34, .ireturn, 0, 0), (35, .iload_n 1, 0, 0), (36, .tableswitch 101 1 8 #[48, 56, 64, 74, 80, 88, 88, 88], 48, 0), (84, .aload_n 0, 0, 0), (85, .getfield 19, 9, 1), (88, .getfield 386, 7, 0), (91, .ireturn, 0, 0), (92, .aload_n 0, 0, 0), (93, .getfield 19, 9, 1), (96, .invokevirtual 224, 85, 1), (99, .ireturn, 0, 0), (100, .aload_n 0, 0, 0), (101, .getfield 12, 9, 0), (104, .iconst (-1), 0, 0), (105, .iconst 1, 0, 0), (106, .invokevirtual 358, 14, 1), (109, .ireturn, 0, 0), (110, .aload_n 0, 0, 0), (111, .iconst 1, 0, 0), (112, .invokevirtual 347, 152, 0), (115, .ireturn, 0, 0), (116, .aload_n 0, 0, 0), (117, .getfield 12, 9, 0), (120, .invokevirtual 318, 13, 1), (123, .ireturn, 0, 0), (124, .aload_n 0, 0, 0), (125, .getfield 12, 9, 0), (128, .getfield 139, 0, 7), (131, .iload_n 1, 0, 0), (132, .bipush 6, 0, 0), (134, .isub, 0, 0), (135, .iaload, 0, 0), (136, .ireturn, 0, 0), (137, .iconst (-1), 0, 0), (138, .ireturn, 0, 0)]
noncomputable def tb_151 : List TE := [(0, .aload_n 0, 0, 0), (1, .getfield 12, 9, 0), (4, .getfield 101, 0, 0), (7, .bipush 8, 0, 0), (9, .if_icmp .lt 14, 0, 0), (12, .new 105, 15, 1), (15, .dup, 0, 0), (16, .ldc_w 387, 0, 98), (19, .invokespecial 109, 0, 98), (22, .athrow, 0, 0), (23, .aload_n 0, 0, 0), (24, .getfield 12, 9, 0), (27, .iload_n 1, 0, 0), (28, .iload_n 2, 0, 0), (29, .iload_n 3, 0, 0), (30, .iload 4, 0, 0), (32, .iload 5, 0, 0), (34, .invokevirtual 389, 1, 1), (37, .aload_n 0, 0, 0), (38, .iconst 1, 0, 0), (39, .putfield 75, 9, 11), (42, .aload_n 0, 0, 0), (43, .getfield 12, 9, 0), (46, .getfield 101, 0, 0), (49, .iconst 1, 0, 0), (50, .isub, 0, 0), (51, .ireturn, 0, 0)]
noncomputable def tb_152 : List TE := [(0, .iconst 1, 0, 0), (1, .iload_n 1, 0, 0), (2, .aload_n 0, 0, 0), (3, .getfield 19, 9, 1), (6, .getfield 339, 7, 5), (9, .imul, 0, 0), (10, .aload_n 0, 0, 0), (11, .getfield 19, 9, 1), (14, .getfield 336, 7, 6), (17, .invokestatic 393, 170, 2), (20, .aload_n 0, 0, 0), (21, .getfield 12, 9, 0), (24, .iconst (-1), 0, 0), (25, .iload_n 1, 0, 0), (26, .invokevirtual 358, 14, 1), (29, .invokestatic 228, 318, 2), (32, .invokestatic 228, 318, 2), (35, .ireturn, 0, 0)]
noncomputable def tb_153 : List TE := [(0, .aload_n 0, 0, 0), (1, .getfield 75, 9, 11), (4, .ifCond .ne 4, 0, 0), (7, .return_, 0, 0), (8, .aload_n 0, 0, 0), (9, .iconst 0, 0, 0), (10, .putfield 75, 9, 11), (13, .aload_n 0, 0, 0), (14, .aload_n 0, 0, 0), (15, .getfield 12, 9, 0), (18, .invokevirtual 396, 10, 1), (21, .putfield 155, 9, 10), (24, .aload_n 0, 0, 0), (25, .getfield 155, 9, 10), (28, .ifCond .eq 29, 0, 0), (31, .aload_n 0, 0, 0), (32, .getfield 19, 9, 1), (35, .aload_n 0, 0, 0), (36, .getfield 12, 9, 0), (39, .iconst (-1), 0, 0), (40, .invokevirtual 352, 86, 1), (43, .aload_n 0, 0, 0), (44, .getfield 19, 9, 1), (47, .aload_n 0, 0, 0), (48, .getfield 12, 9, 0), (51, .getfield 101, 0, 0), (54, .invokevirtual 355, 93, 1), (57, .aload_n 0, 0, 0), (58, .getfield 29, 9, 3), (61, .iconst 0, 0, 0), (62, .putfield 400, 5, 1), (65, .aload_n 0, 0, 0), (66, .getfield 50, 9, 6), (69, .iconst 0, 0, 0), (70, .putfield 403, 2, 0), (73, .iconst 0, 0, 0), (74, .istore_n 1, 0, 0), (75, .iload_n 1, 0, 0), (76, .bipush 12, 0, 0), (78, .if_icmp .gt 19, 0, 0), (81, .aload_n 0, 0, 0), (82, .getfield 42, 9, 5), (85, .iload_n 1, 0, 0), (86, .aaload, 0, 0), (87, .iconst 0, 0, 0), (88, .putfield 404, 1, 0), (91, .iinc 1 1, 0, 0), (94, .goto (-19), 0, 0), (97, .return_, 0, 0)]
noncomputable def tb_154 : List TE := [(0, .aload_n 0, 0, 0), (1, .getfield 42, 9, 5), (4, .iload_n 1, 0, 0), (5, .aaload, 0, 0), (6, .astore_n 2, 0, 0), (7, .aload_n 2, 0, 0), (8, .getfield 404, 1, 0), (11, .ifCond .ne 108, 0, 0), (14, .aload_n 2, 0, 0), (15, .iconst 1, 0, 0), (16, .putfield 404, 1, 0), (19, .aload_n 2, 0, 0), (20, .iconst 0, 0, 0), (21, .putfield 197, 1, 1), (24, .iload_n 1, 0, 0), (25, .aload_n 0, 0, 0), (26, .getfield 19, 9, 1), (29, .invokevirtual 224, 85, 1), (32, .if_icmp .lt 60, 0, 0), (35, .aload_n 0, 0, 0), (36, .getfield 29, 9, 3), (39, .aload_n 0, 0, 0), (40, .getfield 12, 9, 0), (43, .aload_n 0, 0, 0), (44, .getfield 19, 9, 1), (47, .iload_n 1, 0, 0), (48, .invokevirtual 234, 59, 1), (51, .aload_n 2, 0, 0), (52, .aload_n 0, 0, 0), (53, .getfield 36, 9, 4), (56, .aload_n 0, 0, 0), (57, .getfield 12, 9, 0), (60, .iload_n 1, 0, 0), (61, .invokevirtual 407, 65, 1), (64, .ifCond .eq 24, 0, 0), (67, .aload_n 0, 0, 0), (68, .getfield 36, 9, 4), (71, .aload_n 0, 0, 0), (72, .getfield 29, 9, 3), (75, .getfield 179, 5, 2), (78, .invokevirtual 411, 66, 1), (81, .ifCond .eq 7, 0, 0), (84, .iconst 1, 0, 0), (85, .goto 4, 0, 0), (88, .iconst 0, 0, 0), (89, .putfield 197, 1, 1), (92, .aload_n 2, 0, 0), (93, .getfield 197, 1, 1), (96, .ifCond .eq 23, 0, 0), (99, .aload_n 2, 0, 0), (100, .aload_n 0, 0, 0), (101, .getfield 12, 9, 0), (104, .aload_n 0, 0, 0), (105, .getfield 19, 9, 1), (108, .aload_n 0, 0, 0), (109, .getfield 36, 9, 4), (112, .getfield 415, 6, 5), (115, .iload_n 1, 0, 0), (116, .invokevirtual 416, 16, 1), (119, .aload_n 2, 0, 0), (120, .areturn, 0, 0)]
noncomputable def tb_155 : List TE := [(0, .iload_n 1, 0, 0), (1, .invokestatic 190, 164, 2), (4, .aload_n 0, 0, 0), (5, .invokevirtual 158, 156, 0), (8, .aload_n 0, 0, 0), (9, .iload_n 1, 0, 0), (10, .invokevirtual 193, 154, 0), (13, .astore_n 2, 0, 0), (14, .aload_n 2, 0, 0), (15, .getfield 197, 1, 1), (18, .ifCond .ne 14, 0, 0), (21, .new 105, 16, 1), (24, .dup, 0, 0), (25, .ldc_w 420, 0, 98), (28, .invokespecial 109, 0, 98), (31, .athrow, 0, 0), (32, .aload_n 2, 0, 0), (33, .areturn, 0, 0)]
noncomputable def tb_156 : List TE := [(0, .aload_n 0, 0, 0), (1, .invokevirtual 152, 153, 0), (4, .aload_n 0, 0, 0), (5, .getfield 155, 9, 10), (8, .ifCond .ne 14, 0, 0), (11, .new 105, 17, 1), (14, .dup, 0, 0), (15, .ldc_w 422, 0, 98), (18, .invokespecial 109, 0, 98), (21, .athrow, 0, 0), (22, .return_, 0, 0)]
noncomputable def tb_157 : List TE := [(0, .iload_n 1, 0, 0), (1, .invokestatic 190, 164, 2), (4, .aload_n 0, 0, 0), (5, .invokevirtual 158, 156, 0), (8, .iload_n 1, 0, 0), (9, .aload_n 0, 0, 0), (10, .getfield 19, 9, 1), (13, .invokevirtual 224, 85, 1), (16, .if_icmp .ge 14, 0, 0), (19, .new 105, 18, 1), (22, .dup, 0, 0), (23, .ldc_w 424, 0, 98), (26, .invokespecial 109, 0, 98), (29, .athrow, 0, 0), (30, .aload_n 0, 0, 0), (31, .getfield 29, 9, 3), (34, .aload_n 0, 0, 0), (35, .getfield 12, 9, 0), (38, .aload_n 0, 0, 0), (39, .getfield 19, 9, 1), (42, .iload_n 1, 0, 0), (43, .invokevirtual 234, 59, 1), (46, .return_, 0, 0)]
noncomputable def tb_158 : List TE := [(0, .iload_n 1, 0, 0), (1, .ifCond .lt 14, 0, 0), (4, .iload_n 1, 0, 0), (5, .aload_n 0, 0, 0), (6, .getfield 12, 9, 0), (9, .getfield 101, 0, 0), (12, .if_icmp .lt 14, 0, 0), (15, .new 426, 19, 1), (18, .dup, 0, 0), (19, .ldc_w 428, 0, 98), (22, .invokespecial 430, 0, 98), (25, .athrow, 0, 0), (26, .return_, 0, 0)]
noncomputable def tb_159 : List TE := [(0, .iload_n 1, 0, 0), (1, .ifCond .lt 8, 0, 0), (4, .iload_n 1, 0, 0), (5, .iconst 3, 0, 0), (6, .if_icmp .lt 14, 0, 0), (9, .new 426, 20, 1), (12, .dup, 0, 0), (13, .ldc_w 431, 0, 98), (16, .invokespecial 430, 0, 98), (19, .athrow, 0, 0), (20, .return_, 0, 0)]
noncomputable def tb_160 : List TE := [(0, .iload_n 1, 0, 0), (1, .ifCond .lt 9, 0, 0), (4, .iload_n 1, 0, 0), (5, .bipush 6, 0, 0), (7, .if_icmp .lt 14, 0, 0), (10, .new 426, 21, 1), (13, .dup, 0, 0), (14, .ldc_w 433, 0, 98), (17, .invokespecial 430, 0, 98), (20, .athrow, 0, 0), (21, .return_, 0, 0)]
noncomputable def tb_161 : List TE := [(0, .iload_n 1, 0, 0), (1, .ifCond .lt 14, 0, 0), (4, .iload_n 1, 0, 0), (5, .aload_n 0, 0, 0), (6, .getfield 19, 9, 1), (9, .getfield 386, 7, 0), (12, .if_icmp .lt 14, 0, 0), (15, .new 426, 22, 1), (18, .dup, 0, 0), (19, .ldc_w 435, 0, 98), (22, .invokespecial 430, 0, 98), (25, .athrow, 0, 0), (26, .return_, 0, 0)]
noncomputable def tb_162 : List TE := [(0, .aload_n 0, 0, 0), (1, .getfield 12, 9, 0), (4, .getfield 146, 0, 1), (7, .iload_n 1, 0, 0), (8, .iaload, 0, 0), (9, .iconst 5, 0, 0), (10, .if_icmp .ne 14, 0, 0), (13, .new 83, 23, 1), (16, .dup, 0, 0), (17, .ldc_w 437, 0, 98), (20, .invokespecial 87, 0, 98), (23, .athrow, 0, 0), (24, .return_, 0, 0)]
noncomputable def tb_163 : List TE := [(0, .iload_n 0, 0, 0), (1, .ifCond .lt 8, 0, 0), (4, .iload_n 0, 0, 0), (5, .iload_n 1, 0, 0), (6, .if_icmp .le 14, 0, 0), (9, .new 439, 24, 1), (12, .dup, 0, 0), (13, .ldc_w 441, 0, 98), (16, .invokespecial 443, 0, 98), (19, .athrow, 0, 0), (20, .return_, 0, 0)]
noncomputable def tb_164 : List TE := [(0, .iload_n 0, 0, 0), (1, .iconst 1, 0, 0), (2, .if_icmp .lt 9, 0, 0), (5, .iload_n 0, 0, 0), (6, .bipush 12, 0, 0), (8, .if_icmp .le 14, 0, 0), (11, .new 83, 25, 1), (14, .dup, 0, 0), (15, .ldc_w 444, 0, 98), (18, .invokespecial 87, 0, 98), (21, .athrow, 0, 0), (22, .return_, 0, 0)]
noncomputable def tb_165 : List TE := [(0, .iload_n 0, 0, 0), (1, .ifCond .lt 8, 0, 0), (4, .iload_n 0, 0, 0), (5, .iload_n 1, 0, 0), (6, .if_icmp .lt 14, 0, 0), (9, .new 83, 26, 1), (12, .dup, 0, 0), (13, .ldc_w 446, 0, 98), (16, .invokespecial 87, 0, 98), (19, .athrow, 0, 0), (20, .return_, 0, 0)]
noncomputable def tb_166 : List TE := [(0, .iload_n 0, 0, 0), (1, .ifCond .lt 9, 0, 0), (4, .iload_n 0, 0, 0), (5, .bipush 40, 0, 0), (7, .if_icmp .le 14, 0, 0), (10, .new 83, 27, 1), (13, .dup, 0, 0), (14, .ldc_w 448, 0, 98), (17, .invokespecial 87, 0, 98), (20, .athrow, 0, 0), (21, .return_, 0, 0)]
noncomputable def tb_167 : List TE := [(0, .iload_n 0, 0, 0), (1, .ifCond .lt 18, 0, 0), (4, .iload_n 0, 0, 0), (5, .iconst 1, 0, 0), (6, .if_icmp .gt 13, 0, 0), (9, .iload_n 1, 0, 0), (10, .ifCond .lt 9, 0, 0), (13, .iload_n 1, 0, 0), (14, .bipush 64, 0, 0), (16, .if_icmp .lt 13, 0, 0), (19, .new 83, 1, 1), (22, .dup, 0, 0), (23, .ldc 97, 0, 98), (25, .invokespecial 87, 0, 98), (28, .athrow, 0, 0), (29, .return_, 0, 0)]
noncomputable def tb_168 : List TE := [(0, .iload_n 0, 0, 0), (1, .iconst (-1), 0, 0), (2, .if_icmp .ne 5, 0, 0), (5, .iconst 1, 0, 0), (6, .ireturn, 0, 0), (7, .iload_n 0, 0, 0), (8, .bipush (-2), 0, 0), (10, .if_icmp .ne 21, 0, 0), (13, .iload_n 1, 0, 0), (14, .bipush (-99), 0, 0), (16, .if_icmp .lt 13, 0, 0), (19, .iload_n 1, 0, 0), (20, .bipush 99, 0, 0), (22, .if_icmp .gt 7, 0, 0), (25, .iconst 1, 0, 0), (26, .goto 4, 0, 0), (29, .iconst 0, 0, 0), (30, .ireturn, 0, 0), (31, .iload_n 0, 0, 0), (32, .ifCond .lt 22, 0, 0), (35, .iload_n 0, 0, 0), (36, .bipush 8, 0, 0), (38, .if_icmp .ge 16, 0, 0), (41, .iload_n 1, 0, 0), (42, .ifCond .lt 12, 0, 0), (45, .iload_n 1, 0, 0), (46, .iconst 3, 0, 0), (47, .if_icmp .gt 7, 0, 0), (50, .iconst 1, 0, 0), (51, .goto 4, 0, 0), (54, .iconst 0, 0, 0), (55, .ireturn, 0, 0)]
noncomputable def tb_169 : List TE := [(0, .iload_n 0, 0, 0), (1, .ifCond .lt 22, 0, 0), (4, .iload_n 0, 0, 0), (5, .iconst 1, 0, 0), (6, .if_icmp .gt 17, 0, 0), (9, .iload_n 1, 0, 0), (10, .ifCond .lt 13, 0, 0), (13, .iload_n 1, 0, 0), (14, .bipush 7, 0, 0), (16, .if_icmp .gt 7, 0, 0), (19, .iconst 1, 0, 0), (20, .goto 4, 0, 0), (23, .iconst 0, 0, 0), (24, .ireturn, 0, 0)]
noncomputable def tb_170 : List TE := [(0, .iload_n 1, 0, 0), (1, .ifCond .gt 7, 0, 0), (4, .iconst 0, 0, 0), (5, .goto 10, 0, 0), (8, .iload_n 0, 0, 0), (9, .ineg, 0, 0), (10, .iload_n 1, 0, 0), (11, .invokestatic 450, 316, 2), (14, .ineg, 0, 0), (15, .ireturn, 0, 0)]
noncomputable def tb_171_0 : List TE := [(0, .aload_n 0, 0, 0), (1, .invokespecial 1, 0, 6), (4, .aload_n 0, 0, 0), (5, .bipush 8, 0, 0), (7, .newarray .int, 0, 0), (9, .putfield 7, 10, 2), (12, .aload_n 0, 0, 0), (13, .bipush 8, 0, 0), (15, .newarray .int, 0, 0), (17, .putfield 13, 10, 3), (20, .aload_n 0, 0, 0), (21, .bipush 8, 0, 0), (23, .newarray .int, 0, 0), (25, .putfield 16, 10, 4), (28, .aload_n 0, 0, 0), (29, .bipush 8, 0, 0), (31, .newarray .int, 0, 0), (33, .putfield 19, 10, 5), (36, .aload_n 0, 0, 0), (37, .bipush 8, 0, 0), (39, .newarray .int, 0, 0), (41, .putfield 22, 10, 6), (44, .aload_n 0, 0, 0), (45, .bipush 8, 0, 0), (47, .newarray .int, 0, 0), (49, .putfield 25, 10, 7), (52, .aload_n 0, 0, 0), (53, .bipush 6, 0, 0), (55, .newarray .int, 0, 0), (57, .putfield 28, 10, 8), (60, .aload_n 0, 0, 0), (61, .bipush 6, 0, 0), (63, .newarray .int, 0, 0), (65, .putfield 31, 10, 9), (68, .aload_n 0, 0, 0), (69, .bipush 6, 0, 0), (71, .newarray .int, 0, 0), (73, .putfield 34, 10, 10), (76, .aload_n 0, 0, 0), (77, .iconst 3, 0, 0), (78, .newarray .int, 0, 0), (80, .putfield 37, 10, 11), (83, .aload_n 0, 0, 0), (84, .bipush 48, 0, 0), (86, .newarray .int, 0, 0), (88, .putfield 40, 10, 13), (91, .aload_n 0, 0, 0), (92, .bipush 48, 0, 0), (94, .newarray .int, 0, 0), (96, .putfield 43, 10, 14), (99, .aload_n 0, 0, 0), (100, .bipush 48, 0, 0), (102, .newarray .int, 0, 0), (104, .putfield 46, 10, 15), (107, .aload_n 0, 0, 0), (108, .bipush 48, 0, 0), (110, .newarray .int, 0, 0), (112, .putfield 49, 10, 16), (115, .aload_n 0, 0, 0), (116, .bipush 64, 0, 0), (118, .newarray .int, 0, 0), (120, .putfield 52, 10, 17), (123, .aload_n 0, 0, 0), (124, .iconst (-1), 0, 0), (125, .putfield 55, 10, 18), (128, .aload_n 0, 0, 0), (129, .bipush 36, 0, 0), (131, .newarray .int, 0, 0), (133, .putfield 59, 10, 19), (136, .aload_n 0, 0, 0), (137, .bipush 8, 0, 0), (139, .newarray .int, 0, 0), (141, .putfield 62, 10, 20), (144, .aload_n 0, 0, 0), (145, .bipush 8, 0, 0), (147, .newarray .int, 0, 0), (149, .putfield 65, 10, 21), (152, .aload_n 0, 0, 0), (153, .bipush 64, 0, 0), (155, .newarray .int, 0, 0), (157, .putfield 68, 10, 22), (160, .aload_n 0, 0, 0), (161, .bipush 8, 0, 0), (163, .newarray .int, 0, 0), (165, .putfield 71, 10, 23), (168, .aload_n 0, 0, 0), (169, .bipush 8, 0, 0), (171, .newarray .int, 0, 0), (173, .putfield 74, 10, 24), (176, .aload_n 0, 0, 0), (177, .sipush 128, 0, 0), (180, .newarray .int, 0, 0), (182, .putfield 77, 10, 26), (185, .aload_n 0, 0, 0), (186, .sipush 640, 0, 0), (189, .newarray .int, 0, 0), (191, .putfield 80, 10, 27), (194, .aload_n 0, 0, 0), (195, .sipush 328, 0, 0), (198, .newarray .int, 0, 0), (200, .putfield 83, 10, 28), (203, .aload_n 0, 0, 0), (204, .bipush 8, 0, 0), (206, .newarray .int, 0, 0), (208, .putfield 86, 10, 29), (211, .aload_n 0, 0, 0), (212, .bipush 8, 0, 0), (214, .newarray .int, 0, 0), (216, .putfield 89, 10, 30), (219, .aload_n 0, 0, 0), (220, .bipush 9, 0, 0), (222, .newarray .int, 0, 0), (224, .putfield 92, 10, 34), (227, .aload_n 0, 0, 0), (228, .bipush 8, 0, 0), (230, .newarray .int, 0, 0), (232, .putfield 95, 10, 35), (235, .aload_n 0, 0, 0), (236, .bipush 8, 0, 0), (238, .newarray .int, 0, 0), (240, .putfield 98, 10, 36), (243, .iconst 0, 0, 0), (244, .istore_n 1, 0, 0), (245, .iload_n 1, 0, 0), (246, .bipush 6, 0, 0), (248, .if_icmp .ge 75, 0, 0), (251, .aload_n 0, 0, 0), (252, .getfield 28, 10, 8), (255, .iload_n 1, 0, 0), (256, .iload_n 1, 0, 0), (257, .iconst 2, 0, 0), (258, .if_icmp .ne 7, 0, 0), (261, .iconst 1, 0, 0), (262, .goto 13, 0, 0), (265, .iload_n 1, 0, 0), (266, .iconst 3, 0, 0), (267, .if_icmp .le 7, 0, 0), (270, .iconst 2, 0, 0), (271, .goto 4, 0, 0), (274, .iconst 0, 0, 0), (275, .iastore, 0, 0), (276, .aload_n 0, 0, 0), (277, .getfield 31, 10, 9), (280, .iload_n 1, 0, 0), (281, .iload_n 1, 0, 0), (282, .iconst 2, 0, 0), (283, .if_icmp .ne 7, 0, 0), (286, .iconst 3, 0, 0), (287, .goto 13, 0, 0), (290, .iload_n 1, 0, 0), (291, .iconst 4, 0, 0), (292, .if_icmp .ne 7, 0, 0), (295, .iconst 2, 0, 0), (296, .goto 4, 0, 0), (299, .iconst 1, 0, 0), (300, .iastore, 0, 0), (301, .aload_n 0, 0, 0), (302, .getfield 34, 10, 10), (305, .iload_n 1, 0, 0), (306, .iload_n 1, 0, 0)]
noncomputable def tb_171_1 : List TE := [(307, .iconst 2, 0, 0), (308, .if_icmp .ne 7, 0, 0), (311, .iconst 3, 0, 0), (312, .goto 4, 0, 0), (315, .iconst 1, 0, 0), (316, .iastore, 0, 0), (317, .iinc 1 1, 0, 0), (320, .goto (-75), 0, 0), (323, .iconst 0, 0, 0), (324, .istore_n 1, 0, 0), (325, .iload_n 1, 0, 0), (326, .iconst 3, 0, 0), (327, .if_icmp .ge 16, 0, 0), (330, .aload_n 0, 0, 0), (331, .getfield 37, 10, 11), (334, .iload_n 1, 0, 0), (335, .iconst 1, 0, 0), (336, .iastore, 0, 0), (337, .iinc 1 1, 0, 0), (340, .goto (-15), 0, 0), (343, .return_, 0, 0)]
noncomputable def tb_171 : List TE := tb_171_0 ++ (tb_171_1)
noncomputable def tb_172 : List TE := [(0, .aload_n 0, 0, 0), (1, .getfield 101, 10, 0), (4, .ireturn, 0, 0)]
noncomputable def tb_173 : List TE := [(0, .iload_n 0, 0, 0), (1, .iload_n 1, 0, 0), (2, .if_icmp .lt 12, 0, 0), (5, .iload_n 0, 0, 0), (6, .iload_n 2, 0, 0), (7, .if_icmp .gt 7, 0, 0), (10, .iconst 1, 0, 0), (11, .goto 4, 0, 0), (14, .iconst 0, 0, 0), (15, .ireturn, 0, 0)]
noncomputable def tb_174 : List TE := [(0, .iload_n 0, 0, 0), (1, .iload_n 1, 0, 0), (2, .if_icmp .le 7, 0, 0), (5, .iload_n 0, 0, 0), (6, .goto 4, 0, 0), (9, .iload_n 1, 0, 0), (10, .ireturn, 0, 0)]
noncomputable def tb_175 : List TE := [(0, .iload_n 0, 0, 0), (1, .iload_n 1, 0, 0), (2, .if_icmp .ge 7, 0, 0), (5, .iload_n 0, 0, 0), (6, .goto 4, 0, 0), (9, .iload_n 1, 0, 0), (10, .ireturn, 0, 0)]
noncomputable def tb_176 : List TE := [(0, .iload_n 0, 0, 0), (1, .ifCond .le 13, 0, 0), (4, .iload_n 0, 0, 0), (5, .iload_n 1, 0, 0), (6, .iadd, 0, 0), (7, .iconst 1, 0, 0), (8, .isub, 0, 0), (9, .iload_n 1, 0, 0), (10, .idiv, 0, 0), (11, .goto 8, 0, 0), (14, .iload_n 0, 0, 0), (15, .ineg, 0, 0), (16, .iload_n 1, 0, 0), (17, .idiv, 0, 0), (18, .ineg, 0, 0), (19, .ireturn, 0, 0)]
noncomputable def tb_177 : List TE := [(0, .iload_n 0, 0, 0), (1, .iload_n 1, 0, 0), (2, .irem, 0, 0), (3, .iload_n 1, 0, 0), (4, .iadd, 0, 0), (5, .iload_n 1, 0, 0), (6, .irem, 0, 0), (7, .ireturn, 0, 0)]
noncomputable def tb_178 : List TE := [(0, .iconst 0, 0, 0), (1, .istore_n 1, 0, 0), (2, .iload_n 0, 0, 0), (3, .istore_n 2, 0, 0), (4, .iload_n 2, 0, 0), (5, .ifCond .eq 15, 0, 0), (8, .iinc 1 1, 0, 0), (11, .iload_n 2, 0, 0), (12, .iload_n 2, 0, 0), (13, .iconst 1, 0, 0), (14, .isub, 0, 0), (15, .iand, 0, 0), (16, .istore_n 2, 0, 0), (17, .goto (-13), 0, 0), (20, .iload_n 1, 0, 0), (21, .ireturn, 0, 0)]
noncomputable def tb_179 : List TE := [(0, .iload_n 0, 0, 0), (1, .bipush (-2), 0, 0), (3, .if_icmp .ne 14, 0, 0), (6, .iload_n 1, 0, 0), (7, .bipush (-99), 0, 0), (9, .bipush 99, 0, 0), (11, .invokestatic 104, 173, 2), (14, .goto 32, 0, 0), (17, .iload_n 0, 0, 0), (18, .iconst (-1), 0, 0), (19, .if_icmp .eq 22, 0, 0), (22, .iload_n 0, 0, 0), (23, .iconst 0, 0, 0), (24, .bipush 7, 0, 0), (26, .invokestatic 104, 173, 2), (29, .ifCond .eq 16, 0, 0), (32, .iload_n 1, 0, 0), (33, .iconst 0, 0, 0), (34, .iconst 3, 0, 0), (35, .invokestatic 104, 173, 2), (38, .ifCond .eq 7, 0, 0), (41, .iconst 1, 0, 0), (42, .goto 4, 0, 0), (45, .iconst 0, 0, 0), (46, .ireturn, 0, 0)]
noncomputable def tb_180 : List TE := [(0, .iload_n 0, 0, 0), (1, .iconst 0, 0, 0), (2, .iconst 1, 0, 0), (3, .invokestatic 104, 173, 2), (6, .ifCond .eq 17, 0, 0), (9, .iload_n 1, 0, 0), (10, .iconst 0, 0, 0), (11, .bipush 7, 0, 0), (13, .invokestatic 104, 173, 2), (16, .ifCond .eq 7, 0, 0), (19, .iconst 1, 0, 0), (20, .goto 4, 0, 0), (23, .iconst 0, 0, 0), (24, .ireturn, 0, 0)]
noncomputable def tb_181 : List TE := [(0, .aload_n 0, 0, 0), (1, .getfield 7, 10, 2), (4, .aload_n 0, 0, 0), (5, .getfield 108, 10, 1), (8, .iload_n 1, 0, 0), (9, .iastore, 0, 0), (10, .aload_n 0, 0, 0), (11, .getfield 13, 10, 3), (14, .aload_n 0, 0, 0), (15, .getfield 108, 10, 1), (18, .iload_n 2, 0, 0), (19, .iastore, 0, 0), (20, .aload_n 0, 0, 0), (21, .getfield 16, 10, 4), (24, .aload_n 0, 0, 0), (25, .getfield 108, 10, 1), (28, .iload_n 3, 0, 0), (29, .iastore, 0, 0), (30, .aload_n 0, 0, 0), (31, .getfield 19, 10, 5), (34, .aload_n 0, 0, 0), (35, .getfield 108, 10, 1), (38, .iload 4, 0, 0), (40, .iastore, 0, 0), (41, .aload_n 0, 0, 0), (42, .getfield 22, 10, 6), (45, .aload_n 0, 0, 0), (46, .getfield 108, 10, 1), (49, .iload 5, 0, 0), (51, .iastore, 0, 0), (52, .aload_n 0, 0, 0), (53, .getfield 25, 10, 7), (56, .aload_n 0, 0, 0), (57, .getfield 108, 10, 1), (60, .iconst 0, 0, 0), (61, .iastore, 0, 0), (62, .aload_n 0, 0, 0), (63, .dup, 0, 0), (64, .getfield 108, 10, 1), (67, .iconst 1, 0, 0), (68, .iadd, 0, 0), (69, .putfield 108, 10, 1), (72, .aload_n 0, 0, 0), (73, .getfield 108, 10, 1), (76, .iconst 1, 0, 0), (77, .isub, 0, 0), (78, .ireturn, 0, 0)]
noncomputable def tb_182 : List TE := [(0, .aload_n 0, 0, 0), (1, .iload_n 1, 0, 0), (2, .iconst 0, 0, 0), (3, .iconst 3, 0, 0), (4, .invokestatic 104, 173, 2), (7, .ifCond .eq 21, 0, 0), (10, .iload_n 2, 0, 0), (11, .iload_n 3, 0, 0), (12, .invokestatic 111, 179, 2), (15, .ifCond .eq 13, 0, 0), (18, .iload 4, 0, 0), (20, .iload 5, 0, 0), (22, .invokestatic 111, 179, 2), (25, .ifCond .ne 7, 0, 0), (28, .iconst 1, 0, 0), (29, .goto 17, 0, 0), (32, .aload_n 0, 0, 0), (33, .getfield 108, 10, 1), (36, .bipush 8, 0, 0), (38, .if_icmp .ne 7, 0, 0), (41, .iconst 2, 0, 0), (42, .goto 4, 0, 0), (45, .iconst 0, 0, 0), (46, .putfield 101, 10, 0), (49, .aload_n 0, 0, 0), (50, .getfield 101, 10, 0), (53, .ifCond .le 7, 0, 0), (56, .iconst 0, 0, 0), (57, .goto 14, 0, 0), (60, .aload_n 0, 0, 0), (61, .iload_n 1, 0, 0), (62, .iload_n 2, 0, 0), (63, .iload_n 3, 0, 0), (64, .iload 4, 0, 0), (66, .iload 5, 0, 0), (68, .invokevirtual 115, 181, 0), (71, .ireturn, 0, 0)]
noncomputable def tb_183 : List TE := [(0, .aload_n 0, 0, 0), (1, .iload_n 1, 0, 0), (2, .iload_n 2, 0, 0), (3, .invokestatic 119, 180, 2), (6, .ifCond .ne 7, 0, 0), (9, .iconst 1, 0, 0), (10, .goto 17, 0, 0), (13, .aload_n 0, 0, 0), (14, .getfield 108, 10, 1), (17, .bipush 8, 0, 0), (19, .if_icmp .ne 7, 0, 0), (22, .iconst 2, 0, 0), (23, .goto 4, 0, 0), (26, .iconst 0, 0, 0), (27, .putfield 101, 10, 0), (30, .aload_n 0, 0, 0), (31, .getfield 101, 10, 0), (34, .ifCond .le 7, 0, 0), (37, .iconst 0, 0, 0), (38, .goto 12, 0, 0), (41, .aload_n 0, 0, 0), (42, .iconst 4, 0, 0), (43, .iload_n 1, 0, 0), (44, .iload_n 2, 0, 0), (45, .iconst 0, 0, 0), (46, .iconst 0, 0, 0), (47, .invokevirtual 115, 181, 0), (50, .ireturn, 0, 0)]
noncomputable def tb_184 : List TE := [(0, .aload_n 0, 0, 0), (1, .iload_n 1, 0, 0), (2, .iload_n 2, 0, 0), (3, .invokestatic 111, 179, 2), (6, .ifCond .eq 12, 0, 0), (9, .iload_n 3, 0, 0), (10, .iload 4, 0, 0), (12, .invokestatic 119, 180, 2), (15, .ifCond .ne 7, 0, 0), (18, .iconst 1, 0, 0), (19, .goto 17, 0, 0), (22, .aload_n 0, 0, 0), (23, .getfield 108, 10, 1), (26, .bipush 8, 0, 0), (28, .if_icmp .ne 7, 0, 0), (31, .iconst 2, 0, 0), (32, .goto 4, 0, 0), (35, .iconst 0, 0, 0), (36, .putfield 101, 10, 0), (39, .aload_n 0, 0, 0), (40, .getfield 101, 10, 0), (43, .ifCond .le 7, 0, 0), (46, .iconst 0, 0, 0), (47, .goto 13, 0, 0), (50, .aload_n 0, 0, 0), (51, .iconst 5, 0, 0), (52, .iload_n 1, 0, 0), (53, .iload_n 2, 0, 0), (54, .iload_n 3, 0, 0), (55, .iload 4, 0, 0), (57, .invokevirtual 115, 181, 0), (60, .ireturn, 0, 0)]
noncomputable def tb_185 : List TE := [(0, .aload_n 0, 0, 0), (1, .aload_n 0, 0, 0), (2, .getfield 108, 10, 1), (5, .ifCond .ne 7, 0, 0), (8, .iconst 1, 0, 0), (9, .goto 4, 0, 0), (12, .iconst 0, 0, 0), (13, .putfield 101, 10, 0), (16, .aload_n 0, 0, 0), (17, .getfield 101, 10, 0), (20, .ifCond .le 5, 0, 0), (23, .iconst 0, 0, 0), (24, .ireturn, 0, 0), (25, .aload_n 0, 0, 0), (26, .dup, 0, 0), (27, .getfield 108, 10, 1), (30, .iconst 1, 0, 0), (31, .isub, 0, 0), (32, .putfield 108, 10, 1), (35, .aload_n 0, 0, 0), (36, .getfield 108, 10, 1), (39, .ireturn, 0, 0)]
noncomputable def tb_186 : List TE := [(0, .iload_n 1, 0, 0), (1, .iconst 0, 0, 0), (2, .aload_n 0, 0, 0), (3, .getfield 108, 10, 1), (6, .iconst 1, 0, 0), (7, .isub, 0, 0), (8, .invokestatic 104, 173, 2), (11, .ireturn, 0, 0)]
noncomputable def tb_187 : List TE := [(0, .aload_n 0, 0, 0), (1, .aload_n 0, 0, 0), (2, .iload_n 1, 0, 0), (3, .invokevirtual 122, 186, 0), (6, .ifCond .ne 7, 0, 0), (9, .iconst 1, 0, 0), (10, .goto 21, 0, 0), (13, .iload_n 2, 0, 0), (14, .sipush (-9999), 0, 0), (17, .sipush 9999, 0, 0), (20, .invokestatic 104, 173, 2), (23, .ifCond .ne 7, 0, 0), (26, .iconst 2, 0, 0), (27, .goto 4, 0, 0), (30, .iconst 0, 0, 0), (31, .putfield 101, 10, 0), (34, .aload_n 0, 0, 0), (35, .getfield 101, 10, 0), (38, .ifCond .le 5, 0, 0), (41, .iconst 0, 0, 0), (42, .ireturn, 0, 0), (43, .aload_n 0, 0, 0), (44, .getfield 25, 10, 7), (47, .iload_n 1, 0, 0), (48, .iaload, 0, 0), (49, .istore_n 3, 0, 0), (50, .aload_n 0, 0, 0), (51, .getfield 25, 10, 7), (54, .iload_n 1, 0, 0), (55, .iload_n 2, 0, 0), (56, .iastore, 0, 0), (57, .iload_n 3, 0, 0), (58, .ireturn, 0, 0)]
noncomputable def tb_188 : List TE := [(0, .aload_n 0, 0, 0), (1, .iload_n 1, 0, 0), (2, .iconst 0, 0, 0), (3, .iconst 5, 0, 0), (4, .invokestatic 104, 173, 2), (7, .ifCond .ne 7, 0, 0), (10, .iconst 1, 0, 0), (11, .goto 38, 0, 0), (14, .iload_n 2, 0, 0), (15, .iconst 0, 0, 0), (16, .iconst 2, 0, 0), (17, .invokestatic 104, 173, 2), (20, .ifCond .eq 24, 0, 0), (23, .iload_n 3, 0, 0), (24, .iconst 1, 0, 0), (25, .bipush 6, 0, 0), (27, .invokestatic 104, 173, 2), (30, .ifCond .eq 14, 0, 0), (33, .iload 4, 0, 0), (35, .iconst 1, 0, 0), (36, .bipush 15, 0, 0), (38, .invokestatic 104, 173, 2), (41, .ifCond .ne 7, 0, 0), (44, .iconst 2, 0, 0), (45, .goto 4, 0, 0), (48, .iconst 0, 0, 0), (49, .putfield 101, 10, 0), (52, .aload_n 0, 0, 0), (53, .getfield 101, 10, 0), (56, .ifCond .le 5, 0, 0), (59, .iconst 0, 0, 0), (60, .ireturn, 0, 0), (61, .aload_n 0, 0, 0), (62, .getfield 28, 10, 8), (65, .iload_n 1, 0, 0), (66, .iload_n 2, 0, 0), (67, .iastore, 0, 0), (68, .aload_n 0, 0, 0), (69, .getfield 31, 10, 9), (72, .iload_n 1, 0, 0), (73, .iload_n 3, 0, 0), (74, .iastore, 0, 0), (75, .aload_n 0, 0, 0), (76, .getfield 34, 10, 10), (79, .iload_n 1, 0, 0), (80, .iload 4, 0, 0), (82, .iastore, 0, 0), (83, .iconst 0, 0, 0), (84, .ireturn, 0, 0)]
noncomputable def tb_189 : List TE := [(0, .aload_n 0, 0, 0), (1, .iload_n 1, 0, 0), (2, .iconst 0, 0, 0), (3, .iconst 2, 0, 0), (4, .invokestatic 104, 173, 2), (7, .ifCond .ne 7, 0, 0), (10, .iconst 1, 0, 0), (11, .goto 17, 0, 0), (14, .iload_n 2, 0, 0), (15, .iconst 1, 0, 0), (16, .iconst 3, 0, 0), (17, .invokestatic 104, 173, 2), (20, .ifCond .ne 7, 0, 0), (23, .iconst 2, 0, 0), (24, .goto 4, 0, 0), (27, .iconst 0, 0, 0), (28, .putfield 101, 10, 0), (31, .aload_n 0, 0, 0), (32, .getfield 101, 10, 0), (35, .ifCond .le 5, 0, 0), (38, .iconst 0, 0, 0), (39, .ireturn, 0, 0), (40, .aload_n 0, 0, 0), (41, .getfield 37, 10, 11), (44, .iload_n 1, 0, 0), (45, .iaload, 0, 0), (46, .istore_n 3, 0, 0), (47, .aload_n 0, 0, 0), (48, .getfield 37, 10, 11), (51, .iload_n 1, 0, 0), (52, .iload_n 2, 0, 0), (53, .iastore, 0, 0), (54, .iload_n 3, 0, 0), (55, .ireturn, 0, 0)]
noncomputable def tb_190 : List TE := [(0, .aload_n 0, 0, 0), (1, .aload_n 0, 0, 0), (2, .iload_n 1, 0, 0), (3, .invokevirtual 122, 186, 0), (6, .ifCond .ne 7, 0, 0), (9, .iconst 1, 0, 0), (10, .goto 17, 0, 0), (13, .iload_n 2, 0, 0), (14, .iconst 0, 0, 0), (15, .iconst 5, 0, 0), (16, .invokestatic 104, 173, 2), (19, .ifCond .ne 7, 0, 0), (22, .iconst 2, 0, 0), (23, .goto 4, 0, 0), (26, .iconst 0, 0, 0), (27, .putfield 101, 10, 0), (30, .aload_n 0, 0, 0), (31, .getfield 101, 10, 0), (34, .ifCond .le 5, 0, 0), (37, .iconst 0, 0, 0), (38, .ireturn, 0, 0), (39, .iload_n 2, 0, 0), (40, .tableswitch 71 0 4 #[36, 43, 50, 57, 64], 36, 0), (76, .aload_n 0, 0, 0), (77, .getfield 7, 10, 2), (80, .iload_n 1, 0, 0), (81, .iaload, 0, 0), (82, .ireturn, 0, 0), (83, .aload_n 0, 0, 0), (84, .getfield 13, 10, 3), (87, .iload_n 1, 0, 0), (88, .iaload, 0, 0), (89, .ireturn, 0, 0), (90, .aload_n 0, 0, 0), (91, .getfield 16, 10, 4), (94, .iload_n 1, 0, 0), (95, .iaload, 0, 0), (96, .ireturn, 0, 0), (97, .aload_n 0, 0, 0), (98, .getfield 19, 10, 5), (101, .iload_n 1, 0, 0), (102, .iaload, 0, 0), (103, .ireturn, 0, 0), (104, .aload_n 0, 0, 0), (105, .getfield 22, 10, 6), (108, .iload_n 1, 0, 0), (109, .iaload, 0, 0), (110, .ireturn, 0, 0), (111, .aload_n 0, 0, 0), (112, .getfield 25, 10, 7), (115, .iload_n 1, 0, 0), (116, .iaload, 0, 0), (117, .ireturn, 0, 0)]
noncomputable def tb_191 : List TE := [(0, .aload_n 0, 0, 0), (1, .getfield 28, 10, 8), (4, .aload_n 0, 0, 0), (5, .getfield 7, 10, 2), (8, .iload_n 1, 0, 0), (9, .iaload, 0, 0), (10, .iaload, 0, 0), (11, .ireturn, 0, 0)]
noncomputable def tb_192 : List TE := [(0, .aload_n 0, 0, 0), (1, .getfield 31, 10, 9), (4, .aload_n 0, 0, 0), (5, .getfield 7, 10, 2), (8, .iload_n 1, 0, 0), (9, .iaload, 0, 0), (10, .iaload, 0, 0), (11, .ireturn, 0, 0)]
noncomputable def tb_193 : List TE := [(0, .aload_n 0, 0, 0), (1, .getfield 34, 10, 10), (4, .aload_n 0, 0, 0), (5, .getfield 7, 10, 2), (8, .iload_n 1, 0, 0), (9, .iaload, 0, 0), (10, .iaload, 0, 0), (11, .ireturn, 0, 0)]
noncomputable def tb_194 : List TE := [(0, .aload_n 0, 0, 0), (1, .getfield 7, 10, 2), (4, .iload_n 1, 0, 0), (5, .iaload, 0, 0), (6, .iconst 4, 0, 0), (7, .if_icmp .ne 7, 0, 0), (10, .iconst 0, 0, 0), (11, .goto 18, 0, 0), (14, .aload_n 0, 0, 0), (15, .getfield 7, 10, 2), (18, .iload_n 1, 0, 0), (19, .iaload, 0, 0), (20, .iconst 5, 0, 0), (21, .if_icmp .ne 7, 0, 0), (24, .iconst 1, 0, 0), (25, .goto 4, 0, 0), (28, .iconst 2, 0, 0), (29, .ireturn, 0, 0)]
noncomputable def tb_195 : List TE := [(0, .iload_n 2, 0, 0), (1, .ifCond .ne 12, 0, 0), (4, .aload_n 0, 0, 0), (5, .getfield 13, 10, 3), (8, .iload_n 1, 0, 0), (9, .iaload, 0, 0), (10, .goto 9, 0, 0), (13, .aload_n 0, 0, 0), (14, .getfield 19, 10, 5), (17, .iload_n 1, 0, 0), (18, .iaload, 0, 0), (19, .ireturn, 0, 0)]
noncomputable def tb_196 : List TE := [(0, .iload_n 2, 0, 0), (1, .ifCond .ne 12, 0, 0), (4, .aload_n 0, 0, 0), (5, .getfield 16, 10, 4), (8, .iload_n 1, 0, 0), (9, .iaload, 0, 0), (10, .goto 9, 0, 0), (13, .aload_n 0, 0, 0), (14, .getfield 22, 10, 6), (17, .iload_n 1, 0, 0), (18, .iaload, 0, 0), (19, .ireturn, 0, 0)]
noncomputable def tb_197 : List TE := [(0, .aload_n 0, 0, 0), (1, .getfield 7, 10, 2), (4, .iload_n 1, 0, 0), (5, .iaload, 0, 0), (6, .iconst 4, 0, 0), (7, .if_icmp .ne 12, 0, 0), (10, .aload_n 0, 0, 0), (11, .getfield 13, 10, 3), (14, .iload_n 1, 0, 0), (15, .iaload, 0, 0), (16, .goto 9, 0, 0), (19, .aload_n 0, 0, 0), (20, .getfield 19, 10, 5), (23, .iload_n 1, 0, 0), (24, .iaload, 0, 0), (25, .ireturn, 0, 0)]
noncomputable def tb_198 : List TE := [(0, .aload_n 0, 0, 0), (1, .getfield 7, 10, 2), (4, .iload_n 1, 0, 0), (5, .iaload, 0, 0), (6, .iconst 4, 0, 0), (7, .if_icmp .ne 12, 0, 0), (10, .aload_n 0, 0, 0), (11, .getfield 16, 10, 4), (14, .iload_n 1, 0, 0), (15, .iaload, 0, 0), (16, .goto 9, 0, 0), (19, .aload_n 0, 0, 0), (20, .getfield 22, 10, 6), (23, .iload_n 1, 0, 0), (24, .iaload, 0, 0), (25, .ireturn, 0, 0)]
noncomputable def tb_199 : List TE := [(0, .iconst 0, 0, 0), (1, .istore_n 1, 0, 0), (2, .iload_n 1, 0, 0), (3, .aload_n 0, 0, 0), (4, .getfield 108, 10, 1), (7, .if_icmp .ge 74, 0, 0), (10, .iconst 0, 0, 0), (11, .istore_n 2, 0, 0), (12, .iload_n 2, 0, 0), (13, .aload_n 0, 0, 0), (14, .iload_n 1, 0, 0), (15, .invokevirtual 126, 194, 0), (18, .if_icmp .ge 57, 0, 0), (21, .aload_n 0, 0, 0), (22, .iload_n 1, 0, 0), (23, .iload_n 2, 0, 0), (24, .invokevirtual 130, 195, 0), (27, .istore_n 3, 0, 0), (28, .iload_n 3, 0, 0), (29, .ifCond .ge 6, 0, 0), (32, .goto 37, 0, 0), (35, .iload_n 3, 0, 0), (36, .aload_n 0, 0, 0), (37, .getfield 108, 10, 1), (40, .if_icmp .ge 27, 0, 0), (43, .aload_n 0, 0, 0), (44, .getfield 7, 10, 2), (47, .iload_n 3, 0, 0), (48, .iaload, 0, 0), (49, .iconst 5, 0, 0), (50, .if_icmp .eq 17, 0, 0), (53, .aload_n 0, 0, 0), (54, .iload_n 1, 0, 0), (55, .iload_n 2, 0, 0), (56, .invokevirtual 134, 196, 0), (59, .ifCond .ne 10, 0, 0), (62, .iload_n 3, 0, 0), (63, .iload_n 1, 0, 0), (64, .if_icmp .lt 5, 0, 0), (67, .iconst 0, 0, 0), (68, .ireturn, 0, 0), (69, .iinc 2 1, 0, 0), (72, .goto (-60), 0, 0), (75, .iinc 1 1, 0, 0), (78, .goto (-76), 0, 0), (81, .iconst 1, 0, 0), (82, .ireturn, 0, 0)]
noncomputable def tb_200 : List TE := [(0, .aload_n 0, 0, 0), (1, .iconst 0, 0, 0), (2, .putfield 101, 10, 0), (5, .aload_n 0, 0, 0), (6, .invokevirtual 137, 199, 0), (9, .ireturn, 0, 0)]
noncomputable def tb_201 : List TE := [(0, .aload_n 0, 0, 0), (1, .getfield 40, 10, 13), (4, .iload_n 1, 0, 0), (5, .iaload, 0, 0), (6, .iload_n 2, 0, 0), (7, .if_icmp .eq 19, 0, 0), (10, .aload_n 0, 0, 0), (11, .getfield 40, 10, 13), (14, .iload_n 1, 0, 0), (15, .iaload, 0, 0), (16, .iload_n 2, 0, 0), (17, .if_icmp .le 7, 0, 0), (20, .iconst 1, 0, 0), (21, .goto 4, 0, 0), (24, .iconst 0, 0, 0), (25, .ireturn, 0, 0), (26, .aload_n 0, 0, 0), (27, .getfield 43, 10, 14), (30, .iload_n 1, 0, 0), (31, .iaload, 0, 0), (32, .iload_n 3, 0, 0), (33, .if_icmp .eq 19, 0, 0), (36, .aload_n 0, 0, 0), (37, .getfield 43, 10, 14), (40, .iload_n 1, 0, 0), (41, .iaload, 0, 0), (42, .iload_n 3, 0, 0), (43, .if_icmp .le 7, 0, 0), (46, .iconst 1, 0, 0), (47, .goto 4, 0, 0), (50, .iconst 0, 0, 0), (51, .ireturn, 0, 0), (52, .aload_n 0, 0, 0), (53, .getfield 46, 10, 15), (56, .iload_n 1, 0, 0), (57, .iaload, 0, 0), (58, .iload 4, 0, 0), (60, .if_icmp .eq 22, 0, 0), (63, .aload_n 0, 0, 0), (64, .getfield 46, 10, 15), (67, .iload_n 1, 0, 0), (68, .iaload, 0, 0), (69, .iload 4, 0, 0), (71, .if_icmp .le 7, 0, 0), (74, .iconst 1, 0, 0), (75, .goto 23, 0, 0), (78, .iconst 0, 0, 0), (79, .goto 19, 0, 0), (82, .aload_n 0, 0, 0), (83, .getfield 49, 10, 16), (86, .iload_n 1, 0, 0), (87, .iaload, 0, 0), (88, .iload 5, 0, 0), (90, .if_icmp .le 7, 0, 0), (93, .iconst 1, 0, 0), (94, .goto 4, 0, 0), (97, .iconst 0, 0, 0), (98, .ireturn, 0, 0)]
noncomputable def tb_202 : List TE := [(0, .iconst 0, 0, 0), (1, .istore 5, 0, 0), (3, .iload 5, 0, 0), (5, .aload_n 0, 0, 0), (6, .getfield 141, 10, 12), (9, .if_icmp .ge 55, 0, 0), (12, .aload_n 0, 0, 0), (13, .getfield 40, 10, 13), (16, .iload 5, 0, 0), (18, .iaload, 0, 0), (19, .iload_n 1, 0, 0), (20, .if_icmp .ne 38, 0, 0), (23, .aload_n 0, 0, 0), (24, .getfield 43, 10, 14), (27, .iload 5, 0, 0), (29, .iaload, 0, 0), (30, .iload_n 2, 0, 0), (31, .if_icmp .ne 27, 0, 0), (34, .aload_n 0, 0, 0), (35, .getfield 46, 10, 15), (38, .iload 5, 0, 0), (40, .iaload, 0, 0), (41, .iload_n 3, 0, 0), (42, .if_icmp .ne 16, 0, 0), (45, .aload_n 0, 0, 0), (46, .getfield 49, 10, 16), (49, .iload 5, 0, 0), (51, .iaload, 0, 0), (52, .iload 4, 0, 0), (54, .if_icmp .ne 4, 0, 0), (57, .return_, 0, 0), (58, .iinc 5 1, 0, 0), (61, .goto (-58), 0, 0), (64, .aload_n 0, 0, 0), (65, .getfield 141, 10, 12), (68, .istore 5, 0, 0), (70, .iload 5, 0, 0), (72, .ifCond .le 89, 0, 0), (75, .aload_n 0, 0, 0), (76, .iload 5, 0, 0), (78, .iconst 1, 0, 0), (79, .isub, 0, 0), (80, .iload_n 1, 0, 0), (81, .iload_n 2, 0, 0), (82, .iload_n 3, 0, 0), (83, .iload 4, 0, 0), (85, .invokevirtual 144, 201, 0), (88, .ifCond .eq 73, 0, 0), (91, .aload_n 0, 0, 0), (92, .getfield 40, 10, 13), (95, .iload 5, 0, 0), (97, .aload_n 0, 0, 0), (98, .getfield 40, 10, 13), (101, .iload 5, 0, 0), (103, .iconst 1, 0, 0), (104, .isub, 0, 0), (105, .iaload, 0, 0), (106, .iastore, 0, 0), (107, .aload_n 0, 0, 0), (108, .getfield 43, 10, 14), (111, .iload 5, 0, 0), (113, .aload_n 0, 0, 0), (114, .getfield 43, 10, 14), (117, .iload 5, 0, 0), (119, .iconst 1, 0, 0), (120, .isub, 0, 0), (121, .iaload, 0, 0), (122, .iastore, 0, 0), (123, .aload_n 0, 0, 0), (124, .getfield 46, 10, 15), (127, .iload 5, 0, 0), (129, .aload_n 0, 0, 0), (130, .getfield 46, 10, 15), (133, .iload 5, 0, 0), (135, .iconst 1, 0, 0), (136, .isub, 0, 0), (137, .iaload, 0, 0), (138, .iastore, 0, 0), (139, .aload_n 0, 0, 0), (140, .getfield 49, 10, 16), (143, .iload 5, 0, 0), (145, .aload_n 0, 0, 0), (146, .getfield 49, 10, 16), (149, .iload 5, 0, 0), (151, .iconst 1, 0, 0), (152, .isub, 0, 0), (153, .iaload, 0, 0), (154, .iastore, 0, 0), (155, .iinc 5 (-1), 0, 0), (158, .goto (-88), 0, 0), (161, .aload_n 0, 0, 0), (162, .getfield 40, 10, 13), (165, .iload 5, 0, 0), (167, .iload_n 1, 0, 0), (168, .iastore, 0, 0), (169, .aload_n 0, 0, 0), (170, .getfield 43, 10, 14), (173, .iload 5, 0, 0), (175, .iload_n 2, 0, 0), (176, .iastore, 0, 0), (177, .aload_n 0, 0, 0), (178, .getfield 46, 10, 15), (181, .iload 5, 0, 0), (183, .iload_n 3, 0, 0), (184, .iastore, 0, 0), (185, .aload_n 0, 0, 0), (186, .getfield 49, 10, 16), (189, .iload 5, 0, 0), (191, .iload 4, 0, 0), (193, .iastore, 0, 0), (194, .aload_n 0, 0, 0), (195, .dup, 0, 0), (196, .getfield 141, 10, 12), (199, .iconst 1, 0, 0), (200, .iadd, 0, 0), (201, .putfield 141, 10, 12), (204, .return_, 0, 0)]
noncomputable def tb_203 : List TE := [(0, .aload_n 0, 0, 0), (1, .getfield 7, 10, 2), (4, .iload_n 1, 0, 0), (5, .iaload, 0, 0), (6, .iconst 4, 0, 0), (7, .if_icmp .eq 13, 0, 0), (10, .aload_n 0, 0, 0), (11, .getfield 7, 10, 2), (14, .iload_n 1, 0, 0), (15, .iaload, 0, 0), (16, .iconst 5, 0, 0), (17, .if_icmp .ne 7, 0, 0), (20, .iconst 1, 0, 0), (21, .goto 4, 0, 0), (24, .iconst 0, 0, 0), (25, .ireturn, 0, 0)]
noncomputable def tb_204 : List TE := [(0, .aload_n 0, 0, 0), (1, .iconst 0, 0, 0), (2, .putfield 141, 10, 12), (5, .iconst 0, 0, 0), (6, .istore_n 1, 0, 0), (7, .iload_n 1, 0, 0), (8, .aload_n 0, 0, 0), (9, .getfield 108, 10, 1), (12, .if_icmp .ge 62, 0, 0), (15, .iconst 0, 0, 0), (16, .istore_n 2, 0, 0), (17, .iload_n 2, 0, 0), (18, .aload_n 0, 0, 0), (19, .iload_n 1, 0, 0), (20, .invokevirtual 126, 194, 0), (23, .if_icmp .ge 45, 0, 0), (26, .aload_n 0, 0, 0), (27, .iload_n 1, 0, 0), (28, .iload_n 2, 0, 0), (29, .invokevirtual 130, 195, 0), (32, .ifCond .lt 30, 0, 0), (35, .aload_n 0, 0, 0), (36, .aload_n 0, 0, 0), (37, .iload_n 1, 0, 0), (38, .iload_n 2, 0, 0), (39, .invokevirtual 130, 195, 0), (42, .iload_n 1, 0, 0), (43, .aload_n 0, 0, 0), (44, .iload_n 1, 0, 0), (45, .iload_n 2, 0, 0), (46, .invokevirtual 134, 196, 0), (49, .aload_n 0, 0, 0), (50, .aload_n 0, 0, 0), (51, .iload_n 1, 0, 0), (52, .iload_n 2, 0, 0), (53, .invokevirtual 130, 195, 0), (56, .invokevirtual 148, 192, 0), (59, .invokevirtual 151, 202, 0), (62, .iinc 2 1, 0, 0), (65, .goto (-48), 0, 0), (68, .iinc 1 1, 0, 0), (71, .goto (-64), 0, 0), (74, .iconst 0, 0, 0), (75, .istore_n 1, 0, 0), (76, .iload_n 1, 0, 0), (77, .aload_n 0, 0, 0), (78, .getfield 108, 10, 1), (81, .if_icmp .ge 180, 0, 0), (84, .iconst 0, 0, 0), (85, .istore_n 2, 0, 0), (86, .iload_n 2, 0, 0), (87, .aload_n 0, 0, 0), (88, .getfield 108, 10, 1), (91, .if_icmp .ge 164, 0, 0), (94, .aload_n 0, 0, 0), (95, .getfield 7, 10, 2), (98, .iload_n 1, 0, 0), (99, .iaload, 0, 0), (100, .iconst 5, 0, 0), (101, .if_icmp .ne 154, 0, 0), (104, .iload_n 2, 0, 0), (105, .iload_n 1, 0, 0), (106, .if_icmp .eq 143, 0, 0), (109, .aload_n 0, 0, 0), (110, .iload_n 2, 0, 0), (111, .invokevirtual 155, 203, 0), (114, .ifCond .eq 135, 0, 0), (117, .aload_n 0, 0, 0), (118, .iload_n 2, 0, 0), (119, .invokevirtual 158, 197, 0), (122, .aload_n 0, 0, 0), (123, .iload_n 1, 0, 0), (124, .invokevirtual 158, 197, 0), (127, .if_icmp .eq 6, 0, 0), (130, .goto 119, 0, 0), (133, .aload_n 0, 0, 0), (134, .iload_n 1, 0, 0), (135, .invokevirtual 161, 198, 0), (138, .istore_n 3, 0, 0), (139, .aload_n 0, 0, 0), (140, .iload_n 2, 0, 0), (141, .invokevirtual 161, 198, 0), (144, .istore 4, 0, 0), (146, .iload_n 3, 0, 0), (147, .iload 4, 0, 0), (149, .if_icmp .gt 14, 0, 0), (152, .iload_n 3, 0, 0), (153, .iload 4, 0, 0), (155, .if_icmp .ne 12, 0, 0), (158, .iload_n 1, 0, 0), (159, .iload_n 2, 0, 0), (160, .if_icmp .ge 7, 0, 0), (163, .iconst 1, 0, 0), (164, .goto 4, 0, 0), (167, .iconst 0, 0, 0), (168, .istore 5, 0, 0), (170, .aload_n 0, 0, 0), (171, .getfield 7, 10, 2), (174, .iload_n 2, 0, 0), (175, .iaload, 0, 0), (176, .iconst 4, 0, 0), (177, .if_icmp .ne 26, 0, 0), (180, .iload 5, 0, 0), (182, .ifCond .eq 21, 0, 0), (185, .aload_n 0, 0, 0), (186, .iload_n 1, 0, 0), (187, .iload_n 2, 0, 0), (188, .iload_n 3, 0, 0), (189, .iload 4, 0, 0), (191, .isub, 0, 0), (192, .aload_n 0, 0, 0), (193, .iload_n 1, 0, 0), (194, .invokevirtual 148, 192, 0), (197, .invokevirtual 151, 202, 0), (200, .goto 49, 0, 0), (203, .aload_n 0, 0, 0), (204, .getfield 7, 10, 2), (207, .iload_n 2, 0, 0), (208, .iaload, 0, 0), (209, .iconst 4, 0, 0), (210, .if_icmp .ne 23, 0, 0), (213, .aload_n 0, 0, 0), (214, .iload_n 2, 0, 0), (215, .iload_n 1, 0, 0), (216, .iload 4, 0, 0), (218, .iload_n 3, 0, 0), (219, .isub, 0, 0), (220, .iconst 1, 0, 0), (221, .aload_n 0, 0, 0), (222, .iload_n 1, 0, 0), (223, .invokevirtual 148, 192, 0), (226, .isub, 0, 0), (227, .invokevirtual 151, 202, 0), (230, .goto 19, 0, 0), (233, .iload 5, 0, 0), (235, .ifCond .eq 14, 0, 0), (238, .aload_n 0, 0, 0), (239, .iload_n 1, 0, 0), (240, .iload_n 2, 0, 0), (241, .iload_n 3, 0, 0), (242, .iload 4, 0, 0), (244, .isub, 0, 0), (245, .iconst 1, 0, 0), (246, .invokevirtual 151, 202, 0), (249, .iinc 2 1, 0, 0), (252, .goto (-166), 0, 0), (255, .iinc 1 1, 0, 0), (258, .goto (-182), 0, 0), (261, .return_, 0, 0)]
noncomputable def tb_205 : List TE := [(0, .aload_n 0, 0, 0), (1, .aload_n 0, 0, 0), (2, .invokevirtual 137, 199, 0), (5, .ifCond .ne 7, 0, 0), (8, .iconst 1, 0, 0), (9, .goto 4, 0, 0), (12, .iconst 0, 0, 0), (13, .putfield 101, 10, 0), (16, .aload_n 0, 0, 0), (17, .getfield 101, 10, 0), (20, .ifCond .le 5, 0, 0), (23, .iconst 0, 0, 0), (24, .ireturn, 0, 0), (25, .aload_n 0, 0, 0), (26, .invokevirtual 164, 204, 0), (29, .aload_n 0, 0, 0), (30, .iload_n 1, 0, 0), (31, .iconst 0, 0, 0), (32, .aload_n 0, 0, 0), (33, .getfield 141, 10, 12), (36, .iconst 1, 0, 0), (37, .isub, 0, 0), (38, .invokestatic 104, 173, 2), (41, .ifCond .ne 7, 0, 0), (44, .iconst 2, 0, 0), (45, .goto 17, 0, 0), (48, .iload_n 2, 0, 0), (49, .iconst 0, 0, 0), (50, .iconst 3, 0, 0), (51, .invokestatic 104, 173, 2), (54, .ifCond .ne 7, 0, 0), (57, .iconst 3, 0, 0), (58, .goto 4, 0, 0), (61, .iconst 0, 0, 0), (62, .putfield 101, 10, 0), (65, .aload_n 0, 0, 0), (66, .getfield 101, 10, 0), (69, .ifCond .le 5, 0, 0), (72, .iconst 0, 0, 0), (73, .ireturn, 0, 0), (74, .iload_n 2, 0, 0), (75, .ifCond .ne 12, 0, 0), (78, .aload_n 0, 0, 0), (79, .getfield 40, 10, 13), (82, .iload_n 1, 0, 0), (83, .iaload, 0, 0), (84, .goto 37, 0, 0), (87, .iload_n 2, 0, 0), (88, .iconst 1, 0, 0), (89, .if_icmp .ne 12, 0, 0), (92, .aload_n 0, 0, 0), (93, .getfield 43, 10, 14), (96, .iload_n 1, 0, 0), (97, .iaload, 0, 0), (98, .goto 23, 0, 0), (101, .iload_n 2, 0, 0), (102, .iconst 2, 0, 0), (103, .if_icmp .ne 12, 0, 0), (106, .aload_n 0, 0, 0), (107, .getfield 46, 10, 15), (110, .iload_n 1, 0, 0), (111, .iaload, 0, 0), (112, .goto 9, 0, 0), (115, .aload_n 0, 0, 0), (116, .getfield 49, 10, 16), (119, .iload_n 1, 0, 0), (120, .iaload, 0, 0), (121, .ireturn, 0, 0)]
noncomputable def tb_206 : List TE := [(0, .iconst 0, 0, 0), (1, .istore_n 2, 0, 0), (2, .iload_n 2, 0, 0), (3, .bipush 64, 0, 0), (5, .if_icmp .ge 18, 0, 0), (8, .aload_n 0, 0, 0), (9, .getfield 52, 10, 17), (12, .iload_n 2, 0, 0), (13, .sipush (-1000), 0, 0), (16, .iastore, 0, 0), (17, .iinc 2 1, 0, 0), (20, .goto (-18), 0, 0), (23, .iconst 0, 0, 0), (24, .istore_n 2, 0, 0), (25, .iload_n 2, 0, 0), (26, .aload_n 0, 0, 0), (27, .getfield 141, 10, 12), (30, .if_icmp .ge 77, 0, 0), (33, .iload_n 2, 0, 0), (34, .aload_n 0, 0, 0), (35, .getfield 55, 10, 18), (38, .if_icmp .eq 63, 0, 0), (41, .aload_n 0, 0, 0), (42, .getfield 52, 10, 17), (45, .bipush 8, 0, 0), (47, .aload_n 0, 0, 0), (48, .getfield 40, 10, 13), (51, .iload_n 2, 0, 0), (52, .iaload, 0, 0), (53, .imul, 0, 0), (54, .aload_n 0, 0, 0), (55, .getfield 43, 10, 14), (58, .iload_n 2, 0, 0), (59, .iaload, 0, 0), (60, .iadd, 0, 0), (61, .aload_n 0, 0, 0), (62, .getfield 52, 10, 17), (65, .bipush 8, 0, 0), (67, .aload_n 0, 0, 0), (68, .getfield 40, 10, 13), (71, .iload_n 2, 0, 0), (72, .iaload, 0, 0), (73, .imul, 0, 0), (74, .aload_n 0, 0, 0), (75, .getfield 43, 10, 14), (78, .iload_n 2, 0, 0), (79, .iaload, 0, 0), (80, .iadd, 0, 0), (81, .iaload, 0, 0), (82, .aload_n 0, 0, 0), (83, .getfield 49, 10, 16), (86, .iload_n 2, 0, 0), (87, .iaload, 0, 0), (88, .iload_n 1, 0, 0), (89, .aload_n 0, 0, 0), (90, .getfield 46, 10, 15), (93, .iload_n 2, 0, 0), (94, .iaload, 0, 0), (95, .imul, 0, 0), (96, .isub, 0, 0), (97, .invokestatic 167, 174, 2), (100, .iastore, 0, 0), (101, .iinc 2 1, 0, 0), (104, .goto (-79), 0, 0), (107, .iconst 0, 0, 0), (108, .istore_n 2, 0, 0), (109, .iload_n 2, 0, 0), (110, .aload_n 0, 0, 0), (111, .getfield 108, 10, 1), (114, .if_icmp .ge 123, 0, 0), (117, .iconst 0, 0, 0), (118, .istore_n 3, 0, 0), (119, .iload_n 3, 0, 0), (120, .aload_n 0, 0, 0), (121, .getfield 108, 10, 1), (124, .if_icmp .ge 107, 0, 0), (127, .iconst 0, 0, 0), (128, .istore 4, 0, 0), (130, .iload 4, 0, 0), (132, .aload_n 0, 0, 0), (133, .getfield 108, 10, 1), (136, .if_icmp .ge 89, 0, 0), (139, .aload_n 0, 0, 0), (140, .getfield 52, 10, 17), (143, .bipush 8, 0, 0), (145, .iload_n 3, 0, 0), (146, .imul, 0, 0), (147, .iload_n 2, 0, 0), (148, .iadd, 0, 0), (149, .iaload, 0, 0), (150, .istore 5, 0, 0), (152, .aload_n 0, 0, 0), (153, .getfield 52, 10, 17), (156, .bipush 8, 0, 0), (158, .iload_n 2, 0, 0), (159, .imul, 0, 0), (160, .iload 4, 0, 0), (162, .iadd, 0, 0), (163, .iaload, 0, 0), (164, .istore 6, 0, 0), (166, .iload 5, 0, 0), (168, .sipush (-1000), 0, 0), (171, .if_icmp .le 48, 0, 0), (174, .iload 6, 0, 0), (176, .sipush (-1000), 0, 0), (179, .if_icmp .le 40, 0, 0), (182, .aload_n 0, 0, 0), (183, .getfield 52, 10, 17), (186, .bipush 8, 0, 0), (188, .iload_n 3, 0, 0), (189, .imul, 0, 0), (190, .iload 4, 0, 0), (192, .iadd, 0, 0), (193, .aload_n 0, 0, 0), (194, .getfield 52, 10, 17), (197, .bipush 8, 0, 0), (199, .iload_n 3, 0, 0), (200, .imul, 0, 0), (201, .iload 4, 0, 0), (203, .iadd, 0, 0), (204, .iaload, 0, 0), (205, .bipush 99, 0, 0), (207, .iload 5, 0, 0), (209, .iload 6, 0, 0), (211, .iadd, 0, 0), (212, .invokestatic 170, 175, 2), (215, .invokestatic 167, 174, 2), (218, .iastore, 0, 0), (219, .iinc 4 1, 0, 0), (222, .goto (-92), 0, 0), (225, .iinc 3 1, 0, 0), (228, .goto (-109), 0, 0), (231, .iinc 2 1, 0, 0), (234, .goto (-125), 0, 0), (237, .return_, 0, 0)]
noncomputable def tb_207 : List TE := [(0, .iconst 0, 0, 0), (1, .istore_n 1, 0, 0), (2, .iload_n 1, 0, 0), (3, .aload_n 0, 0, 0), (4, .getfield 108, 10, 1), (7, .if_icmp .ge 25, 0, 0), (10, .aload_n 0, 0, 0), (11, .getfield 52, 10, 17), (14, .bipush 8, 0, 0), (16, .iload_n 1, 0, 0), (17, .imul, 0, 0), (18, .iload_n 1, 0, 0), (19, .iadd, 0, 0), (20, .iaload, 0, 0), (21, .ifCond .le 5, 0, 0), (24, .iconst 0, 0, 0), (25, .ireturn, 0, 0), (26, .iinc 1 1, 0, 0), (29, .goto (-27), 0, 0), (32, .iconst 1, 0, 0), (33, .ireturn, 0, 0)]
noncomputable def tb_208 : List TE := [(0, .iconst 0, 0, 0), (1, .istore_n 1, 0, 0), (2, .aload_n 0, 0, 0), (3, .iload_n 1, 0, 0), (4, .invokevirtual 173, 206, 0), (7, .aload_n 0, 0, 0), (8, .invokevirtual 177, 207, 0), (11, .ifCond .ne 14, 0, 0), (14, .iinc 1 1, 0, 0), (17, .aload_n 0, 0, 0), (18, .iload_n 1, 0, 0), (19, .invokevirtual 173, 206, 0), (22, .goto (-15), 0, 0), (25, .iload_n 1, 0, 0), (26, .ireturn, 0, 0)]
noncomputable def tb_209 : List TE := [(0, .iconst 0, 0, 0), (1, .istore_n 2, 0, 0), (2, .iconst 0, 0, 0), (3, .istore_n 3, 0, 0), (4, .iload_n 3, 0, 0), (5, .aload_n 0, 0, 0), (6, .getfield 108, 10, 1), (9, .if_icmp .ge 33, 0, 0), (12, .iload_n 2, 0, 0), (13, .aload_n 0, 0, 0), (14, .iload_n 3, 0, 0), (15, .invokevirtual 180, 191, 0), (18, .iload_n 1, 0, 0), (19, .if_icmp .ne 14, 0, 0), (22, .aload_n 0, 0, 0), (23, .iload_n 3, 0, 0), (24, .invokevirtual 183, 193, 0), (27, .invokestatic 186, 178, 2), (30, .goto 4, 0, 0), (33, .iconst 0, 0, 0), (34, .iadd, 0, 0), (35, .istore_n 2, 0, 0), (36, .iinc 3 1, 0, 0), (39, .goto (-35), 0, 0), (42, .iload_n 2, 0, 0), (43, .ireturn, 0, 0)]
noncomputable def tb_210 : List TE := [(0, .iconst 0, 0, 0), (1, .istore_n 1, 0, 0), (2, .iconst 0, 0, 0), (3, .istore_n 2, 0, 0), (4, .iload_n 2, 0, 0), (5, .iconst 3, 0, 0), (6, .if_icmp .ge 28, 0, 0), (9, .iload_n 1, 0, 0), (10, .aload_n 0, 0, 0), (11, .iload_n 2, 0, 0), (12, .invokevirtual 189, 209, 0), (15, .aload_n 0, 0, 0), (16, .getfield 37, 10, 11), (19, .iload_n 2, 0, 0), (20, .iaload, 0, 0), (21, .invokestatic 192, 176, 2), (24, .invokestatic 167, 174, 2), (27, .istore_n 1, 0, 0), (28, .iinc 2 1, 0, 0), (31, .goto (-27), 0, 0), (34, .iload_n 1, 0, 0), (35, .ireturn, 0, 0)]
noncomputable def tb_211 : List TE := [(0, .aload_n 0, 0, 0), (1, .invokevirtual 164, 204, 0), (4, .iconst 1, 0, 0), (5, .aload_n 0, 0, 0), (6, .invokevirtual 195, 208, 0), (9, .aload_n 0, 0, 0), (10, .invokevirtual 199, 210, 0), (13, .invokestatic 167, 174, 2), (16, .invokestatic 167, 174, 2), (19, .ireturn, 0, 0)]
noncomputable def tb_212 : List TE := [(0, .iload_n 0, 0, 0), (1, .iconst 1, 0, 0), (2, .bipush 12, 0, 0), (4, .invokestatic 104, 173, 2), (7, .ireturn, 0, 0)]
noncomputable def tb_213 : List TE := [(0, .aload_n 0, 0, 0), (1, .invokevirtual 137, 199, 0), (4, .ifCond .ne 5, 0, 0), (7, .iconst 1, 0, 0), (8, .ireturn, 0, 0), (9, .aload_n 0, 0, 0), (10, .invokevirtual 164, 204, 0), (13, .iload_n 1, 0, 0), (14, .aload_n 0, 0, 0), (15, .invokevirtual 195, 208, 0), (18, .if_icmp .ge 7, 0, 0), (21, .iconst 1, 0, 0), (22, .goto 4, 0, 0), (25, .iconst 0, 0, 0), (26, .ireturn, 0, 0)]
noncomputable def tb_214 : List TE := [(0, .aload_n 0, 0, 0), (1, .aload_n 0, 0, 0), (2, .iload_n 1, 0, 0), (3, .invokevirtual 122, 186, 0), (6, .ifCond .eq 11, 0, 0), (9, .aload_n 0, 0, 0), (10, .iload_n 2, 0, 0), (11, .invokevirtual 122, 186, 0), (14, .ifCond .ne 7, 0, 0), (17, .iconst 1, 0, 0), (18, .goto 27, 0, 0), (21, .iload_n 3, 0, 0), (22, .invokestatic 202, 212, 2), (25, .ifCond .ne 7, 0, 0), (28, .iconst 2, 0, 0), (29, .goto 16, 0, 0), (32, .aload_n 0, 0, 0), (33, .iload_n 3, 0, 0), (34, .invokevirtual 205, 213, 0), (37, .ifCond .eq 7, 0, 0), (40, .iconst 3, 0, 0), (41, .goto 4, 0, 0), (44, .iconst 0, 0, 0), (45, .putfield 101, 10, 0), (48, .aload_n 0, 0, 0), (49, .getfield 101, 10, 0), (52, .ifCond .le 5, 0, 0), (55, .iconst 0, 0, 0), (56, .ireturn, 0, 0), (57, .aload_n 0, 0, 0), (58, .iload_n 3, 0, 0), (59, .invokevirtual 173, 206, 0), (62, .aload_n 0, 0, 0), (63, .getfield 52, 10, 17), (66, .bipush 8, 0, 0), (68, .iload_n 1, 0, 0), (69, .imul, 0, 0), (70, .iload_n 2, 0, 0), (71, .iadd, 0, 0), (72, .iaload, 0, 0), (73, .ireturn, 0, 0)]
noncomputable def tb_215 : List TE := [(0, .iconst 0, 0, 0), (1, .istore_n 2, 0, 0), (2, .iconst 0, 0, 0), (3, .istore_n 3, 0, 0), (4, .iload_n 3, 0, 0), (5, .aload_n 0, 0, 0), (6, .getfield 108, 10, 1), (9, .if_icmp .ge 25, 0, 0), (12, .iload_n 2, 0, 0), (13, .aload_n 0, 0, 0), (14, .getfield 52, 10, 17), (17, .bipush 8, 0, 0), (19, .iload_n 1, 0, 0), (20, .imul, 0, 0), (21, .iload_n 3, 0, 0), (22, .iadd, 0, 0), (23, .iaload, 0, 0), (24, .invokestatic 167, 174, 2), (27, .istore_n 2, 0, 0), (28, .iinc 3 1, 0, 0), (31, .goto (-27), 0, 0), (34, .iload_n 2, 0, 0), (35, .ireturn, 0, 0)]
noncomputable def tb_216 : List TE := [(0, .aload_n 0, 0, 0), (1, .aload_n 0, 0, 0), (2, .iload_n 1, 0, 0), (3, .invokevirtual 122, 186, 0), (6, .ifCond .ne 7, 0, 0), (9, .iconst 1, 0, 0), (10, .goto 27, 0, 0), (13, .iload_n 2, 0, 0), (14, .invokestatic 202, 212, 2), (17, .ifCond .ne 7, 0, 0), (20, .iconst 2, 0, 0), (21, .goto 16, 0, 0), (24, .aload_n 0, 0, 0), (25, .iload_n 2, 0, 0), (26, .invokevirtual 205, 213, 0), (29, .ifCond .eq 7, 0, 0), (32, .iconst 3, 0, 0), (33, .goto 4, 0, 0), (36, .iconst 0, 0, 0), (37, .putfield 101, 10, 0), (40, .aload_n 0, 0, 0), (41, .getfield 101, 10, 0), (44, .ifCond .le 5, 0, 0), (47, .iconst 0, 0, 0), (48, .ireturn, 0, 0), (49, .aload_n 0, 0, 0), (50, .iload_n 2, 0, 0), (51, .invokevirtual 173, 206, 0), (54, .aload_n 0, 0, 0), (55, .iload_n 1, 0, 0), (56, .invokevirtual 208, 215, 0), (59, .ireturn, 0, 0)]
noncomputable def tb_217 : List TE := [(0, .aload_n 0, 0, 0), (1, .iload_n 1, 0, 0), (2, .iconst 0, 0, 0), (3, .iconst 2, 0, 0), (4, .invokestatic 104, 173, 2), (7, .ifCond .eq 7, 0, 0), (10, .iconst 0, 0, 0), (11, .goto 4, 0, 0), (14, .iconst 1, 0, 0), (15, .putfield 101, 10, 0), (18, .aload_n 0, 0, 0), (19, .getfield 101, 10, 0), (22, .ifCond .le 7, 0, 0), (25, .iconst 0, 0, 0), (26, .goto 8, 0, 0), (29, .aload_n 0, 0, 0), (30, .iload_n 1, 0, 0), (31, .invokevirtual 189, 209, 0), (34, .ireturn, 0, 0)]
noncomputable def tb_218 : List TE := [(0, .iconst 0, 0, 0), (1, .istore 5, 0, 0), (3, .iload 5, 0, 0), (5, .iconst 4, 0, 0), (6, .if_icmp .ge 50, 0, 0), (9, .aload_n 0, 0, 0), (10, .iload_n 1, 0, 0), (11, .invokevirtual 183, 193, 0), (14, .iload 5, 0, 0), (16, .ishr, 0, 0), (17, .iconst 1, 0, 0), (18, .iand, 0, 0), (19, .iconst 1, 0, 0), (20, .if_icmp .ne 30, 0, 0), (23, .aload_n 0, 0, 0), (24, .getfield 59, 10, 19), (27, .bipush 12, 0, 0), (29, .aload_n 0, 0, 0), (30, .iload_n 1, 0, 0), (31, .invokevirtual 180, 191, 0), (34, .imul, 0, 0), (35, .iload_n 2, 0, 0), (36, .iload 5, 0, 0), (38, .iadd, 0, 0), (39, .iload_n 3, 0, 0), (40, .invokestatic 211, 177, 2), (43, .iadd, 0, 0), (44, .dup2, 0, 0), (45, .iaload, 0, 0), (46, .iload 4, 0, 0), (48, .iadd, 0, 0), (49, .iastore, 0, 0), (50, .iinc 5 1, 0, 0), (53, .goto (-50), 0, 0), (56, .return_, 0, 0)]
noncomputable def tb_219 : List TE := [(0, .iconst 0, 0, 0), (1, .istore_n 3, 0, 0), (2, .iload_n 3, 0, 0), (3, .iload_n 2, 0, 0), (4, .if_icmp .ge 31, 0, 0), (7, .aload_n 0, 0, 0), (8, .getfield 59, 10, 19), (11, .bipush 12, 0, 0), (13, .iload_n 1, 0, 0), (14, .imul, 0, 0), (15, .iload_n 3, 0, 0), (16, .iadd, 0, 0), (17, .iaload, 0, 0), (18, .aload_n 0, 0, 0), (19, .getfield 37, 10, 11), (22, .iload_n 1, 0, 0), (23, .iaload, 0, 0), (24, .if_icmp .le 5, 0, 0), (27, .iconst 1, 0, 0), (28, .ireturn, 0, 0), (29, .iinc 3 1, 0, 0), (32, .goto (-30), 0, 0), (35, .iconst 0, 0, 0), (36, .ireturn, 0, 0)]
noncomputable def tb_220 : List TE := [(0, .iconst 0, 0, 0), (1, .istore_n 1, 0, 0), (2, .iload_n 1, 0, 0), (3, .bipush 36, 0, 0), (5, .if_icmp .ge 16, 0, 0), (8, .aload_n 0, 0, 0), (9, .getfield 59, 10, 19), (12, .iload_n 1, 0, 0), (13, .iconst 0, 0, 0), (14, .iastore, 0, 0), (15, .iinc 1 1, 0, 0), (18, .goto (-16), 0, 0), (21, .return_, 0, 0)]
noncomputable def tb_221 : List TE := [(0, .iconst 0, 0, 0), (1, .istore_n 3, 0, 0), (2, .iload_n 3, 0, 0), (3, .iload_n 1, 0, 0), (4, .if_icmp .ge 85, 0, 0), (7, .iconst 0, 0, 0), (8, .istore 4, 0, 0), (10, .iload 4, 0, 0), (12, .iload_n 1, 0, 0), (13, .if_icmp .ge 70, 0, 0), (16, .aload_n 0, 0, 0), (17, .getfield 52, 10, 17), (20, .bipush 8, 0, 0), (22, .iload_n 3, 0, 0), (23, .imul, 0, 0), (24, .iload 4, 0, 0), (26, .iadd, 0, 0), (27, .iaload, 0, 0), (28, .istore 5, 0, 0), (30, .aload_n 0, 0, 0), (31, .getfield 68, 10, 22), (34, .bipush 8, 0, 0), (36, .iload_n 3, 0, 0), (37, .imul, 0, 0), (38, .iload 4, 0, 0), (40, .iadd, 0, 0), (41, .iload 5, 0, 0), (43, .sipush (-1000), 0, 0), (46, .if_icmp .ne 9, 0, 0), (49, .sipush (-1000), 0, 0), (52, .goto 24, 0, 0), (55, .iload 5, 0, 0), (57, .aload_n 0, 0, 0), (58, .getfield 62, 10, 20), (61, .iload_n 3, 0, 0), (62, .iaload, 0, 0), (63, .iadd, 0, 0), (64, .aload_n 0, 0, 0), (65, .getfield 62, 10, 20), (68, .iload 4, 0, 0), (70, .iaload, 0, 0), (71, .isub, 0, 0), (72, .iload_n 2, 0, 0), (73, .invokestatic 192, 176, 2), (76, .iastore, 0, 0), (77, .iinc 4 1, 0, 0), (80, .goto (-70), 0, 0), (83, .iinc 3 1, 0, 0), (86, .goto (-84), 0, 0), (89, .iconst 0, 0, 0), (90, .istore_n 3, 0, 0), (91, .iload_n 3, 0, 0), (92, .iload_n 1, 0, 0), (93, .if_icmp .ge 122, 0, 0), (96, .iconst 0, 0, 0), (97, .istore 4, 0, 0), (99, .iload 4, 0, 0), (101, .iload_n 1, 0, 0), (102, .if_icmp .ge 107, 0, 0), (105, .iconst 0, 0, 0), (106, .istore 5, 0, 0), (108, .iload 5, 0, 0), (110, .iload_n 1, 0, 0), (111, .if_icmp .ge 92, 0, 0), (114, .aload_n 0, 0, 0), (115, .getfield 68, 10, 22), (118, .bipush 8, 0, 0), (120, .iload 4, 0, 0), (122, .imul, 0, 0), (123, .iload_n 3, 0, 0), (124, .iadd, 0, 0), (125, .iaload, 0, 0), (126, .istore 6, 0, 0), (128, .aload_n 0, 0, 0), (129, .getfield 68, 10, 22), (132, .bipush 8, 0, 0), (134, .iload_n 3, 0, 0), (135, .imul, 0, 0), (136, .iload 5, 0, 0), (138, .iadd, 0, 0), (139, .iaload, 0, 0), (140, .istore 7, 0, 0), (142, .iload 6, 0, 0), (144, .sipush (-1000), 0, 0), (147, .if_icmp .le 50, 0, 0), (150, .iload 7, 0, 0), (152, .sipush (-1000), 0, 0), (155, .if_icmp .le 42, 0, 0), (158, .aload_n 0, 0, 0), (159, .getfield 68, 10, 22), (162, .bipush 8, 0, 0), (164, .iload 4, 0, 0), (166, .imul, 0, 0), (167, .iload 5, 0, 0), (169, .iadd, 0, 0), (170, .aload_n 0, 0, 0), (171, .getfield 68, 10, 22), (174, .bipush 8, 0, 0), (176, .iload 4, 0, 0), (178, .imul, 0, 0), (179, .iload 5, 0, 0), (181, .iadd, 0, 0), (182, .iaload, 0, 0), (183, .bipush 99, 0, 0), (185, .iload 6, 0, 0), (187, .iload 7, 0, 0), (189, .iadd, 0, 0), (190, .invokestatic 170, 175, 2), (193, .invokestatic 167, 174, 2), (196, .iastore, 0, 0), (197, .iinc 5 1, 0, 0), (200, .goto (-92), 0, 0), (203, .iinc 4 1, 0, 0), (206, .goto (-107), 0, 0), (209, .iinc 3 1, 0, 0), (212, .goto (-121), 0, 0), (215, .iconst 0, 0, 0), (216, .istore_n 3, 0, 0), (217, .iload_n 3, 0, 0), (218, .iload_n 1, 0, 0), (219, .if_icmp .ge 25, 0, 0), (222, .aload_n 0, 0, 0), (223, .getfield 68, 10, 22), (226, .bipush 8, 0, 0), (228, .iload_n 3, 0, 0), (229, .imul, 0, 0), (230, .iload_n 3, 0, 0), (231, .iadd, 0, 0), (232, .iaload, 0, 0), (233, .ifCond .le 5, 0, 0), (236, .iconst 0, 0, 0), (237, .ireturn, 0, 0), (238, .iinc 3 1, 0, 0), (241, .goto (-24), 0, 0), (244, .iconst 1, 0, 0), (245, .ireturn, 0, 0)]
noncomputable def tb_222 : List TE := [(0, .aload_n 0, 0, 0), (1, .invokevirtual 214, 220, 0), (4, .iconst 0, 0, 0), (5, .istore_n 2, 0, 0), (6, .aload_n 0, 0, 0), (7, .getfield 108, 10, 1), (10, .ifCond .le 10, 0, 0), (13, .aload_n 0, 0, 0), (14, .getfield 62, 10, 20), (17, .iconst 0, 0, 0), (18, .iconst (-1), 0, 0), (19, .iastore, 0, 0), (20, .iload_n 2, 0, 0), (21, .aload_n 0, 0, 0), (22, .getfield 108, 10, 1), (25, .if_icmp .ge 119, 0, 0), (28, .aload_n 0, 0, 0), (29, .getfield 62, 10, 20), (32, .iload_n 2, 0, 0), (33, .iaload, 0, 0), (34, .iconst (-1), 0, 0), (35, .if_icmp .eq 16, 0, 0), (38, .aload_n 0, 0, 0), (39, .iload_n 2, 0, 0), (40, .aload_n 0, 0, 0), (41, .getfield 62, 10, 20), (44, .iload_n 2, 0, 0), (45, .iaload, 0, 0), (46, .iload_n 1, 0, 0), (47, .iconst (-1), 0, 0), (48, .invokevirtual 217, 218, 0), (51, .aload_n 0, 0, 0), (52, .getfield 62, 10, 20), (55, .iload_n 2, 0, 0), (56, .dup2, 0, 0), (57, .iaload, 0, 0), (58, .iconst 1, 0, 0), (59, .iadd, 0, 0), (60, .iastore, 0, 0), (61, .aload_n 0, 0, 0), (62, .getfield 62, 10, 20), (65, .iload_n 2, 0, 0), (66, .iaload, 0, 0), (67, .iload_n 1, 0, 0), (68, .if_icmp .ne 15, 0, 0), (71, .iload_n 2, 0, 0), (72, .ifCond .ne 5, 0, 0), (75, .iconst 0, 0, 0), (76, .ireturn, 0, 0), (77, .iinc 2 (-1), 0, 0), (80, .goto (-60), 0, 0), (83, .aload_n 0, 0, 0), (84, .iload_n 2, 0, 0), (85, .aload_n 0, 0, 0), (86, .getfield 62, 10, 20), (89, .iload_n 2, 0, 0), (90, .iaload, 0, 0), (91, .iload_n 1, 0, 0), (92, .iconst 1, 0, 0), (93, .invokevirtual 217, 218, 0), (96, .aload_n 0, 0, 0), (97, .aload_n 0, 0, 0), (98, .iload_n 2, 0, 0), (99, .invokevirtual 180, 191, 0), (102, .iload_n 1, 0, 0), (103, .invokevirtual 220, 219, 0), (106, .ifCond .ne (-86), 0, 0), (109, .aload_n 0, 0, 0), (110, .iload_n 2, 0, 0), (111, .iconst 1, 0, 0), (112, .iadd, 0, 0), (113, .iload_n 1, 0, 0), (114, .invokevirtual 223, 221, 0), (117, .ifCond .ne 6, 0, 0), (120, .goto (-100), 0, 0), (123, .iinc 2 1, 0, 0), (126, .iload_n 2, 0, 0), (127, .aload_n 0, 0, 0), (128, .getfield 108, 10, 1), (131, .if_icmp .ge (-111), 0, 0), (134, .aload_n 0, 0, 0), (135, .getfield 62, 10, 20), (138, .iload_n 2, 0, 0), (139, .iconst (-1), 0, 0), (140, .iastore, 0, 0), (141, .goto (-121), 0, 0), (144, .iconst 1, 0, 0), (145, .ireturn, 0, 0)]
noncomputable def tb_223 : List TE := [(0, .iconst 0, 0, 0), (1, .istore_n 2, 0, 0), (2, .iload_n 2, 0, 0), (3, .aload_n 0, 0, 0), (4, .getfield 108, 10, 1), (7, .if_icmp .ge 21, 0, 0), (10, .aload_n 0, 0, 0), (11, .getfield 65, 10, 21), (14, .iload_n 2, 0, 0), (15, .aload_n 0, 0, 0), (16, .getfield 62, 10, 20), (19, .iload_n 2, 0, 0), (20, .iaload, 0, 0), (21, .iastore, 0, 0), (22, .iinc 2 1, 0, 0), (25, .goto (-23), 0, 0), (28, .iconst 1, 0, 0), (29, .istore_n 2, 0, 0), (30, .iload_n 2, 0, 0), (31, .ifCond .eq 97, 0, 0), (34, .iconst 0, 0, 0), (35, .istore_n 2, 0, 0), (36, .iconst 0, 0, 0), (37, .istore_n 3, 0, 0), (38, .iload_n 3, 0, 0), (39, .aload_n 0, 0, 0), (40, .getfield 141, 10, 12), (43, .if_icmp .ge 82, 0, 0), (46, .aload_n 0, 0, 0), (47, .getfield 65, 10, 21), (50, .aload_n 0, 0, 0), (51, .getfield 40, 10, 13), (54, .iload_n 3, 0, 0), (55, .iaload, 0, 0), (56, .iaload, 0, 0), (57, .aload_n 0, 0, 0), (58, .getfield 49, 10, 16), (61, .iload_n 3, 0, 0), (62, .iaload, 0, 0), (63, .iadd, 0, 0), (64, .iload_n 1, 0, 0), (65, .aload_n 0, 0, 0), (66, .getfield 46, 10, 15), (69, .iload_n 3, 0, 0), (70, .iaload, 0, 0), (71, .imul, 0, 0), (72, .isub, 0, 0), (73, .aload_n 0, 0, 0), (74, .getfield 65, 10, 21), (77, .aload_n 0, 0, 0), (78, .getfield 43, 10, 14), (81, .iload_n 3, 0, 0), (82, .iaload, 0, 0), (83, .iaload, 0, 0), (84, .isub, 0, 0), (85, .istore 4, 0, 0), (87, .iload 4, 0, 0), (89, .ifCond .gt 6, 0, 0), (92, .goto 27, 0, 0), (95, .aload_n 0, 0, 0), (96, .getfield 65, 10, 21), (99, .aload_n 0, 0, 0), (100, .getfield 43, 10, 14), (103, .iload_n 3, 0, 0), (104, .iaload, 0, 0), (105, .dup2, 0, 0), (106, .iaload, 0, 0), (107, .iload_n 1, 0, 0), (108, .iload 4, 0, 0), (110, .iload_n 1, 0, 0), (111, .invokestatic 192, 176, 2), (114, .imul, 0, 0), (115, .iadd, 0, 0), (116, .iastore, 0, 0), (117, .iconst 1, 0, 0), (118, .istore_n 2, 0, 0), (119, .iinc 3 1, 0, 0), (122, .goto (-84), 0, 0), (125, .goto (-95), 0, 0), (128, .return_, 0, 0)]
noncomputable def tb_224 : List TE := [(0, .aload_n 0, 0, 0), (1, .iload_n 1, 0, 0), (2, .invokevirtual 205, 213, 0), (5, .ifCond .eq 5, 0, 0), (8, .iconst 0, 0, 0), (9, .ireturn, 0, 0), (10, .aload_n 0, 0, 0), (11, .iload_n 1, 0, 0), (12, .invokevirtual 173, 206, 0), (15, .aload_n 0, 0, 0), (16, .iload_n 1, 0, 0), (17, .invokevirtual 226, 222, 0), (20, .ifCond .ne 5, 0, 0), (23, .iconst 0, 0, 0), (24, .ireturn, 0, 0), (25, .aload_n 0, 0, 0), (26, .iload_n 1, 0, 0), (27, .invokevirtual 229, 223, 0), (30, .iconst 1, 0, 0), (31, .ireturn, 0, 0)]
noncomputable def tb_225 : List TE := [(0, .aload_n 0, 0, 0), (1, .iload_n 1, 0, 0), (2, .invokestatic 202, 212, 2), (5, .ifCond .ne 7, 0, 0), (8, .iconst 1, 0, 0), (9, .goto 15, 0, 0), (12, .aload_n 0, 0, 0), (13, .invokevirtual 137, 199, 0), (16, .ifCond .ne 7, 0, 0), (19, .iconst 2, 0, 0), (20, .goto 4, 0, 0), (23, .iconst 0, 0, 0), (24, .putfield 101, 10, 0), (27, .aload_n 0, 0, 0), (28, .getfield 101, 10, 0), (31, .ifCond .ne 15, 0, 0), (34, .aload_n 0, 0, 0), (35, .iload_n 1, 0, 0), (36, .invokevirtual 232, 224, 0), (39, .ifCond .eq 7, 0, 0), (42, .iconst 1, 0, 0), (43, .goto 4, 0, 0), (46, .iconst 0, 0, 0), (47, .ireturn, 0, 0)]
noncomputable def tb_226 : List TE := [(0, .aload_n 0, 0, 0), (1, .aload_n 0, 0, 0), (2, .invokevirtual 137, 199, 0), (5, .ifCond .eq 7, 0, 0), (8, .iconst 0, 0, 0), (9, .goto 4, 0, 0), (12, .iconst 1, 0, 0), (13, .putfield 101, 10, 0), (16, .aload_n 0, 0, 0), (17, .getfield 101, 10, 0), (20, .ifCond .le 5, 0, 0), (23, .iconst 0, 0, 0), (24, .ireturn, 0, 0), (25, .iconst 1, 0, 0), (26, .istore_n 1, 0, 0), (27, .iload_n 1, 0, 0), (28, .bipush 12, 0, 0), (30, .if_icmp .gt 19, 0, 0), (33, .aload_n 0, 0, 0), (34, .iload_n 1, 0, 0), (35, .invokevirtual 232, 224, 0), (38, .ifCond .eq 5, 0, 0), (41, .iload_n 1, 0, 0), (42, .ireturn, 0, 0), (43, .iinc 1 1, 0, 0), (46, .goto (-19), 0, 0), (49, .iconst (-1), 0, 0), (50, .ireturn, 0, 0)]
noncomputable def tb_227 : List TE := [(0, .aload_n 0, 0, 0), (1, .aload_n 0, 0, 0), (2, .iload_n 1, 0, 0), (3, .invokevirtual 122, 186, 0), (6, .ifCond .ne 7, 0, 0), (9, .iconst 1, 0, 0), (10, .goto 27, 0, 0), (13, .iload_n 2, 0, 0), (14, .invokestatic 202, 212, 2), (17, .ifCond .ne 7, 0, 0), (20, .iconst 2, 0, 0), (21, .goto 16, 0, 0), (24, .aload_n 0, 0, 0), (25, .iload_n 2, 0, 0), (26, .invokevirtual 232, 224, 0), (29, .ifCond .ne 7, 0, 0), (32, .iconst 3, 0, 0), (33, .goto 4, 0, 0), (36, .iconst 0, 0, 0), (37, .putfield 101, 10, 0), (40, .aload_n 0, 0, 0), (41, .getfield 101, 10, 0), (44, .ifCond .le 7, 0, 0), (47, .iconst 0, 0, 0), (48, .goto 9, 0, 0), (51, .aload_n 0, 0, 0), (52, .getfield 65, 10, 21), (55, .iload_n 1, 0, 0), (56, .iaload, 0, 0), (57, .ireturn, 0, 0)]
noncomputable def tb_228 : List TE := [(0, .aload_n 0, 0, 0), (1, .iload_n 1, 0, 0), (2, .iconst 0, 0, 0), (3, .iconst 2, 0, 0), (4, .invokestatic 104, 173, 2), (7, .ifCond .ne 7, 0, 0), (10, .iconst 1, 0, 0), (11, .goto 38, 0, 0), (14, .iload_n 3, 0, 0), (15, .invokestatic 202, 212, 2), (18, .ifCond .eq 14, 0, 0), (21, .iload_n 2, 0, 0), (22, .iconst 0, 0, 0), (23, .iload_n 3, 0, 0), (24, .iconst 1, 0, 0), (25, .isub, 0, 0), (26, .invokestatic 104, 173, 2), (29, .ifCond .ne 7, 0, 0), (32, .iconst 2, 0, 0), (33, .goto 16, 0, 0), (36, .aload_n 0, 0, 0), (37, .iload_n 3, 0, 0), (38, .invokevirtual 232, 224, 0), (41, .ifCond .ne 7, 0, 0), (44, .iconst 3, 0, 0), (45, .goto 4, 0, 0), (48, .iconst 0, 0, 0), (49, .putfield 101, 10, 0), (52, .aload_n 0, 0, 0), (53, .getfield 101, 10, 0), (56, .ifCond .le 7, 0, 0), (59, .iconst 0, 0, 0), (60, .goto 14, 0, 0), (63, .aload_n 0, 0, 0), (64, .getfield 59, 10, 19), (67, .bipush 12, 0, 0), (69, .iload_n 1, 0, 0), (70, .imul, 0, 0), (71, .iload_n 2, 0, 0), (72, .iadd, 0, 0), (73, .iaload, 0, 0), (74, .ireturn, 0, 0)]
noncomputable def tb_229 : List TE := [(0, .iconst 0, 0, 0), (1, .istore_n 3, 0, 0), (2, .iload_n 3, 0, 0), (3, .aload_n 0, 0, 0), (4, .getfield 141, 10, 12), (7, .if_icmp .ge 48, 0, 0), (10, .aload_n 0, 0, 0), (11, .getfield 40, 10, 13), (14, .iload_n 3, 0, 0), (15, .iaload, 0, 0), (16, .iload_n 1, 0, 0), (17, .if_icmp .ne 32, 0, 0), (20, .aload_n 0, 0, 0), (21, .getfield 43, 10, 14), (24, .iload_n 3, 0, 0), (25, .iaload, 0, 0), (26, .iload_n 1, 0, 0), (27, .if_icmp .ne 22, 0, 0), (30, .aload_n 0, 0, 0), (31, .getfield 49, 10, 16), (34, .iload_n 3, 0, 0), (35, .iaload, 0, 0), (36, .iload_n 2, 0, 0), (37, .aload_n 0, 0, 0), (38, .getfield 46, 10, 15), (41, .iload_n 3, 0, 0), (42, .iaload, 0, 0), (43, .imul, 0, 0), (44, .if_icmp .le 5, 0, 0), (47, .iconst 0, 0, 0), (48, .ireturn, 0, 0), (49, .iinc 3 1, 0, 0), (52, .goto (-50), 0, 0), (55, .aload_n 0, 0, 0), (56, .invokevirtual 214, 220, 0), (59, .aload_n 0, 0, 0), (60, .iload_n 1, 0, 0), (61, .iconst 0, 0, 0), (62, .iload_n 2, 0, 0), (63, .iconst 1, 0, 0), (64, .invokevirtual 217, 218, 0), (67, .aload_n 0, 0, 0), (68, .aload_n 0, 0, 0), (69, .iload_n 1, 0, 0), (70, .invokevirtual 180, 191, 0), (73, .iload_n 2, 0, 0), (74, .invokevirtual 220, 219, 0), (77, .ifCond .ne 7, 0, 0), (80, .iconst 1, 0, 0), (81, .goto 4, 0, 0), (84, .iconst 0, 0, 0), (85, .ireturn, 0, 0)]
noncomputable def tb_230 : List TE := [(0, .iconst (-1), 0, 0), (1, .istore_n 1, 0, 0), (2, .iconst 0, 0, 0), (3, .istore_n 2, 0, 0), (4, .iload_n 2, 0, 0), (5, .aload_n 0, 0, 0), (6, .getfield 108, 10, 1), (9, .if_icmp .ge 39, 0, 0), (12, .aload_n 0, 0, 0), (13, .getfield 71, 10, 23), (16, .iload_n 2, 0, 0), (17, .iaload, 0, 0), (18, .iconst (-1), 0, 0), (19, .if_icmp .ne 23, 0, 0), (22, .iload_n 1, 0, 0), (23, .iconst (-1), 0, 0), (24, .if_icmp .eq 16, 0, 0), (27, .aload_n 0, 0, 0), (28, .iload_n 2, 0, 0), (29, .invokevirtual 208, 215, 0), (32, .aload_n 0, 0, 0), (33, .iload_n 1, 0, 0), (34, .invokevirtual 208, 215, 0), (37, .if_icmp .le 5, 0, 0), (40, .iload_n 2, 0, 0), (41, .istore_n 1, 0, 0), (42, .iinc 2 1, 0, 0), (45, .goto (-41), 0, 0), (48, .iload_n 1, 0, 0), (49, .ireturn, 0, 0)]
noncomputable def tb_231 : List TE := [(0, .iconst 0, 0, 0), (1, .istore_n 3, 0, 0), (2, .iconst 0, 0, 0), (3, .istore 4, 0, 0), (5, .iload 4, 0, 0), (7, .aload_n 0, 0, 0), (8, .getfield 141, 10, 12), (11, .if_icmp .ge 82, 0, 0), (14, .aload_n 0, 0, 0), (15, .getfield 43, 10, 14), (18, .iload 4, 0, 0), (20, .iaload, 0, 0), (21, .iload_n 1, 0, 0), (22, .if_icmp .ne 65, 0, 0), (25, .aload_n 0, 0, 0), (26, .getfield 40, 10, 13), (29, .iload 4, 0, 0), (31, .iaload, 0, 0), (32, .iload_n 1, 0, 0), (33, .if_icmp .eq 54, 0, 0), (36, .aload_n 0, 0, 0), (37, .getfield 71, 10, 23), (40, .aload_n 0, 0, 0), (41, .getfield 40, 10, 13), (44, .iload 4, 0, 0), (46, .iaload, 0, 0), (47, .iaload, 0, 0), (48, .iconst (-1), 0, 0), (49, .if_icmp .eq 38, 0, 0), (52, .iload_n 3, 0, 0), (53, .aload_n 0, 0, 0), (54, .getfield 71, 10, 23), (57, .aload_n 0, 0, 0), (58, .getfield 40, 10, 13), (61, .iload 4, 0, 0), (63, .iaload, 0, 0), (64, .iaload, 0, 0), (65, .aload_n 0, 0, 0), (66, .getfield 49, 10, 16), (69, .iload 4, 0, 0), (71, .iaload, 0, 0), (72, .iadd, 0, 0), (73, .iload_n 2, 0, 0), (74, .aload_n 0, 0, 0), (75, .getfield 46, 10, 15), (78, .iload 4, 0, 0), (80, .iaload, 0, 0), (81, .imul, 0, 0), (82, .isub, 0, 0), (83, .invokestatic 167, 174, 2), (86, .istore_n 3, 0, 0), (87, .iinc 4 1, 0, 0), (90, .goto (-85), 0, 0), (93, .iload_n 3, 0, 0), (94, .ireturn, 0, 0)]
noncomputable def tb_232 : List TE := [(0, .aload_n 0, 0, 0), (1, .iload_n 1, 0, 0), (2, .iload_n 2, 0, 0), (3, .iload_n 3, 0, 0), (4, .iconst 1, 0, 0), (5, .invokevirtual 217, 218, 0), (8, .aload_n 0, 0, 0), (9, .aload_n 0, 0, 0), (10, .iload_n 1, 0, 0), (11, .invokevirtual 180, 191, 0), (14, .iload_n 3, 0, 0), (15, .invokevirtual 220, 219, 0), (18, .ifCond .ne 7, 0, 0), (21, .iconst 1, 0, 0), (22, .goto 4, 0, 0), (25, .iconst 0, 0, 0), (26, .istore 4, 0, 0), (28, .aload_n 0, 0, 0), (29, .iload_n 1, 0, 0), (30, .iload_n 2, 0, 0), (31, .iload_n 3, 0, 0), (32, .iconst (-1), 0, 0), (33, .invokevirtual 217, 218, 0), (36, .iload 4, 0, 0), (38, .ireturn, 0, 0)]
noncomputable def tb_233 : List TE := [(0, .aload_n 0, 0, 0), (1, .iload_n 1, 0, 0), (2, .aload_n 0, 0, 0), (3, .getfield 71, 10, 23), (6, .iload_n 1, 0, 0), (7, .iaload, 0, 0), (8, .iload_n 2, 0, 0), (9, .iconst (-1), 0, 0), (10, .invokevirtual 217, 218, 0), (13, .aload_n 0, 0, 0), (14, .getfield 71, 10, 23), (17, .iload_n 1, 0, 0), (18, .iconst (-1), 0, 0), (19, .iastore, 0, 0), (20, .return_, 0, 0)]
noncomputable def tb_234 : List TE := [(0, .iconst 0, 0, 0), (1, .istore 4, 0, 0), (3, .iload 4, 0, 0), (5, .iconst 4, 0, 0), (6, .if_icmp .ge 42, 0, 0), (9, .aload_n 0, 0, 0), (10, .iload_n 1, 0, 0), (11, .invokevirtual 183, 193, 0), (14, .iload 4, 0, 0), (16, .ishr, 0, 0), (17, .iconst 1, 0, 0), (18, .iand, 0, 0), (19, .iconst 1, 0, 0), (20, .if_icmp .ne 22, 0, 0), (23, .aload_n 0, 0, 0), (24, .getfield 71, 10, 23), (27, .iload_n 1, 0, 0), (28, .iaload, 0, 0), (29, .iload 4, 0, 0), (31, .iadd, 0, 0), (32, .iload_n 3, 0, 0), (33, .invokestatic 211, 177, 2), (36, .iload_n 2, 0, 0), (37, .if_icmp .ne 5, 0, 0), (40, .iconst 1, 0, 0), (41, .ireturn, 0, 0), (42, .iinc 4 1, 0, 0), (45, .goto (-42), 0, 0), (48, .iconst 0, 0, 0), (49, .ireturn, 0, 0)]
noncomputable def tb_235 : List TE := [(0, .aload_n 0, 0, 0), (1, .iload_n 1, 0, 0), (2, .invokevirtual 180, 191, 0), (5, .aload_n 0, 0, 0), (6, .iload_n 2, 0, 0), (7, .invokevirtual 180, 191, 0), (10, .if_icmp .eq 5, 0, 0), (13, .iconst 0, 0, 0), (14, .ireturn, 0, 0), (15, .iconst 0, 0, 0), (16, .istore 4, 0, 0), (18, .iload 4, 0, 0), (20, .iload_n 3, 0, 0), (21, .if_icmp .ge 62, 0, 0), (24, .aload_n 0, 0, 0), (25, .getfield 59, 10, 19), (28, .bipush 12, 0, 0), (30, .aload_n 0, 0, 0), (31, .iload_n 1, 0, 0), (32, .invokevirtual 180, 191, 0), (35, .imul, 0, 0), (36, .iload 4, 0, 0), (38, .iadd, 0, 0), (39, .iaload, 0, 0), (40, .aload_n 0, 0, 0), (41, .getfield 37, 10, 11), (44, .aload_n 0, 0, 0), (45, .iload_n 1, 0, 0), (46, .invokevirtual 180, 191, 0), (49, .iaload, 0, 0), (50, .if_icmp .le 27, 0, 0), (53, .aload_n 0, 0, 0), (54, .iload_n 1, 0, 0), (55, .iload 4, 0, 0), (57, .iload_n 3, 0, 0), (58, .invokevirtual 235, 234, 0), (61, .ifCond .eq 16, 0, 0), (64, .aload_n 0, 0, 0), (65, .iload_n 2, 0, 0), (66, .iload 4, 0, 0), (68, .iload_n 3, 0, 0), (69, .invokevirtual 235, 234, 0), (72, .ifCond .eq 5, 0, 0), (75, .iconst 1, 0, 0), (76, .ireturn, 0, 0), (77, .iinc 4 1, 0, 0), (80, .goto (-62), 0, 0), (83, .iconst 0, 0, 0), (84, .ireturn, 0, 0)]
noncomputable def tb_236 : List TE := [(0, .aload_n 0, 0, 0), (1, .getfield 71, 10, 23), (4, .aload_n 0, 0, 0), (5, .getfield 43, 10, 14), (8, .iload_n 1, 0, 0), (9, .iaload, 0, 0), (10, .iaload, 0, 0), (11, .aload_n 0, 0, 0), (12, .getfield 71, 10, 23), (15, .aload_n 0, 0, 0), (16, .getfield 40, 10, 13), (19, .iload_n 1, 0, 0), (20, .iaload, 0, 0), (21, .iaload, 0, 0), (22, .aload_n 0, 0, 0), (23, .getfield 49, 10, 16), (26, .iload_n 1, 0, 0), (27, .iaload, 0, 0), (28, .iadd, 0, 0), (29, .iload_n 2, 0, 0), (30, .aload_n 0, 0, 0), (31, .getfield 46, 10, 15), (34, .iload_n 1, 0, 0), (35, .iaload, 0, 0), (36, .imul, 0, 0), (37, .isub, 0, 0), (38, .if_icmp .lt 7, 0, 0), (41, .iconst 1, 0, 0), (42, .goto 4, 0, 0), (45, .iconst 0, 0, 0), (46, .ireturn, 0, 0)]
noncomputable def tb_237 : List TE := [(0, .aload_n 0, 0, 0), (1, .iload_n 1, 0, 0), (2, .iload_n 2, 0, 0), (3, .invokevirtual 238, 231, 0), (6, .istore_n 3, 0, 0), (7, .iload_n 3, 0, 0), (8, .istore 4, 0, 0), (10, .iload 4, 0, 0), (12, .iload_n 3, 0, 0), (13, .iload_n 2, 0, 0), (14, .iadd, 0, 0), (15, .if_icmp .ge 20, 0, 0), (18, .aload_n 0, 0, 0), (19, .iload_n 1, 0, 0), (20, .iload 4, 0, 0), (22, .iload_n 2, 0, 0), (23, .invokevirtual 241, 232, 0), (26, .ifCond .ne 9, 0, 0), (29, .iinc 4 1, 0, 0), (32, .goto (-22), 0, 0), (35, .iload 4, 0, 0), (37, .iload_n 3, 0, 0), (38, .iload_n 2, 0, 0), (39, .iadd, 0, 0), (40, .if_icmp .ne 31, 0, 0), (43, .aload_n 0, 0, 0), (44, .getfield 74, 10, 24), (47, .iload_n 1, 0, 0), (48, .iaload, 0, 0), (49, .iconst (-1), 0, 0), (50, .if_icmp .ne 7, 0, 0), (53, .iload_n 3, 0, 0), (54, .goto 15, 0, 0), (57, .iload_n 3, 0, 0), (58, .aload_n 0, 0, 0), (59, .getfield 74, 10, 24), (62, .iload_n 1, 0, 0), (63, .iaload, 0, 0), (64, .iconst 1, 0, 0), (65, .iadd, 0, 0), (66, .invokestatic 167, 174, 2), (69, .istore 4, 0, 0), (71, .aload_n 0, 0, 0), (72, .getfield 71, 10, 23), (75, .iload_n 1, 0, 0), (76, .iload 4, 0, 0), (78, .iastore, 0, 0), (79, .aload_n 0, 0, 0), (80, .getfield 74, 10, 24), (83, .iload_n 1, 0, 0), (84, .iload 4, 0, 0), (86, .iastore, 0, 0), (87, .aload_n 0, 0, 0), (88, .iload_n 1, 0, 0), (89, .iload 4, 0, 0), (91, .iload_n 2, 0, 0), (92, .iconst 1, 0, 0), (93, .invokevirtual 217, 218, 0), (96, .iconst 0, 0, 0), (97, .istore 5, 0, 0), (99, .iload 5, 0, 0), (101, .aload_n 0, 0, 0), (102, .getfield 108, 10, 1), (105, .if_icmp .ge 44, 0, 0), (108, .iload 5, 0, 0), (110, .iload_n 1, 0, 0), (111, .if_icmp .eq 32, 0, 0), (114, .aload_n 0, 0, 0), (115, .getfield 71, 10, 23), (118, .iload 5, 0, 0), (120, .iaload, 0, 0), (121, .iconst (-1), 0, 0), (122, .if_icmp .eq 21, 0, 0), (125, .aload_n 0, 0, 0), (126, .iload_n 1, 0, 0), (127, .iload 5, 0, 0), (129, .iload_n 2, 0, 0), (130, .invokevirtual 244, 235, 0), (133, .ifCond .eq 10, 0, 0), (136, .aload_n 0, 0, 0), (137, .iload 5, 0, 0), (139, .iload_n 2, 0, 0), (140, .invokevirtual 247, 233, 0), (143, .iinc 5 1, 0, 0), (146, .goto (-47), 0, 0), (149, .iconst 0, 0, 0), (150, .istore 5, 0, 0), (152, .iconst 0, 0, 0), (153, .istore 6, 0, 0), (155, .iload 6, 0, 0), (157, .aload_n 0, 0, 0), (158, .getfield 141, 10, 12), (161, .if_icmp .ge 90, 0, 0), (164, .aload_n 0, 0, 0), (165, .getfield 40, 10, 13), (168, .iload 6, 0, 0), (170, .iaload, 0, 0), (171, .iload_n 1, 0, 0), (172, .if_icmp .ne 13, 0, 0), (175, .aload_n 0, 0, 0), (176, .getfield 43, 10, 14), (179, .iload 6, 0, 0), (181, .iaload, 0, 0), (182, .goto 25, 0, 0), (185, .aload_n 0, 0, 0), (186, .getfield 43, 10, 14), (189, .iload 6, 0, 0), (191, .iaload, 0, 0), (192, .iload_n 1, 0, 0), (193, .if_icmp .ne 13, 0, 0), (196, .aload_n 0, 0, 0), (197, .getfield 40, 10, 13), (200, .iload 6, 0, 0), (202, .iaload, 0, 0), (203, .goto 4, 0, 0), (206, .iload_n 1, 0, 0), (207, .istore 7, 0, 0), (209, .iload 7, 0, 0), (211, .iload_n 1, 0, 0), (212, .if_icmp .eq 33, 0, 0), (215, .aload_n 0, 0, 0), (216, .getfield 71, 10, 23), (219, .iload 7, 0, 0), (221, .iaload, 0, 0), (222, .iconst (-1), 0, 0), (223, .if_icmp .eq 22, 0, 0), (226, .aload_n 0, 0, 0), (227, .iload 6, 0, 0), (229, .iload_n 2, 0, 0), (230, .invokevirtual 251, 236, 0), (233, .ifCond .ne 12, 0, 0), (236, .iload 5, 0, 0), (238, .iconst 1, 0, 0), (239, .iload 7, 0, 0), (241, .ishl, 0, 0), (242, .ior, 0, 0), (243, .istore 5, 0, 0), (245, .iinc 6 1, 0, 0), (248, .goto (-93), 0, 0), (251, .iconst 0, 0, 0), (252, .istore 6, 0, 0), (254, .iload 6, 0, 0), (256, .aload_n 0, 0, 0), (257, .getfield 108, 10, 1), (260, .if_icmp .ge 27, 0, 0), (263, .iload 5, 0, 0), (265, .iload 6, 0, 0), (267, .ishr, 0, 0), (268, .iconst 1, 0, 0), (269, .iand, 0, 0), (270, .iconst 1, 0, 0), (271, .if_icmp .ne 10, 0, 0), (274, .aload_n 0, 0, 0), (275, .iload 6, 0, 0), (277, .iload_n 2, 0, 0), (278, .invokevirtual 247, 233, 0), (281, .iinc 6 1, 0, 0), (284, .goto (-30), 0, 0), (287, .return_, 0, 0)]
noncomputable def tb_238 : List TE := [(0, .iconst 0, 0, 0), (1, .istore_n 2, 0, 0), (2, .iload_n 2, 0, 0), (3, .aload_n 0, 0, 0), (4, .getfield 108, 10, 1), (7, .if_icmp .ge 20, 0, 0), (10, .aload_n 0, 0, 0), (11, .iload_n 2, 0, 0), (12, .iload_n 1, 0, 0), (13, .invokevirtual 254, 229, 0), (16, .ifCond .ne 5, 0, 0), (19, .iconst 0, 0, 0), (20, .ireturn, 0, 0), (21, .iinc 2 1, 0, 0), (24, .goto (-22), 0, 0), (27, .aload_n 0, 0, 0), (28, .invokevirtual 214, 220, 0), (31, .aload_n 0, 0, 0), (32, .iconst 0, 0, 0), (33, .putfield 257, 10, 25), (36, .iconst 0, 0, 0), (37, .istore_n 2, 0, 0), (38, .iload_n 2, 0, 0), (39, .aload_n 0, 0, 0), (40, .getfield 108, 10, 1), (43, .if_icmp .ge 23, 0, 0), (46, .aload_n 0, 0, 0), (47, .getfield 71, 10, 23), (50, .iload_n 2, 0, 0), (51, .iconst (-1), 0, 0), (52, .iastore, 0, 0), (53, .aload_n 0, 0, 0), (54, .getfield 74, 10, 24), (57, .iload_n 2, 0, 0), (58, .iconst (-1), 0, 0), (59, .iastore, 0, 0), (60, .iinc 2 1, 0, 0), (63, .goto (-25), 0, 0), (66, .aload_n 0, 0, 0), (67, .invokevirtual 260, 230, 0), (70, .istore_n 2, 0, 0), (71, .iload_n 2, 0, 0), (72, .iconst (-1), 0, 0), (73, .if_icmp .eq 41, 0, 0), (76, .aload_n 0, 0, 0), (77, .getfield 257, 10, 25), (80, .bipush 6, 0, 0), (82, .aload_n 0, 0, 0), (83, .getfield 108, 10, 1), (86, .imul, 0, 0), (87, .if_icmp .ge 27, 0, 0), (90, .aload_n 0, 0, 0), (91, .iload_n 2, 0, 0), (92, .iload_n 1, 0, 0), (93, .invokevirtual 263, 237, 0), (96, .aload_n 0, 0, 0), (97, .dup, 0, 0), (98, .getfield 257, 10, 25), (101, .iconst 1, 0, 0), (102, .iadd, 0, 0), (103, .putfield 257, 10, 25), (106, .aload_n 0, 0, 0), (107, .invokevirtual 260, 230, 0), (110, .istore_n 2, 0, 0), (111, .goto (-40), 0, 0), (114, .iload_n 2, 0, 0), (115, .iconst (-1), 0, 0), (116, .if_icmp .ne 7, 0, 0), (119, .iconst 1, 0, 0), (120, .goto 4, 0, 0), (123, .iconst 0, 0, 0), (124, .ireturn, 0, 0)]
noncomputable def tb_239 : List TE := [(0, .aload_n 0, 0, 0), (1, .iload_n 1, 0, 0), (2, .invokevirtual 173, 206, 0), (5, .aload_n 0, 0, 0), (6, .iload_n 1, 0, 0), (7, .invokevirtual 266, 238, 0), (10, .ireturn, 0, 0)]
noncomputable def tb_240 : List TE := [(0, .aload_n 0, 0, 0), (1, .aload_n 0, 0, 0), (2, .iload_n 1, 0, 0), (3, .invokevirtual 122, 186, 0), (6, .ifCond .ne 7, 0, 0), (9, .iconst 1, 0, 0), (10, .goto 27, 0, 0), (13, .iload_n 2, 0, 0), (14, .invokestatic 202, 212, 2), (17, .ifCond .ne 7, 0, 0), (20, .iconst 2, 0, 0), (21, .goto 16, 0, 0), (24, .aload_n 0, 0, 0), (25, .iload_n 2, 0, 0), (26, .invokevirtual 205, 213, 0), (29, .ifCond .eq 7, 0, 0), (32, .iconst 3, 0, 0), (33, .goto 4, 0, 0), (36, .iconst 0, 0, 0), (37, .putfield 101, 10, 0), (40, .aload_n 0, 0, 0), (41, .getfield 101, 10, 0), (44, .ifCond .le 7, 0, 0), (47, .iconst 0, 0, 0), (48, .goto 21, 0, 0), (51, .aload_n 0, 0, 0), (52, .iload_n 2, 0, 0), (53, .invokevirtual 269, 239, 0), (56, .ifCond .eq 12, 0, 0), (59, .aload_n 0, 0, 0), (60, .getfield 71, 10, 23), (63, .iload_n 1, 0, 0), (64, .iaload, 0, 0), (65, .goto 4, 0, 0), (68, .iconst (-1), 0, 0), (69, .ireturn, 0, 0)]
noncomputable def tb_241 : List TE := [(0, .aload_n 0, 0, 0), (1, .iload_n 1, 0, 0), (2, .invokestatic 202, 212, 2), (5, .ifCond .ne 7, 0, 0), (8, .iconst 1, 0, 0), (9, .goto 16, 0, 0), (12, .aload_n 0, 0, 0), (13, .iload_n 1, 0, 0), (14, .invokevirtual 205, 213, 0), (17, .ifCond .eq 7, 0, 0), (20, .iconst 2, 0, 0), (21, .goto 4, 0, 0), (24, .iconst 0, 0, 0), (25, .putfield 101, 10, 0), (28, .aload_n 0, 0, 0), (29, .getfield 101, 10, 0), (32, .ifCond .le 7, 0, 0), (35, .iconst 0, 0, 0), (36, .goto 19, 0, 0), (39, .aload_n 0, 0, 0), (40, .iload_n 1, 0, 0), (41, .invokevirtual 269, 239, 0), (44, .ifCond .eq 10, 0, 0), (47, .aload_n 0, 0, 0), (48, .getfield 257, 10, 25), (51, .goto 4, 0, 0), (54, .iconst (-1), 0, 0), (55, .ireturn, 0, 0)]
noncomputable def tb_242 : List TE := [(0, .aload_n 0, 0, 0), (1, .aload_n 0, 0, 0), (2, .invokevirtual 137, 199, 0), (5, .ifCond .eq 7, 0, 0), (8, .iconst 0, 0, 0), (9, .goto 4, 0, 0), (12, .iconst 1, 0, 0), (13, .putfield 101, 10, 0), (16, .aload_n 0, 0, 0), (17, .getfield 101, 10, 0), (20, .ifCond .le 5, 0, 0), (23, .iconst 0, 0, 0), (24, .ireturn, 0, 0), (25, .iconst 1, 0, 0), (26, .istore_n 1, 0, 0), (27, .iload_n 1, 0, 0), (28, .bipush 12, 0, 0), (30, .if_icmp .gt 27, 0, 0), (33, .aload_n 0, 0, 0), (34, .iload_n 1, 0, 0), (35, .invokevirtual 205, 213, 0), (38, .ifCond .ne 13, 0, 0), (41, .aload_n 0, 0, 0), (42, .iload_n 1, 0, 0), (43, .invokevirtual 269, 239, 0), (46, .ifCond .eq 5, 0, 0), (49, .iload_n 1, 0, 0), (50, .ireturn, 0, 0), (51, .iinc 1 1, 0, 0), (54, .goto (-27), 0, 0), (57, .iconst (-1), 0, 0), (58, .ireturn, 0, 0)]
noncomputable def tb_243 : List TE := [(0, .iconst 0, 0, 0), (1, .istore_n 1, 0, 0), (2, .iconst 0, 0, 0), (3, .istore_n 2, 0, 0), (4, .iload_n 2, 0, 0), (5, .aload_n 0, 0, 0), (6, .getfield 108, 10, 1), (9, .if_icmp .ge 26, 0, 0), (12, .iload_n 1, 0, 0), (13, .aload_n 0, 0, 0), (14, .getfield 65, 10, 21), (17, .iload_n 2, 0, 0), (18, .iaload, 0, 0), (19, .aload_n 0, 0, 0), (20, .iload_n 2, 0, 0), (21, .invokevirtual 148, 192, 0), (24, .iadd, 0, 0), (25, .invokestatic 167, 174, 2), (28, .istore_n 1, 0, 0), (29, .iinc 2 1, 0, 0), (32, .goto (-28), 0, 0), (35, .iload_n 1, 0, 0), (36, .ireturn, 0, 0)]
noncomputable def tb_244 : List TE := [(0, .iconst 0, 0, 0), (1, .istore_n 2, 0, 0), (2, .iconst 0, 0, 0), (3, .istore_n 3, 0, 0), (4, .iload_n 3, 0, 0), (5, .aload_n 0, 0, 0), (6, .getfield 108, 10, 1), (9, .if_icmp .ge 22, 0, 0), (12, .iload_n 2, 0, 0), (13, .aload_n 0, 0, 0), (14, .getfield 65, 10, 21), (17, .iload_n 3, 0, 0), (18, .iaload, 0, 0), (19, .iload_n 1, 0, 0), (20, .idiv, 0, 0), (21, .invokestatic 167, 174, 2), (24, .istore_n 2, 0, 0), (25, .iinc 3 1, 0, 0), (28, .goto (-24), 0, 0), (31, .iload_n 2, 0, 0), (32, .iconst 1, 0, 0), (33, .iadd, 0, 0), (34, .ireturn, 0, 0)]
noncomputable def tb_245 : List TE := [(0, .aload_n 0, 0, 0), (1, .getfield 65, 10, 21), (4, .iload_n 1, 0, 0), (5, .iaload, 0, 0), (6, .aload_n 0, 0, 0), (7, .iload_n 1, 0, 0), (8, .invokevirtual 148, 192, 0), (11, .iadd, 0, 0), (12, .ireturn, 0, 0)]
noncomputable def tb_246 : List TE := [(0, .aload_n 0, 0, 0), (1, .getfield 7, 10, 2), (4, .iload_n 1, 0, 0), (5, .iaload, 0, 0), (6, .iconst 5, 0, 0), (7, .if_icmp .ne 5, 0, 0), (10, .iconst 0, 0, 0), (11, .ireturn, 0, 0), (12, .iconst (-1), 0, 0), (13, .istore_n 3, 0, 0), (14, .iconst 0, 0, 0), (15, .istore 4, 0, 0), (17, .iload 4, 0, 0), (19, .aload_n 0, 0, 0), (20, .getfield 108, 10, 1), (23, .if_icmp .ge 64, 0, 0), (26, .iconst 0, 0, 0), (27, .istore 5, 0, 0), (29, .iload 5, 0, 0), (31, .aload_n 0, 0, 0), (32, .iload 4, 0, 0), (34, .invokevirtual 126, 194, 0), (37, .if_icmp .ge 44, 0, 0), (40, .aload_n 0, 0, 0), (41, .iload 4, 0, 0), (43, .iload 5, 0, 0), (45, .invokevirtual 130, 195, 0), (48, .iload_n 1, 0, 0), (49, .if_icmp .ne 26, 0, 0), (52, .iload_n 3, 0, 0), (53, .aload_n 0, 0, 0), (54, .getfield 65, 10, 21), (57, .iload 4, 0, 0), (59, .iaload, 0, 0), (60, .iload_n 2, 0, 0), (61, .aload_n 0, 0, 0), (62, .iload 4, 0, 0), (64, .iload 5, 0, 0), (66, .invokevirtual 134, 196, 0), (69, .imul, 0, 0), (70, .iadd, 0, 0), (71, .invokestatic 167, 174, 2), (74, .istore_n 3, 0, 0), (75, .iinc 5 1, 0, 0), (78, .goto (-49), 0, 0), (81, .iinc 4 1, 0, 0), (84, .goto (-67), 0, 0), (87, .iload_n 3, 0, 0), (88, .iconst (-1), 0, 0), (89, .if_icmp .ne 7, 0, 0), (92, .iconst 0, 0, 0), (93, .goto 12, 0, 0), (96, .iload_n 3, 0, 0), (97, .aload_n 0, 0, 0), (98, .iload_n 1, 0, 0), (99, .invokevirtual 272, 245, 0), (102, .isub, 0, 0), (103, .iconst 1, 0, 0), (104, .iadd, 0, 0), (105, .ireturn, 0, 0)]
noncomputable def tb_247 : List TE := [(0, .aload_n 0, 0, 0), (1, .getfield 7, 10, 2), (4, .iload_n 1, 0, 0), (5, .iaload, 0, 0), (6, .iconst 5, 0, 0), (7, .if_icmp .ne 7, 0, 0), (10, .iconst 0, 0, 0), (11, .goto 17, 0, 0), (14, .iconst 1, 0, 0), (15, .aload_n 0, 0, 0), (16, .iload_n 1, 0, 0), (17, .iload_n 2, 0, 0), (18, .invokevirtual 275, 246, 0), (21, .iload_n 2, 0, 0), (22, .invokestatic 192, 176, 2), (25, .invokestatic 167, 174, 2), (28, .ireturn, 0, 0)]
noncomputable def tb_248 : List TE := [(0, .iconst 0, 0, 0), (1, .istore_n 3, 0, 0), (2, .iconst 0, 0, 0), (3, .istore 4, 0, 0), (5, .iload 4, 0, 0), (7, .aload_n 0, 0, 0), (8, .getfield 108, 10, 1), (11, .if_icmp .ge 55, 0, 0), (14, .iconst 0, 0, 0), (15, .istore 5, 0, 0), (17, .iload 5, 0, 0), (19, .aload_n 0, 0, 0), (20, .iload 4, 0, 0), (22, .iload_n 2, 0, 0), (23, .invokevirtual 275, 246, 0), (26, .if_icmp .ge 34, 0, 0), (29, .iload_n 3, 0, 0), (30, .aload_n 0, 0, 0), (31, .iload 4, 0, 0), (33, .invokevirtual 272, 245, 0), (36, .iload 5, 0, 0), (38, .iadd, 0, 0), (39, .iload_n 2, 0, 0), (40, .invokestatic 211, 177, 2), (43, .iload_n 1, 0, 0), (44, .if_icmp .ne 7, 0, 0), (47, .iconst 1, 0, 0), (48, .goto 4, 0, 0), (51, .iconst 0, 0, 0), (52, .iadd, 0, 0), (53, .istore_n 3, 0, 0), (54, .iinc 5 1, 0, 0), (57, .goto (-40), 0, 0), (60, .iinc 4 1, 0, 0), (63, .goto (-58), 0, 0), (66, .iload_n 3, 0, 0), (67, .ireturn, 0, 0)]
noncomputable def tb_249 : List TE := [(0, .iconst 0, 0, 0), (1, .istore_n 2, 0, 0), (2, .iconst 0, 0, 0), (3, .istore_n 3, 0, 0), (4, .iload_n 3, 0, 0), (5, .aload_n 0, 0, 0), (6, .getfield 108, 10, 1), (9, .if_icmp .ge 18, 0, 0), (12, .iload_n 2, 0, 0), (13, .aload_n 0, 0, 0), (14, .iload_n 3, 0, 0), (15, .iload_n 1, 0, 0), (16, .invokevirtual 278, 247, 0), (19, .iadd, 0, 0), (20, .istore_n 2, 0, 0), (21, .iinc 3 1, 0, 0), (24, .goto (-20), 0, 0), (27, .iload_n 2, 0, 0), (28, .ireturn, 0, 0)]
noncomputable def tb_250 : List TE := [(0, .iconst 1, 0, 0), (1, .istore_n 2, 0, 0), (2, .iconst 0, 0, 0), (3, .istore_n 3, 0, 0), (4, .iload_n 3, 0, 0), (5, .aload_n 0, 0, 0), (6, .getfield 108, 10, 1), (9, .if_icmp .ge 20, 0, 0), (12, .iload_n 2, 0, 0), (13, .aload_n 0, 0, 0), (14, .iload_n 3, 0, 0), (15, .iload_n 1, 0, 0), (16, .invokevirtual 278, 247, 0), (19, .invokestatic 167, 174, 2), (22, .istore_n 2, 0, 0), (23, .iinc 3 1, 0, 0), (26, .goto (-22), 0, 0), (29, .iload_n 2, 0, 0), (30, .ireturn, 0, 0)]
noncomputable def tb_251 : List TE := [(0, .aload_n 0, 0, 0), (1, .getfield 7, 10, 2), (4, .iload_n 1, 0, 0), (5, .iaload, 0, 0), (6, .iconst 5, 0, 0), (7, .if_icmp .ne 5, 0, 0), (10, .iconst 0, 0, 0), (11, .ireturn, 0, 0), (12, .aload_n 0, 0, 0), (13, .iload_n 2, 0, 0), (14, .invokevirtual 281, 250, 0), (17, .istore_n 3, 0, 0), (18, .aload_n 0, 0, 0), (19, .iload_n 1, 0, 0), (20, .iload_n 2, 0, 0), (21, .invokevirtual 278, 247, 0), (24, .istore 4, 0, 0), (26, .iload_n 3, 0, 0), (27, .iload 4, 0, 0), (29, .irem, 0, 0), (30, .ifCond .eq 9, 0, 0), (33, .iinc 4 1, 0, 0), (36, .goto (-10), 0, 0), (39, .iload 4, 0, 0), (41, .ireturn, 0, 0)]
noncomputable def tb_252 : List TE := [(0, .bipush 99, 0, 0), (2, .istore_n 3, 0, 0), (3, .iconst 0, 0, 0), (4, .istore 4, 0, 0), (6, .iload 4, 0, 0), (8, .aload_n 0, 0, 0), (9, .getfield 141, 10, 12), (12, .if_icmp .ge 73, 0, 0), (15, .aload_n 0, 0, 0), (16, .getfield 40, 10, 13), (19, .iload 4, 0, 0), (21, .iaload, 0, 0), (22, .iload_n 1, 0, 0), (23, .if_icmp .ne 56, 0, 0), (26, .aload_n 0, 0, 0), (27, .getfield 43, 10, 14), (30, .iload 4, 0, 0), (32, .iaload, 0, 0), (33, .iload_n 1, 0, 0), (34, .if_icmp .eq 45, 0, 0), (37, .iload_n 3, 0, 0), (38, .aload_n 0, 0, 0), (39, .getfield 65, 10, 21), (42, .aload_n 0, 0, 0), (43, .getfield 43, 10, 14), (46, .iload 4, 0, 0), (48, .iaload, 0, 0), (49, .iaload, 0, 0), (50, .iload_n 2, 0, 0), (51, .aload_n 0, 0, 0), (52, .getfield 46, 10, 15), (55, .iload 4, 0, 0), (57, .iaload, 0, 0), (58, .imul, 0, 0), (59, .iadd, 0, 0), (60, .aload_n 0, 0, 0), (61, .getfield 49, 10, 16), (64, .iload 4, 0, 0), (66, .iaload, 0, 0), (67, .isub, 0, 0), (68, .aload_n 0, 0, 0), (69, .getfield 65, 10, 21), (72, .iload_n 1, 0, 0), (73, .iaload, 0, 0), (74, .isub, 0, 0), (75, .invokestatic 170, 175, 2), (78, .istore_n 3, 0, 0), (79, .iinc 4 1, 0, 0), (82, .goto (-76), 0, 0), (85, .iload_n 3, 0, 0), (86, .ireturn, 0, 0)]
noncomputable def tb_253 : List TE := [(0, .iconst 0, 0, 0), (1, .istore_n 2, 0, 0), (2, .iconst 1, 0, 0), (3, .istore_n 3, 0, 0), (4, .iload_n 3, 0, 0), (5, .iload_n 1, 0, 0), (6, .if_icmp .ge 26, 0, 0), (9, .aload_n 0, 0, 0), (10, .iload_n 3, 0, 0), (11, .iload_n 1, 0, 0), (12, .invokevirtual 284, 248, 0), (15, .aload_n 0, 0, 0), (16, .iload_n 2, 0, 0), (17, .iload_n 1, 0, 0), (18, .invokevirtual 284, 248, 0), (21, .if_icmp .le 5, 0, 0), (24, .iload_n 3, 0, 0), (25, .istore_n 2, 0, 0), (26, .iinc 3 1, 0, 0), (29, .goto (-25), 0, 0), (32, .iload_n 2, 0, 0), (33, .ireturn, 0, 0)]
noncomputable def tb_254 : List TE := [(0, .aload_n 0, 0, 0), (1, .iload_n 2, 0, 0), (2, .iconst 0, 0, 0), (3, .bipush 6, 0, 0), (5, .invokestatic 104, 173, 2), (8, .ifCond .ne 7, 0, 0), (11, .iconst 1, 0, 0), (12, .goto 27, 0, 0), (15, .iload_n 1, 0, 0), (16, .invokestatic 202, 212, 2), (19, .ifCond .ne 7, 0, 0), (22, .iconst 2, 0, 0), (23, .goto 16, 0, 0), (26, .aload_n 0, 0, 0), (27, .iload_n 1, 0, 0), (28, .invokevirtual 232, 224, 0), (31, .ifCond .ne 7, 0, 0), (34, .iconst 3, 0, 0), (35, .goto 4, 0, 0), (38, .iconst 0, 0, 0), (39, .putfield 101, 10, 0), (42, .aload_n 0, 0, 0), (43, .getfield 101, 10, 0), (46, .ifCond .le 5, 0, 0), (49, .iconst 0, 0, 0), (50, .ireturn, 0, 0), (51, .iconst 0, 0, 0), (52, .istore_n 3, 0, 0), (53, .iconst 0, 0, 0), (54, .istore 4, 0, 0), (56, .iload 4, 0, 0), (58, .aload_n 0, 0, 0), (59, .getfield 108, 10, 1), (62, .if_icmp .ge 19, 0, 0), (65, .iload_n 3, 0, 0), (66, .aload_n 0, 0, 0), (67, .iload 4, 0, 0), (69, .iload_n 1, 0, 0), (70, .invokevirtual 287, 251, 0), (73, .iadd, 0, 0), (74, .istore_n 3, 0, 0), (75, .iinc 4 1, 0, 0), (78, .goto (-22), 0, 0), (81, .iload_n 2, 0, 0), (82, .tableswitch 74 0 5 #[38, 43, 49, 55, 61, 63], 38, 0), (120, .aload_n 0, 0, 0), (121, .invokevirtual 290, 243, 0), (124, .ireturn, 0, 0), (125, .aload_n 0, 0, 0), (126, .iload_n 1, 0, 0), (127, .invokevirtual 293, 244, 0), (130, .ireturn, 0, 0), (131, .aload_n 0, 0, 0), (132, .iload_n 1, 0, 0), (133, .invokevirtual 296, 249, 0), (136, .ireturn, 0, 0), (137, .aload_n 0, 0, 0), (138, .iload_n 1, 0, 0), (139, .invokevirtual 281, 250, 0), (142, .ireturn, 0, 0), (143, .iload_n 3, 0, 0), (144, .ireturn, 0, 0), (145, .aload_n 0, 0, 0), (146, .aload_n 0, 0, 0), (147, .iload_n 1, 0, 0), (148, .invokevirtual 299, 253, 0), (151, .iload_n 1, 0, 0), (152, .invokevirtual 284, 248, 0), (155, .ireturn, 0, 0), (156, .aload_n 0, 0, 0), (157, .iload_n 1, 0, 0), (158, .invokevirtual 299, 253, 0), (161, .ireturn, 0, 0)]
noncomputable def tb_255 : List TE := [(0, .aload_n 0, 0, 0), (1, .aload_n 0, 0, 0), (2, .iload_n 1, 0, 0), (3, .invokevirtual 122, 186, 0), (6, .ifCond .ne 7, 0, 0), (9, .iconst 1, 0, 0), (10, .goto 40, 0, 0), (13, .iload_n 3, 0, 0), (14, .iconst 0, 0, 0), (15, .iconst 5, 0, 0), (16, .invokestatic 104, 173, 2), (19, .ifCond .ne 7, 0, 0), (22, .iconst 2, 0, 0), (23, .goto 27, 0, 0), (26, .iload_n 2, 0, 0), (27, .invokestatic 202, 212, 2), (30, .ifCond .ne 7, 0, 0), (33, .iconst 3, 0, 0), (34, .goto 16, 0, 0), (37, .aload_n 0, 0, 0), (38, .iload_n 2, 0, 0), (39, .invokevirtual 232, 224, 0), (42, .ifCond .ne 7, 0, 0), (45, .iconst 4, 0, 0), (46, .goto 4, 0, 0), (49, .iconst 0, 0, 0), (50, .putfield 101, 10, 0), (53, .aload_n 0, 0, 0), (54, .getfield 101, 10, 0), (57, .ifCond .le 5, 0, 0), (60, .iconst 0, 0, 0), (61, .ireturn, 0, 0), (62, .iload_n 3, 0, 0), (63, .tableswitch 72 0 4 #[33, 42, 51, 58, 65], 33, 0), (96, .aload_n 0, 0, 0), (97, .getfield 65, 10, 21), (100, .iload_n 1, 0, 0), (101, .iaload, 0, 0), (102, .iload_n 2, 0, 0), (103, .idiv, 0, 0), (104, .ireturn, 0, 0), (105, .aload_n 0, 0, 0), (106, .getfield 65, 10, 21), (109, .iload_n 1, 0, 0), (110, .iaload, 0, 0), (111, .iload_n 2, 0, 0), (112, .irem, 0, 0), (113, .ireturn, 0, 0), (114, .aload_n 0, 0, 0), (115, .iload_n 1, 0, 0), (116, .iload_n 2, 0, 0), (117, .invokevirtual 275, 246, 0), (120, .ireturn, 0, 0), (121, .aload_n 0, 0, 0), (122, .iload_n 1, 0, 0), (123, .iload_n 2, 0, 0), (124, .invokevirtual 278, 247, 0), (127, .ireturn, 0, 0), (128, .aload_n 0, 0, 0), (129, .iload_n 1, 0, 0), (130, .iload_n 2, 0, 0), (131, .invokevirtual 287, 251, 0), (134, .ireturn, 0, 0), (135, .aload_n 0, 0, 0), (136, .iload_n 1, 0, 0), (137, .iload_n 2, 0, 0), (138, .invokevirtual 302, 252, 0), (141, .ireturn, 0, 0)]
noncomputable def tb_256 : List TE := [(0, .aload_n 0, 0, 0), (1, .iload_n 2, 0, 0), (2, .invokestatic 202, 212, 2), (5, .ifCond .eq 14, 0, 0), (8, .iload_n 1, 0, 0), (9, .iconst 0, 0, 0), (10, .iload_n 2, 0, 0), (11, .iconst 1, 0, 0), (12, .isub, 0, 0), (13, .invokestatic 104, 173, 2), (16, .ifCond .ne 7, 0, 0), (19, .iconst 1, 0, 0), (20, .goto 16, 0, 0), (23, .aload_n 0, 0, 0), (24, .iload_n 2, 0, 0), (25, .invokevirtual 232, 224, 0), (28, .ifCond .ne 7, 0, 0), (31, .iconst 2, 0, 0), (32, .goto 4, 0, 0), (35, .iconst 0, 0, 0), (36, .putfield 101, 10, 0), (39, .aload_n 0, 0, 0), (40, .getfield 101, 10, 0), (43, .ifCond .le 7, 0, 0), (46, .iconst 0, 0, 0), (47, .goto 9, 0, 0), (50, .aload_n 0, 0, 0), (51, .iload_n 1, 0, 0), (52, .iload_n 2, 0, 0), (53, .invokevirtual 284, 248, 0), (56, .ireturn, 0, 0)]
noncomputable def tb_257 : List TE := [(0, .iload_n 0, 0, 0), (1, .iconst 0, 0, 0), (2, .bipush 40, 0, 0), (4, .invokestatic 104, 173, 2), (7, .ireturn, 0, 0)]
noncomputable def tb_258 : List TE := [(0, .iload_n 1, 0, 0), (1, .invokestatic 202, 212, 2), (4, .ifCond .eq 10, 0, 0), (7, .iload_n 2, 0, 0), (8, .invokestatic 305, 257, 2), (11, .ifCond .ne 7, 0, 0), (14, .iconst 1, 0, 0), (15, .goto 16, 0, 0), (18, .aload_n 0, 0, 0), (19, .iload_n 1, 0, 0), (20, .invokevirtual 232, 224, 0), (23, .ifCond .ne 7, 0, 0), (26, .iconst 2, 0, 0), (27, .goto 4, 0, 0), (30, .iconst 0, 0, 0), (31, .ireturn, 0, 0)]
noncomputable def tb_259 : List TE := [(0, .aload_n 0, 0, 0), (1, .aload_n 0, 0, 0), (2, .iload_n 1, 0, 0), (3, .invokevirtual 122, 186, 0), (6, .ifCond .ne 7, 0, 0), (9, .iconst 1, 0, 0), (10, .goto 39, 0, 0), (13, .iload_n 3, 0, 0), (14, .invokestatic 202, 212, 2), (17, .ifCond .eq 15, 0, 0), (20, .iload 4, 0, 0), (22, .invokestatic 305, 257, 2), (25, .ifCond .eq 7, 0, 0), (28, .iload_n 2, 0, 0), (29, .ifCond .ge 7, 0, 0), (32, .iconst 2, 0, 0), (33, .goto 16, 0, 0), (36, .aload_n 0, 0, 0), (37, .iload_n 3, 0, 0), (38, .invokevirtual 232, 224, 0), (41, .ifCond .ne 7, 0, 0), (44, .iconst 3, 0, 0), (45, .goto 4, 0, 0), (48, .iconst 0, 0, 0), (49, .putfield 101, 10, 0), (52, .aload_n 0, 0, 0), (53, .getfield 101, 10, 0), (56, .ifCond .le 5, 0, 0), (59, .iconst 0, 0, 0), (60, .ireturn, 0, 0), (61, .iload_n 2, 0, 0), (62, .aload_n 0, 0, 0), (63, .getfield 65, 10, 21), (66, .iload_n 1, 0, 0), (67, .iaload, 0, 0), (68, .isub, 0, 0), (69, .istore 5, 0, 0), (71, .iload 5, 0, 0), (73, .ifCond .lt 26, 0, 0), (76, .iload 5, 0, 0), (78, .iload_n 3, 0, 0), (79, .irem, 0, 0), (80, .ifCond .ne 19, 0, 0), (83, .iload 5, 0, 0), (85, .iload_n 3, 0, 0), (86, .idiv, 0, 0), (87, .iload 4, 0, 0), (89, .if_icmp .ge 10, 0, 0), (92, .iload 5, 0, 0), (94, .iload_n 3, 0, 0), (95, .idiv, 0, 0), (96, .goto 4, 0, 0), (99, .iconst (-1), 0, 0), (100, .ireturn, 0, 0)]
noncomputable def tb_260 : List TE := [(0, .iload_n 2, 0, 0), (1, .ifCond .ne 7, 0, 0), (4, .iconst 0, 0, 0), (5, .goto 13, 0, 0), (8, .iload_n 1, 0, 0), (9, .iload_n 2, 0, 0), (10, .iconst 1, 0, 0), (11, .isub, 0, 0), (12, .imul, 0, 0), (13, .aload_n 0, 0, 0), (14, .invokevirtual 290, 243, 0), (17, .iadd, 0, 0), (18, .ireturn, 0, 0)]
noncomputable def tb_261 : List TE := [(0, .iload_n 2, 0, 0), (1, .aload_n 0, 0, 0), (2, .iload_n 1, 0, 0), (3, .invokevirtual 293, 244, 0), (6, .if_icmp .ge 12, 0, 0), (9, .aload_n 0, 0, 0), (10, .iload_n 1, 0, 0), (11, .iload_n 2, 0, 0), (12, .invokevirtual 308, 260, 0), (15, .goto 12, 0, 0), (18, .iload_n 1, 0, 0), (19, .aload_n 0, 0, 0), (20, .iload_n 1, 0, 0), (21, .invokevirtual 293, 244, 0), (24, .iconst 1, 0, 0), (25, .isub, 0, 0), (26, .imul, 0, 0), (27, .ireturn, 0, 0)]
noncomputable def tb_262 : List TE := [(0, .iload_n 2, 0, 0), (1, .aload_n 0, 0, 0), (2, .iload_n 1, 0, 0), (3, .invokevirtual 293, 244, 0), (6, .if_icmp .ge 7, 0, 0), (9, .iconst 0, 0, 0), (10, .goto 30, 0, 0), (13, .iload_n 1, 0, 0), (14, .iload_n 2, 0, 0), (15, .aload_n 0, 0, 0), (16, .iload_n 1, 0, 0), (17, .invokevirtual 293, 244, 0), (20, .isub, 0, 0), (21, .iconst 1, 0, 0), (22, .iadd, 0, 0), (23, .imul, 0, 0), (24, .aload_n 0, 0, 0), (25, .iload_n 1, 0, 0), (26, .iload_n 2, 0, 0), (27, .invokevirtual 308, 260, 0), (30, .aload_n 0, 0, 0), (31, .iload_n 1, 0, 0), (32, .iload_n 2, 0, 0), (33, .invokevirtual 311, 261, 0), (36, .isub, 0, 0), (37, .invokestatic 170, 175, 2), (40, .ireturn, 0, 0)]
noncomputable def tb_263 : List TE := [(0, .aload_n 0, 0, 0), (1, .iload_n 3, 0, 0), (2, .iconst 0, 0, 0), (3, .iconst 3, 0, 0), (4, .invokestatic 104, 173, 2), (7, .ifCond .eq 7, 0, 0), (10, .iconst 0, 0, 0), (11, .goto 4, 0, 0), (14, .iconst 1, 0, 0), (15, .putfield 101, 10, 0), (18, .aload_n 0, 0, 0), (19, .getfield 101, 10, 0), (22, .ifCond .le 5, 0, 0), (25, .iconst 0, 0, 0), (26, .ireturn, 0, 0), (27, .aload_n 0, 0, 0), (28, .iload_n 1, 0, 0), (29, .iload_n 2, 0, 0), (30, .invokevirtual 314, 258, 0), (33, .istore 4, 0, 0), (35, .aload_n 0, 0, 0), (36, .iload 4, 0, 0), (38, .ifCond .le 10, 0, 0), (41, .iload 4, 0, 0), (43, .iconst 1, 0, 0), (44, .iadd, 0, 0), (45, .goto 4, 0, 0), (48, .iconst 0, 0, 0), (49, .putfield 101, 10, 0), (52, .aload_n 0, 0, 0), (53, .getfield 101, 10, 0), (56, .ifCond .le 5, 0, 0), (59, .iconst 0, 0, 0), (60, .ireturn, 0, 0), (61, .aload_n 0, 0, 0), (62, .iload_n 1, 0, 0), (63, .iload_n 2, 0, 0), (64, .invokevirtual 311, 261, 0), (67, .istore 5, 0, 0), (69, .aload_n 0, 0, 0), (70, .iload_n 1, 0, 0), (71, .iload_n 2, 0, 0), (72, .invokevirtual 317, 262, 0), (75, .istore 6, 0, 0), (77, .iload_n 3, 0, 0), (78, .ifCond .ne 12, 0, 0), (81, .aload_n 0, 0, 0), (82, .iload_n 1, 0, 0), (83, .iload_n 2, 0, 0), (84, .invokevirtual 308, 260, 0), (87, .goto 35, 0, 0), (90, .iload_n 3, 0, 0), (91, .iconst 1, 0, 0), (92, .if_icmp .ne 8, 0, 0), (95, .iload 5, 0, 0), (97, .goto 25, 0, 0), (100, .iload_n 3, 0, 0), (101, .iconst 2, 0, 0), (102, .if_icmp .ne 8, 0, 0), (105, .iload 6, 0, 0), (107, .goto 15, 0, 0), (110, .aload_n 0, 0, 0), (111, .iload_n 1, 0, 0), (112, .iload_n 2, 0, 0), (113, .invokevirtual 308, 260, 0), (116, .iload 5, 0, 0), (118, .isub, 0, 0), (119, .iload 6, 0, 0), (121, .isub, 0, 0), (122, .ireturn, 0, 0)]
noncomputable def tb_264 : List TE := [(0, .iconst 0, 0, 0), (1, .istore_n 1, 0, 0), (2, .iload_n 1, 0, 0), (3, .bipush 64, 0, 0), (5, .if_icmp .ge 35, 0, 0), (8, .aload_n 0, 0, 0), (9, .getfield 77, 10, 26), (12, .iload_n 1, 0, 0), (13, .iconst 3, 0, 0), (14, .iload_n 1, 0, 0), (15, .imul, 0, 0), (16, .iconst 1, 0, 0), (17, .iadd, 0, 0), (18, .iastore, 0, 0), (19, .aload_n 0, 0, 0), (20, .getfield 77, 10, 26), (23, .bipush 64, 0, 0), (25, .iload_n 1, 0, 0), (26, .iadd, 0, 0), (27, .bipush 7, 0, 0), (29, .iload_n 1, 0, 0), (30, .imul, 0, 0), (31, .iconst 5, 0, 0), (32, .isub, 0, 0), (33, .iastore, 0, 0), (34, .iinc 1 1, 0, 0), (37, .goto (-35), 0, 0), (40, .return_, 0, 0)]
noncomputable def tb_265 : List TE := [(0, .iload_n 0, 0, 0), (1, .ifCond .ne 9, 0, 0), (4, .iload_n 1, 0, 0), (5, .iload_n 2, 0, 0), (6, .iadd, 0, 0), (7, .goto 30, 0, 0), (10, .iload_n 0, 0, 0), (11, .iconst 1, 0, 0), (12, .if_icmp .ne 9, 0, 0), (15, .iload_n 1, 0, 0), (16, .iload_n 2, 0, 0), (17, .isub, 0, 0), (18, .goto 19, 0, 0), (21, .iload_n 0, 0, 0), (22, .iconst 2, 0, 0), (23, .if_icmp .ne 9, 0, 0), (26, .iload_n 1, 0, 0), (27, .iload_n 2, 0, 0), (28, .imul, 0, 0), (29, .goto 8, 0, 0), (32, .iload_n 1, 0, 0), (33, .iload_n 2, 0, 0), (34, .invokestatic 170, 175, 2), (37, .ireturn, 0, 0)]
noncomputable def tb_266 : List TE := [(0, .bipush 80, 0, 0), (2, .iload_n 1, 0, 0), (3, .imul, 0, 0), (4, .iload_n 2, 0, 0), (5, .iload_n 3, 0, 0), (6, .invokestatic 211, 177, 2), (9, .iadd, 0, 0), (10, .ireturn, 0, 0)]
noncomputable def tb_267 : List TE := [(0, .aload_n 0, 0, 0), (1, .iload_n 1, 0, 0), (2, .iload_n 2, 0, 0), (3, .invokevirtual 130, 195, 0), (6, .istore 4, 0, 0), (8, .iload 4, 0, 0), (10, .iconst (-1), 0, 0), (11, .if_icmp .ne 5, 0, 0), (14, .iload_n 3, 0, 0), (15, .ireturn, 0, 0), (16, .iload 4, 0, 0), (18, .bipush (-2), 0, 0), (20, .if_icmp .ne 10, 0, 0), (23, .aload_n 0, 0, 0), (24, .iload_n 1, 0, 0), (25, .iload_n 2, 0, 0), (26, .invokevirtual 134, 196, 0), (29, .ireturn, 0, 0), (30, .aload_n 0, 0, 0), (31, .getfield 80, 10, 27), (34, .aload_n 0, 0, 0), (35, .iload 4, 0, 0), (37, .iload_n 3, 0, 0), (38, .aload_n 0, 0, 0), (39, .iload_n 1, 0, 0), (40, .iload_n 2, 0, 0), (41, .invokevirtual 134, 196, 0), (44, .isub, 0, 0), (45, .aload_n 0, 0, 0), (46, .getfield 86, 10, 29), (49, .iload 4, 0, 0), (51, .iaload, 0, 0), (52, .invokevirtual 320, 266, 0), (55, .iaload, 0, 0), (56, .ireturn, 0, 0)]
noncomputable def tb_268 : List TE := [(0, .aload_n 0, 0, 0), (1, .getfield 7, 10, 2), (4, .iload_n 1, 0, 0), (5, .iaload, 0, 0), (6, .iconst 4, 0, 0), (7, .if_icmp .ne 25, 0, 0), (10, .aload_n 0, 0, 0), (11, .getfield 77, 10, 26), (14, .bipush 64, 0, 0), (16, .aload_n 0, 0, 0), (17, .iload_n 1, 0, 0), (18, .invokevirtual 158, 197, 0), (21, .imul, 0, 0), (22, .iload_n 2, 0, 0), (23, .iadd, 0, 0), (24, .aload_n 0, 0, 0), (25, .iload_n 1, 0, 0), (26, .invokevirtual 161, 198, 0), (29, .iadd, 0, 0), (30, .iaload, 0, 0), (31, .ireturn, 0, 0), (32, .aload_n 0, 0, 0), (33, .getfield 7, 10, 2), (36, .iload_n 1, 0, 0), (37, .iaload, 0, 0), (38, .iconst 5, 0, 0), (39, .if_icmp .ne 11, 0, 0), (42, .aload_n 0, 0, 0), (43, .iload_n 1, 0, 0), (44, .iconst 0, 0, 0), (45, .iload_n 2, 0, 0), (46, .invokevirtual 324, 267, 0), (49, .ireturn, 0, 0), (50, .aload_n 0, 0, 0), (51, .getfield 7, 10, 2), (54, .iload_n 1, 0, 0), (55, .iaload, 0, 0), (56, .aload_n 0, 0, 0), (57, .iload_n 1, 0, 0), (58, .iconst 0, 0, 0), (59, .iload_n 2, 0, 0), (60, .invokevirtual 324, 267, 0), (63, .aload_n 0, 0, 0), (64, .iload_n 1, 0, 0), (65, .iconst 1, 0, 0), (66, .iload_n 2, 0, 0), (67, .invokevirtual 324, 267, 0), (70, .invokestatic 327, 265, 2), (73, .ireturn, 0, 0)]
noncomputable def tb_269 : List TE := [(0, .aload_n 0, 0, 0), (1, .getfield 83, 10, 28), (4, .bipush 41, 0, 0), (6, .iload_n 1, 0, 0), (7, .imul, 0, 0), (8, .iload_n 2, 0, 0), (9, .iadd, 0, 0), (10, .iaload, 0, 0), (11, .istore_n 3, 0, 0), (12, .aload_n 0, 0, 0), (13, .getfield 7, 10, 2), (16, .iload_n 1, 0, 0), (17, .iaload, 0, 0), (18, .iconst 5, 0, 0), (19, .if_icmp .ne 28, 0, 0), (22, .aload_n 0, 0, 0), (23, .getfield 77, 10, 26), (26, .bipush 64, 0, 0), (28, .aload_n 0, 0, 0), (29, .iload_n 1, 0, 0), (30, .invokevirtual 158, 197, 0), (33, .imul, 0, 0), (34, .iload_n 2, 0, 0), (35, .iadd, 0, 0), (36, .aload_n 0, 0, 0), (37, .iload_n 1, 0, 0), (38, .invokevirtual 161, 198, 0), (41, .iadd, 0, 0), (42, .iload_n 3, 0, 0), (43, .iastore, 0, 0), (44, .goto 21, 0, 0), (47, .aload_n 0, 0, 0), (48, .getfield 80, 10, 27), (51, .aload_n 0, 0, 0), (52, .iload_n 1, 0, 0), (53, .iload_n 2, 0, 0), (54, .aload_n 0, 0, 0), (55, .getfield 86, 10, 29), (58, .iload_n 1, 0, 0), (59, .iaload, 0, 0), (60, .invokevirtual 320, 266, 0), (63, .iload_n 3, 0, 0), (64, .iastore, 0, 0), (65, .return_, 0, 0)]
noncomputable def tb_270 : List TE := [(0, .iload_n 0, 0, 0), (1, .iload_n 1, 0, 0), (2, .isub, 0, 0), (3, .istore 4, 0, 0), (5, .iload 4, 0, 0), (7, .ifCond .lt 25, 0, 0), (10, .iload 4, 0, 0), (12, .iload_n 2, 0, 0), (13, .irem, 0, 0), (14, .ifCond .ne 18, 0, 0), (17, .iload 4, 0, 0), (19, .iload_n 2, 0, 0), (20, .idiv, 0, 0), (21, .iload_n 3, 0, 0), (22, .if_icmp .ge 10, 0, 0), (25, .iload 4, 0, 0), (27, .iload_n 2, 0, 0), (28, .idiv, 0, 0), (29, .goto 4, 0, 0), (32, .iconst (-1), 0, 0), (33, .ireturn, 0, 0)]
noncomputable def tb_271 : List TE := [(0, .aload_n 0, 0, 0), (1, .invokevirtual 330, 264, 0), (4, .iconst 0, 0, 0), (5, .istore 4, 0, 0), (7, .iload 4, 0, 0), (9, .aload_n 0, 0, 0), (10, .getfield 108, 10, 1), (13, .if_icmp .ge 59, 0, 0), (16, .aload_n 0, 0, 0), (17, .getfield 86, 10, 29), (20, .iload 4, 0, 0), (22, .aload_n 0, 0, 0), (23, .iload 4, 0, 0), (25, .iload_n 1, 0, 0), (26, .invokevirtual 287, 251, 0), (29, .iastore, 0, 0), (30, .iconst 0, 0, 0), (31, .istore 5, 0, 0), (33, .iload 5, 0, 0), (35, .bipush 80, 0, 0), (37, .if_icmp .ge 29, 0, 0), (40, .aload_n 0, 0, 0), (41, .getfield 80, 10, 27), (44, .bipush 80, 0, 0), (46, .iload 4, 0, 0), (48, .imul, 0, 0), (49, .iload 5, 0, 0), (51, .iadd, 0, 0), (52, .aload_n 0, 0, 0), (53, .getfield 25, 10, 7), (56, .iload 4, 0, 0), (58, .iaload, 0, 0), (59, .iastore, 0, 0), (60, .iinc 5 1, 0, 0), (63, .goto (-30), 0, 0), (66, .iinc 4 1, 0, 0), (69, .goto (-62), 0, 0), (72, .iconst 0, 0, 0), (73, .istore 4, 0, 0), (75, .iload 4, 0, 0), (77, .iload_n 3, 0, 0), (78, .if_icmp .gt 144, 0, 0), (81, .iconst 0, 0, 0), (82, .istore 5, 0, 0), (84, .iload 5, 0, 0), (86, .aload_n 0, 0, 0), (87, .getfield 108, 10, 1), (90, .if_icmp .ge 45, 0, 0), (93, .iload 4, 0, 0), (95, .aload_n 0, 0, 0), (96, .iload 5, 0, 0), (98, .invokevirtual 272, 245, 0), (101, .iload_n 1, 0, 0), (102, .iload_n 2, 0, 0), (103, .invokestatic 333, 270, 2), (106, .iconst (-1), 0, 0), (107, .if_icmp .eq 22, 0, 0), (110, .aload_n 0, 0, 0), (111, .iload 5, 0, 0), (113, .iload 4, 0, 0), (115, .aload_n 0, 0, 0), (116, .iload 5, 0, 0), (118, .invokevirtual 272, 245, 0), (121, .iload_n 1, 0, 0), (122, .iload_n 2, 0, 0), (123, .invokestatic 333, 270, 2), (126, .invokevirtual 337, 269, 0), (129, .iinc 5 1, 0, 0), (132, .goto (-48), 0, 0), (135, .iconst 0, 0, 0), (136, .istore 5, 0, 0), (138, .iload 5, 0, 0), (140, .aload_n 0, 0, 0), (141, .getfield 108, 10, 1), (144, .if_icmp .ge 72, 0, 0), (147, .iload 4, 0, 0), (149, .aload_n 0, 0, 0), (150, .getfield 65, 10, 21), (153, .iload 5, 0, 0), (155, .iaload, 0, 0), (156, .iload_n 1, 0, 0), (157, .iload_n 2, 0, 0), (158, .invokestatic 333, 270, 2), (161, .iconst (-1), 0, 0), (162, .if_icmp .eq 48, 0, 0), (165, .aload_n 0, 0, 0), (166, .getfield 83, 10, 28), (169, .bipush 41, 0, 0), (171, .iload 5, 0, 0), (173, .imul, 0, 0), (174, .iload 4, 0, 0), (176, .aload_n 0, 0, 0), (177, .getfield 65, 10, 21), (180, .iload 5, 0, 0), (182, .iaload, 0, 0), (183, .iload_n 1, 0, 0), (184, .iload_n 2, 0, 0), (185, .invokestatic 333, 270, 2), (188, .iadd, 0, 0), (189, .aload_n 0, 0, 0), (190, .iload 5, 0, 0), (192, .iload 4, 0, 0), (194, .aload_n 0, 0, 0), (195, .getfield 65, 10, 21), (198, .iload 5, 0, 0), (200, .iaload, 0, 0), (201, .iload_n 1, 0, 0), (202, .iload_n 2, 0, 0), (203, .invokestatic 333, 270, 2), (206, .invokevirtual 340, 268, 0), (209, .iastore, 0, 0), (210, .iinc 5 1, 0, 0), (213, .goto (-75), 0, 0), (216, .iinc 4 1, 0, 0), (219, .goto (-144), 0, 0), (222, .return_, 0, 0)]
noncomputable def tb_272 : List TE := [(0, .iload_n 0, 0, 0), (1, .iconst 0, 0, 0), (2, .iconst 1, 0, 0), (3, .invokestatic 104, 173, 2), (6, .ifCond .eq 17, 0, 0), (9, .iload_n 1, 0, 0), (10, .iconst 0, 0, 0), (11, .bipush 63, 0, 0), (13, .invokestatic 104, 173, 2), (16, .ifCond .eq 7, 0, 0), (19, .iconst 1, 0, 0), (20, .goto 4, 0, 0), (23, .iconst 0, 0, 0), (24, .ireturn, 0, 0)]
noncomputable def tb_273 : List TE := [(0, .aload_n 0, 0, 0), (1, .iload_n 1, 0, 0), (2, .iload_n 2, 0, 0), (3, .invokestatic 343, 272, 2), (6, .ifCond .ne 7, 0, 0), (9, .iconst 1, 0, 0), (10, .goto 10, 0, 0), (13, .aload_n 0, 0, 0), (14, .iload_n 3, 0, 0), (15, .iload 4, 0, 0), (17, .invokevirtual 314, 258, 0), (20, .putfield 101, 10, 0), (23, .aload_n 0, 0, 0), (24, .getfield 101, 10, 0), (27, .ifCond .le 5, 0, 0), (30, .iconst 0, 0, 0), (31, .ireturn, 0, 0), (32, .aload_n 0, 0, 0), (33, .iload_n 3, 0, 0), (34, .iload 4, 0, 0), (36, .aload_n 0, 0, 0), (37, .iload_n 3, 0, 0), (38, .iload 4, 0, 0), (40, .invokevirtual 308, 260, 0), (43, .invokevirtual 346, 271, 0), (46, .aload_n 0, 0, 0), (47, .getfield 77, 10, 26), (50, .bipush 64, 0, 0), (52, .iload_n 1, 0, 0), (53, .imul, 0, 0), (54, .iload_n 2, 0, 0), (55, .iadd, 0, 0), (56, .iaload, 0, 0), (57, .ireturn, 0, 0)]
noncomputable def tb_274 : List TE := [(0, .aload_n 0, 0, 0), (1, .aload_n 0, 0, 0), (2, .iload_n 1, 0, 0), (3, .invokevirtual 122, 186, 0), (6, .ifCond .ne 7, 0, 0), (9, .iconst 1, 0, 0), (10, .goto 18, 0, 0), (13, .aload_n 0, 0, 0), (14, .getfield 7, 10, 2), (17, .iload_n 1, 0, 0), (18, .iaload, 0, 0), (19, .iconst 5, 0, 0), (20, .if_icmp .ne 7, 0, 0), (23, .iconst 2, 0, 0), (24, .goto 4, 0, 0), (27, .iconst 0, 0, 0), (28, .putfield 101, 10, 0), (31, .aload_n 0, 0, 0), (32, .getfield 101, 10, 0), (35, .ifCond .le 5, 0, 0), (38, .iconst 0, 0, 0), (39, .ireturn, 0, 0), (40, .aload_n 0, 0, 0), (41, .iload_n 2, 0, 0), (42, .iload_n 3, 0, 0), (43, .invokevirtual 314, 258, 0), (46, .istore 4, 0, 0), (48, .aload_n 0, 0, 0), (49, .iload 4, 0, 0), (51, .ifCond .le 10, 0, 0), (54, .iload 4, 0, 0), (56, .iconst 1, 0, 0), (57, .iadd, 0, 0), (58, .goto 4, 0, 0), (61, .iconst 0, 0, 0), (62, .putfield 101, 10, 0), (65, .aload_n 0, 0, 0), (66, .getfield 101, 10, 0), (69, .ifCond .le 5, 0, 0), (72, .iconst 0, 0, 0), (73, .ireturn, 0, 0), (74, .aload_n 0, 0, 0), (75, .iload_n 2, 0, 0), (76, .iload_n 3, 0, 0), (77, .aload_n 0, 0, 0), (78, .iload_n 2, 0, 0), (79, .iload_n 3, 0, 0), (80, .invokevirtual 308, 260, 0), (83, .invokevirtual 346, 271, 0), (86, .iload_n 3, 0, 0), (87, .ifCond .ne 12, 0, 0), (90, .aload_n 0, 0, 0), (91, .getfield 25, 10, 7), (94, .iload_n 1, 0, 0), (95, .iaload, 0, 0), (96, .goto 16, 0, 0), (99, .aload_n 0, 0, 0), (100, .getfield 83, 10, 28), (103, .bipush 41, 0, 0), (105, .iload_n 1, 0, 0), (106, .imul, 0, 0), (107, .iload_n 3, 0, 0), (108, .iadd, 0, 0), (109, .iconst 1, 0, 0), (110, .isub, 0, 0), (111, .iaload, 0, 0), (112, .ireturn, 0, 0)]
noncomputable def tb_275 : List TE := [(0, .aload_n 0, 0, 0), (1, .aload_n 0, 0, 0), (2, .iload_n 1, 0, 0), (3, .invokevirtual 122, 186, 0), (6, .ifCond .ne 7, 0, 0), (9, .iconst 1, 0, 0), (10, .goto 18, 0, 0), (13, .aload_n 0, 0, 0), (14, .getfield 7, 10, 2), (17, .iload_n 1, 0, 0), (18, .iaload, 0, 0), (19, .iconst 5, 0, 0), (20, .if_icmp .ne 7, 0, 0), (23, .iconst 2, 0, 0), (24, .goto 4, 0, 0), (27, .iconst 0, 0, 0), (28, .putfield 101, 10, 0), (31, .aload_n 0, 0, 0), (32, .getfield 101, 10, 0), (35, .ifCond .le 5, 0, 0), (38, .iconst 0, 0, 0), (39, .ireturn, 0, 0), (40, .aload_n 0, 0, 0), (41, .iload 4, 0, 0), (43, .iload 5, 0, 0), (45, .invokevirtual 314, 258, 0), (48, .istore 6, 0, 0), (50, .iload 6, 0, 0), (52, .ifCond .ne 40, 0, 0), (55, .iload_n 2, 0, 0), (56, .iconst 0, 0, 0), (57, .aload_n 0, 0, 0), (58, .iload_n 1, 0, 0), (59, .iload 4, 0, 0), (61, .invokevirtual 287, 251, 0), (64, .iconst 1, 0, 0), (65, .isub, 0, 0), (66, .invokestatic 104, 173, 2), (69, .ifCond .eq 23, 0, 0), (72, .iload_n 3, 0, 0), (73, .iconst 0, 0, 0), (74, .aload_n 0, 0, 0), (75, .iload 4, 0, 0), (77, .iload 5, 0, 0), (79, .invokevirtual 308, 260, 0), (82, .invokestatic 104, 173, 2), (85, .ifCond .eq 7, 0, 0), (88, .iconst 1, 0, 0), (89, .goto 4, 0, 0), (92, .iconst 0, 0, 0), (93, .istore 7, 0, 0), (95, .aload_n 0, 0, 0), (96, .iload 6, 0, 0), (98, .iconst 2, 0, 0), (99, .if_icmp .ne 15, 0, 0), (102, .iload_n 3, 0, 0), (103, .ifCond .lt 11, 0, 0), (106, .iload_n 2, 0, 0), (107, .ifCond .lt 7, 0, 0), (110, .iconst 3, 0, 0), (111, .goto 13, 0, 0), (114, .iload 7, 0, 0), (116, .ifCond .eq 7, 0, 0), (119, .iconst 0, 0, 0), (120, .goto 4, 0, 0), (123, .iconst 2, 0, 0), (124, .putfield 101, 10, 0), (127, .aload_n 0, 0, 0), (128, .getfield 101, 10, 0), (131, .ifCond .le 5, 0, 0), (134, .iconst 0, 0, 0), (135, .ireturn, 0, 0), (136, .aload_n 0, 0, 0), (137, .iload 4, 0, 0), (139, .iload 5, 0, 0), (141, .iload_n 3, 0, 0), (142, .invokevirtual 346, 271, 0), (145, .aload_n 0, 0, 0), (146, .getfield 80, 10, 27), (149, .bipush 80, 0, 0), (151, .iload_n 1, 0, 0), (152, .imul, 0, 0), (153, .iload_n 2, 0, 0), (154, .iadd, 0, 0), (155, .iaload, 0, 0), (156, .ireturn, 0, 0)]
noncomputable def tb_276 : List TE := [(0, .aload_n 0, 0, 0), (1, .invokevirtual 330, 264, 0), (4, .iconst 0, 0, 0), (5, .istore_n 2, 0, 0), (6, .iload_n 2, 0, 0), (7, .iload_n 1, 0, 0), (8, .if_icmp .ge 79, 0, 0), (11, .iconst 0, 0, 0), (12, .istore_n 3, 0, 0), (13, .iload_n 3, 0, 0), (14, .aload_n 0, 0, 0), (15, .getfield 108, 10, 1), (18, .if_icmp .ge 63, 0, 0), (21, .aload_n 0, 0, 0), (22, .iload_n 3, 0, 0), (23, .iload_n 2, 0, 0), (24, .invokevirtual 350, 278, 0), (27, .istore 4, 0, 0), (29, .aload_n 0, 0, 0), (30, .getfield 83, 10, 28), (33, .bipush 41, 0, 0), (35, .iload_n 3, 0, 0), (36, .imul, 0, 0), (37, .iload_n 2, 0, 0), (38, .iadd, 0, 0), (39, .iload 4, 0, 0), (41, .iastore, 0, 0), (42, .aload_n 0, 0, 0), (43, .getfield 7, 10, 2), (46, .iload_n 3, 0, 0), (47, .iaload, 0, 0), (48, .iconst 5, 0, 0), (49, .if_icmp .ne 26, 0, 0), (52, .aload_n 0, 0, 0), (53, .getfield 77, 10, 26), (56, .bipush 64, 0, 0), (58, .aload_n 0, 0, 0), (59, .iload_n 3, 0, 0), (60, .invokevirtual 158, 197, 0), (63, .imul, 0, 0), (64, .iload_n 2, 0, 0), (65, .iadd, 0, 0), (66, .aload_n 0, 0, 0), (67, .iload_n 3, 0, 0), (68, .invokevirtual 161, 198, 0), (71, .iadd, 0, 0), (72, .iload 4, 0, 0), (74, .iastore, 0, 0), (75, .iinc 3 1, 0, 0), (78, .goto (-65), 0, 0), (81, .iinc 2 1, 0, 0), (84, .goto (-78), 0, 0), (87, .return_, 0, 0)]
noncomputable def tb_277 : List TE := [(0, .aload_n 0, 0, 0), (1, .iload_n 1, 0, 0), (2, .iload_n 2, 0, 0), (3, .invokevirtual 130, 195, 0), (6, .istore 4, 0, 0), (8, .iload 4, 0, 0), (10, .iconst (-1), 0, 0), (11, .if_icmp .ne 5, 0, 0), (14, .iload_n 3, 0, 0), (15, .ireturn, 0, 0), (16, .iload 4, 0, 0), (18, .bipush (-2), 0, 0), (20, .if_icmp .ne 10, 0, 0), (23, .aload_n 0, 0, 0), (24, .iload_n 1, 0, 0), (25, .iload_n 2, 0, 0), (26, .invokevirtual 134, 196, 0), (29, .ireturn, 0, 0), (30, .iload_n 3, 0, 0), (31, .aload_n 0, 0, 0), (32, .iload_n 1, 0, 0), (33, .iload_n 2, 0, 0), (34, .invokevirtual 134, 196, 0), (37, .isub, 0, 0), (38, .istore 5, 0, 0), (40, .iload 5, 0, 0), (42, .ifCond .ge 13, 0, 0), (45, .aload_n 0, 0, 0), (46, .getfield 25, 10, 7), (49, .iload 4, 0, 0), (51, .iaload, 0, 0), (52, .goto 16, 0, 0), (55, .aload_n 0, 0, 0), (56, .getfield 83, 10, 28), (59, .bipush 41, 0, 0), (61, .iload 4, 0, 0), (63, .imul, 0, 0), (64, .iload 5, 0, 0), (66, .iadd, 0, 0), (67, .iaload, 0, 0), (68, .ireturn, 0, 0)]
noncomputable def tb_278 : List TE := [(0, .aload_n 0, 0, 0), (1, .getfield 7, 10, 2), (4, .iload_n 1, 0, 0), (5, .iaload, 0, 0), (6, .iconst 4, 0, 0), (7, .if_icmp .ne 25, 0, 0), (10, .aload_n 0, 0, 0), (11, .getfield 77, 10, 26), (14, .bipush 64, 0, 0), (16, .aload_n 0, 0, 0), (17, .iload_n 1, 0, 0), (18, .invokevirtual 158, 197, 0), (21, .imul, 0, 0), (22, .iload_n 2, 0, 0), (23, .iadd, 0, 0), (24, .aload_n 0, 0, 0), (25, .iload_n 1, 0, 0), (26, .invokevirtual 161, 198, 0), (29, .iadd, 0, 0), (30, .iaload, 0, 0), (31, .ireturn, 0, 0), (32, .aload_n 0, 0, 0), (33, .getfield 7, 10, 2), (36, .iload_n 1, 0, 0), (37, .iaload, 0, 0), (38, .iconst 5, 0, 0), (39, .if_icmp .ne 13, 0, 0), (42, .aload_n 0, 0, 0), (43, .iload_n 1, 0, 0), (44, .iconst 0, 0, 0), (45, .iload_n 2, 0, 0), (46, .invokevirtual 353, 277, 0), (49, .goto 26, 0, 0), (52, .aload_n 0, 0, 0), (53, .getfield 7, 10, 2), (56, .iload_n 1, 0, 0), (57, .iaload, 0, 0), (58, .aload_n 0, 0, 0), (59, .iload_n 1, 0, 0), (60, .iconst 0, 0, 0), (61, .iload_n 2, 0, 0), (62, .invokevirtual 353, 277, 0), (65, .aload_n 0, 0, 0), (66, .iload_n 1, 0, 0), (67, .iconst 1, 0, 0), (68, .iload_n 2, 0, 0), (69, .invokevirtual 353, 277, 0), (72, .invokestatic 327, 265, 2), (75, .ireturn, 0, 0)]
noncomputable def tb_279 : List TE := [(0, .aload_n 0, 0, 0), (1, .iload_n 1, 0, 0), (2, .iload_n 2, 0, 0), (3, .invokestatic 343, 272, 2), (6, .ifCond .eq 10, 0, 0), (9, .iload_n 3, 0, 0), (10, .invokestatic 305, 257, 2), (13, .ifCond .ne 7, 0, 0), (16, .iconst 1, 0, 0), (17, .goto 15, 0, 0), (20, .aload_n 0, 0, 0), (21, .invokevirtual 137, 199, 0), (24, .ifCond .ne 7, 0, 0), (27, .iconst 2, 0, 0), (28, .goto 4, 0, 0), (31, .iconst 0, 0, 0), (32, .putfield 101, 10, 0), (35, .aload_n 0, 0, 0), (36, .getfield 101, 10, 0), (39, .ifCond .le 5, 0, 0), (42, .iconst 0, 0, 0), (43, .ireturn, 0, 0), (44, .aload_n 0, 0, 0), (45, .iload_n 3, 0, 0), (46, .invokevirtual 356, 276, 0), (49, .aload_n 0, 0, 0), (50, .getfield 77, 10, 26), (53, .bipush 64, 0, 0), (55, .iload_n 1, 0, 0), (56, .imul, 0, 0), (57, .iload_n 2, 0, 0), (58, .iadd, 0, 0), (59, .iaload, 0, 0), (60, .ireturn, 0, 0)]
noncomputable def tb_280 : List TE := [(0, .iconst 0, 0, 0), (1, .istore_n 1, 0, 0), (2, .iconst 0, 0, 0), (3, .istore_n 2, 0, 0), (4, .iload_n 2, 0, 0), (5, .aload_n 0, 0, 0), (6, .getfield 108, 10, 1), (9, .if_icmp .ge 17, 0, 0), (12, .iload_n 1, 0, 0), (13, .aload_n 0, 0, 0), (14, .iload_n 2, 0, 0), (15, .invokevirtual 148, 192, 0), (18, .iadd, 0, 0), (19, .istore_n 1, 0, 0), (20, .iinc 2 1, 0, 0), (23, .goto (-19), 0, 0), (26, .iload_n 1, 0, 0), (27, .ireturn, 0, 0)]
noncomputable def tb_281 : List TE := [(0, .aload_n 0, 0, 0), (1, .aload_n 0, 0, 0), (2, .iload_n 1, 0, 0), (3, .invokevirtual 122, 186, 0), (6, .ifCond .ne 7, 0, 0), (9, .iconst 1, 0, 0), (10, .goto 4, 0, 0), (13, .iconst 0, 0, 0), (14, .putfield 101, 10, 0), (17, .aload_n 0, 0, 0), (18, .getfield 101, 10, 0), (21, .ifCond .le 5, 0, 0), (24, .iconst 0, 0, 0), (25, .ireturn, 0, 0), (26, .iload_n 2, 0, 0), (27, .ifCond .lt 8, 0, 0), (30, .iload 4, 0, 0), (32, .ifCond .ne 7, 0, 0), (35, .iconst 1, 0, 0), (36, .goto 10, 0, 0), (39, .aload_n 0, 0, 0), (40, .iload_n 3, 0, 0), (41, .iload 4, 0, 0), (43, .invokevirtual 314, 258, 0), (46, .istore 5, 0, 0), (48, .iload 5, 0, 0), (50, .ifCond .ne 20, 0, 0), (53, .iload_n 2, 0, 0), (54, .iload 4, 0, 0), (56, .aload_n 0, 0, 0), (57, .iload_n 3, 0, 0), (58, .invokevirtual 293, 244, 0), (61, .iadd, 0, 0), (62, .iconst 2, 0, 0), (63, .isub, 0, 0), (64, .if_icmp .le 6, 0, 0), (67, .iconst 1, 0, 0), (68, .istore 5, 0, 0), (70, .aload_n 0, 0, 0), (71, .iload 5, 0, 0), (73, .ifCond .le 10, 0, 0), (76, .iload 5, 0, 0), (78, .iconst 1, 0, 0), (79, .iadd, 0, 0), (80, .goto 4, 0, 0), (83, .iconst 0, 0, 0), (84, .putfield 101, 10, 0), (87, .aload_n 0, 0, 0), (88, .getfield 101, 10, 0), (91, .ifCond .le 5, 0, 0), (94, .iconst 0, 0, 0), (95, .ireturn, 0, 0), (96, .iload_n 2, 0, 0), (97, .aload_n 0, 0, 0), (98, .getfield 65, 10, 21), (101, .iload_n 1, 0, 0), (102, .iaload, 0, 0), (103, .iload_n 3, 0, 0), (104, .idiv, 0, 0), (105, .isub, 0, 0), (106, .iconst 0, 0, 0), (107, .iload 4, 0, 0), (109, .iconst 1, 0, 0), (110, .isub, 0, 0), (111, .invokestatic 104, 173, 2), (114, .ireturn, 0, 0)]
noncomputable def tb_282 : List TE := [(0, .aload_n 0, 0, 0), (1, .iload_n 1, 0, 0), (2, .invokestatic 202, 212, 2), (5, .ifCond .ne 7, 0, 0), (8, .iconst 1, 0, 0), (9, .goto 16, 0, 0), (12, .aload_n 0, 0, 0), (13, .iload_n 1, 0, 0), (14, .invokevirtual 232, 224, 0), (17, .ifCond .ne 7, 0, 0), (20, .iconst 2, 0, 0), (21, .goto 4, 0, 0), (24, .iconst 0, 0, 0), (25, .putfield 101, 10, 0), (28, .aload_n 0, 0, 0), (29, .getfield 101, 10, 0), (32, .ifCond .le 5, 0, 0), (35, .iconst 0, 0, 0), (36, .ireturn, 0, 0), (37, .iload_n 2, 0, 0), (38, .ifCond .eq 10, 0, 0), (41, .aload_n 0, 0, 0), (42, .getfield 108, 10, 1), (45, .goto 26, 0, 0), (48, .aload_n 0, 0, 0), (49, .getfield 108, 10, 1), (52, .aload_n 0, 0, 0), (53, .iload_n 1, 0, 0), (54, .invokevirtual 293, 244, 0), (57, .iconst 1, 0, 0), (58, .isub, 0, 0), (59, .imul, 0, 0), (60, .aload_n 0, 0, 0), (61, .iload_n 1, 0, 0), (62, .invokevirtual 281, 250, 0), (65, .aload_n 0, 0, 0), (66, .getfield 108, 10, 1), (69, .imul, 0, 0), (70, .iadd, 0, 0), (71, .ireturn, 0, 0)]
noncomputable def tb_283 : List TE := [(0, .iload_n 2, 0, 0), (1, .aload_n 0, 0, 0), (2, .iload_n 1, 0, 0), (3, .invokevirtual 293, 244, 0), (6, .if_icmp .ge 7, 0, 0), (9, .iload_n 2, 0, 0), (10, .goto 18, 0, 0), (13, .iload_n 2, 0, 0), (14, .aload_n 0, 0, 0), (15, .iload_n 1, 0, 0), (16, .invokevirtual 293, 244, 0), (19, .isub, 0, 0), (20, .iconst 1, 0, 0), (21, .iadd, 0, 0), (22, .aload_n 0, 0, 0), (23, .iload_n 1, 0, 0), (24, .invokevirtual 281, 250, 0), (27, .irem, 0, 0), (28, .ireturn, 0, 0)]
noncomputable def tb_284 : List TE := [(0, .aload_n 0, 0, 0), (1, .aload_n 0, 0, 0), (2, .iload_n 1, 0, 0), (3, .iload_n 2, 0, 0), (4, .invokevirtual 314, 258, 0), (7, .putfield 101, 10, 0), (10, .aload_n 0, 0, 0), (11, .getfield 101, 10, 0), (14, .ifCond .le 5, 0, 0), (17, .iconst 0, 0, 0), (18, .ireturn, 0, 0), (19, .aload_n 0, 0, 0), (20, .iload_n 1, 0, 0), (21, .iload_n 2, 0, 0), (22, .invokevirtual 359, 283, 0), (25, .istore 4, 0, 0), (27, .iload_n 3, 0, 0), (28, .ifCond .eq 23, 0, 0), (31, .iload 4, 0, 0), (33, .aload_n 0, 0, 0), (34, .invokevirtual 362, 280, 0), (37, .imul, 0, 0), (38, .aload_n 0, 0, 0), (39, .iload_n 1, 0, 0), (40, .iload_n 2, 0, 0), (41, .iload 4, 0, 0), (43, .isub, 0, 0), (44, .invokevirtual 308, 260, 0), (47, .iadd, 0, 0), (48, .goto 5, 0, 0), (51, .iload 4, 0, 0), (53, .ireturn, 0, 0)]
noncomputable def tb_285 : List TE := [(0, .aload_n 0, 0, 0), (1, .iload_n 1, 0, 0), (2, .invokestatic 202, 212, 2), (5, .ifCond .ne 7, 0, 0), (8, .iconst 1, 0, 0), (9, .goto 16, 0, 0), (12, .aload_n 0, 0, 0), (13, .iload_n 1, 0, 0), (14, .invokevirtual 232, 224, 0), (17, .ifCond .ne 7, 0, 0), (20, .iconst 2, 0, 0), (21, .goto 4, 0, 0), (24, .iconst 0, 0, 0), (25, .putfield 101, 10, 0), (28, .aload_n 0, 0, 0), (29, .getfield 101, 10, 0), (32, .ifCond .le 5, 0, 0), (35, .iconst 0, 0, 0), (36, .ireturn, 0, 0), (37, .iconst 1, 0, 0), (38, .istore_n 2, 0, 0), (39, .iload_n 2, 0, 0), (40, .bipush 40, 0, 0), (42, .if_icmp .gt 26, 0, 0), (45, .aload_n 0, 0, 0), (46, .iload_n 1, 0, 0), (47, .iload_n 2, 0, 0), (48, .invokevirtual 308, 260, 0), (51, .iload_n 2, 0, 0), (52, .aload_n 0, 0, 0), (53, .invokevirtual 362, 280, 0), (56, .imul, 0, 0), (57, .if_icmp .ge 5, 0, 0), (60, .iload_n 2, 0, 0), (61, .ireturn, 0, 0), (62, .iinc 2 1, 0, 0), (65, .goto (-26), 0, 0), (68, .iconst (-1), 0, 0), (69, .ireturn, 0, 0)]
noncomputable def tb_286 : List TE := [(0, .aload_n 0, 0, 0), (1, .iload_n 1, 0, 0), (2, .invokevirtual 272, 245, 0), (5, .istore 5, 0, 0), (7, .aload_n 0, 0, 0), (8, .iload_n 2, 0, 0), (9, .invokevirtual 272, 245, 0), (12, .iload 4, 0, 0), (14, .iload_n 3, 0, 0), (15, .imul, 0, 0), (16, .iadd, 0, 0), (17, .istore 6, 0, 0), (19, .iload 6, 0, 0), (21, .iload 5, 0, 0), (23, .aload_n 0, 0, 0), (24, .iload_n 1, 0, 0), (25, .iload 4, 0, 0), (27, .invokevirtual 275, 246, 0), (30, .iadd, 0, 0), (31, .iconst 1, 0, 0), (32, .isub, 0, 0), (33, .if_icmp .gt 24, 0, 0), (36, .iload 5, 0, 0), (38, .iload 6, 0, 0), (40, .aload_n 0, 0, 0), (41, .iload_n 2, 0, 0), (42, .iload 4, 0, 0), (44, .invokevirtual 275, 246, 0), (47, .iadd, 0, 0), (48, .iconst 1, 0, 0), (49, .isub, 0, 0), (50, .if_icmp .gt 7, 0, 0), (53, .iconst 1, 0, 0), (54, .goto 4, 0, 0), (57, .iconst 0, 0, 0), (58, .ireturn, 0, 0)]
noncomputable def tb_287 : List TE := [(0, .aload_n 0, 0, 0), (1, .getfield 89, 10, 30), (4, .iload_n 2, 0, 0), (5, .iaload, 0, 0), (6, .aload_n 0, 0, 0), (7, .getfield 89, 10, 30), (10, .iload_n 1, 0, 0), (11, .iaload, 0, 0), (12, .isub, 0, 0), (13, .iload 4, 0, 0), (15, .invokestatic 211, 177, 2), (18, .istore 5, 0, 0), (20, .iload 5, 0, 0), (22, .sipush 400, 0, 0), (25, .iload 4, 0, 0), (27, .idiv, 0, 0), (28, .iload 4, 0, 0), (30, .imul, 0, 0), (31, .isub, 0, 0), (32, .iload 4, 0, 0), (34, .isub, 0, 0), (35, .istore 6, 0, 0), (37, .iload 6, 0, 0), (39, .sipush 400, 0, 0), (42, .if_icmp .gt 37, 0, 0), (45, .iload_n 1, 0, 0), (46, .iload_n 2, 0, 0), (47, .if_icmp .ne 8, 0, 0), (50, .iload 6, 0, 0), (52, .ifCond .eq 17, 0, 0), (55, .aload_n 0, 0, 0), (56, .iload_n 1, 0, 0), (57, .iload_n 2, 0, 0), (58, .iload 6, 0, 0), (60, .iload_n 3, 0, 0), (61, .invokevirtual 365, 286, 0), (64, .ifCond .eq 5, 0, 0), (67, .iconst 1, 0, 0), (68, .ireturn, 0, 0), (69, .iload 6, 0, 0), (71, .iload 4, 0, 0), (73, .iadd, 0, 0), (74, .istore 6, 0, 0), (76, .goto (-39), 0, 0), (79, .iconst 0, 0, 0), (80, .ireturn, 0, 0)]
noncomputable def tb_288 : List TE := [(0, .iconst 0, 0, 0), (1, .istore_n 3, 0, 0), (2, .iload_n 3, 0, 0), (3, .aload_n 0, 0, 0), (4, .getfield 108, 10, 1), (7, .if_icmp .ge 78, 0, 0), (10, .aload_n 0, 0, 0), (11, .getfield 89, 10, 30), (14, .iload_n 3, 0, 0), (15, .iconst (-1), 0, 0), (16, .iastore, 0, 0), (17, .aload_n 0, 0, 0), (18, .iload_n 3, 0, 0), (19, .iload_n 1, 0, 0), (20, .invokevirtual 275, 246, 0), (23, .ifCond .ne 6, 0, 0), (26, .goto 53, 0, 0), (29, .iconst 0, 0, 0), (30, .istore 4, 0, 0), (32, .iload 4, 0, 0), (34, .iload_n 2, 0, 0), (35, .if_icmp .ge 21, 0, 0), (38, .aload_n 0, 0, 0), (39, .iload_n 3, 0, 0), (40, .iload 4, 0, 0), (42, .iload_n 1, 0, 0), (43, .iload_n 2, 0, 0), (44, .invokevirtual 369, 289, 0), (47, .ifCond .ne 9, 0, 0), (50, .iinc 4 1, 0, 0), (53, .goto (-21), 0, 0), (56, .iload 4, 0, 0), (58, .iload_n 2, 0, 0), (59, .if_icmp .ne 12, 0, 0), (62, .aload_n 0, 0, 0), (63, .getfield 89, 10, 30), (66, .iload_n 3, 0, 0), (67, .iconst (-1), 0, 0), (68, .iastore, 0, 0), (69, .iload_n 3, 0, 0), (70, .ireturn, 0, 0), (71, .aload_n 0, 0, 0), (72, .getfield 89, 10, 30), (75, .iload_n 3, 0, 0), (76, .iload 4, 0, 0), (78, .iastore, 0, 0), (79, .iinc 3 1, 0, 0), (82, .goto (-80), 0, 0), (85, .aload_n 0, 0, 0), (86, .getfield 108, 10, 1), (89, .ireturn, 0, 0)]
noncomputable def tb_289 : List TE := [(0, .aload_n 0, 0, 0), (1, .getfield 89, 10, 30), (4, .iload_n 1, 0, 0), (5, .iload_n 2, 0, 0), (6, .iastore, 0, 0), (7, .aload_n 0, 0, 0), (8, .iload_n 1, 0, 0), (9, .iload_n 1, 0, 0), (10, .iload_n 3, 0, 0), (11, .iload 4, 0, 0), (13, .invokevirtual 372, 287, 0), (16, .ifCond .eq 5, 0, 0), (19, .iconst 0, 0, 0), (20, .ireturn, 0, 0), (21, .iconst 0, 0, 0), (22, .istore 5, 0, 0), (24, .iload 5, 0, 0), (26, .iload_n 1, 0, 0), (27, .if_icmp .ge 34, 0, 0), (30, .aload_n 0, 0, 0), (31, .iload 5, 0, 0), (33, .iload_n 3, 0, 0), (34, .invokevirtual 275, 246, 0), (37, .ifCond .le 18, 0, 0), (40, .aload_n 0, 0, 0), (41, .iload 5, 0, 0), (43, .iload_n 1, 0, 0), (44, .iload_n 3, 0, 0), (45, .iload 4, 0, 0), (47, .invokevirtual 372, 287, 0), (50, .ifCond .eq 5, 0, 0), (53, .iconst 0, 0, 0), (54, .ireturn, 0, 0), (55, .iinc 5 1, 0, 0), (58, .goto (-34), 0, 0), (61, .iconst 1, 0, 0), (62, .ireturn, 0, 0)]
noncomputable def tb_290 : List TE := [(0, .aload_n 0, 0, 0), (1, .iload_n 1, 0, 0), (2, .invokestatic 202, 212, 2), (5, .ifCond .ne 7, 0, 0), (8, .iconst 1, 0, 0), (9, .goto 16, 0, 0), (12, .aload_n 0, 0, 0), (13, .iload_n 1, 0, 0), (14, .invokevirtual 232, 224, 0), (17, .ifCond .ne 7, 0, 0), (20, .iconst 2, 0, 0), (21, .goto 4, 0, 0), (24, .iconst 0, 0, 0), (25, .putfield 101, 10, 0), (28, .aload_n 0, 0, 0), (29, .getfield 101, 10, 0), (32, .ifCond .le 5, 0, 0), (35, .iconst 0, 0, 0), (36, .ireturn, 0, 0), (37, .iconst 1, 0, 0), (38, .istore_n 2, 0, 0), (39, .iload_n 2, 0, 0), (40, .bipush 40, 0, 0), (42, .if_icmp .gt 24, 0, 0), (45, .aload_n 0, 0, 0), (46, .iload_n 1, 0, 0), (47, .iload_n 2, 0, 0), (48, .invokevirtual 375, 288, 0), (51, .aload_n 0, 0, 0), (52, .getfield 108, 10, 1), (55, .if_icmp .ne 5, 0, 0), (58, .iload_n 2, 0, 0), (59, .ireturn, 0, 0), (60, .iinc 2 1, 0, 0), (63, .goto (-24), 0, 0), (66, .iconst (-1), 0, 0), (67, .ireturn, 0, 0)]
noncomputable def tb_291 : List TE := [(0, .aload_n 0, 0, 0), (1, .aload_n 0, 0, 0), (2, .iload_n 1, 0, 0), (3, .invokevirtual 122, 186, 0), (6, .ifCond .ne 7, 0, 0), (9, .iconst 1, 0, 0), (10, .goto 37, 0, 0), (13, .iload_n 2, 0, 0), (14, .invokestatic 202, 212, 2), (17, .ifCond .eq 13, 0, 0), (20, .iload_n 3, 0, 0), (21, .iconst 1, 0, 0), (22, .bipush 40, 0, 0), (24, .invokestatic 104, 173, 2), (27, .ifCond .ne 7, 0, 0), (30, .iconst 2, 0, 0), (31, .goto 16, 0, 0), (34, .aload_n 0, 0, 0), (35, .iload_n 2, 0, 0), (36, .invokevirtual 232, 224, 0), (39, .ifCond .ne 7, 0, 0), (42, .iconst 3, 0, 0), (43, .goto 4, 0, 0), (46, .iconst 0, 0, 0), (47, .putfield 101, 10, 0), (50, .aload_n 0, 0, 0), (51, .getfield 101, 10, 0), (54, .ifCond .le 5, 0, 0), (57, .iconst 0, 0, 0), (58, .ireturn, 0, 0), (59, .iload_n 1, 0, 0), (60, .aload_n 0, 0, 0), (61, .iload_n 2, 0, 0), (62, .iload_n 3, 0, 0), (63, .invokevirtual 375, 288, 0), (66, .if_icmp .ge 12, 0, 0), (69, .aload_n 0, 0, 0), (70, .getfield 89, 10, 30), (73, .iload_n 1, 0, 0), (74, .iaload, 0, 0), (75, .goto 4, 0, 0), (78, .iconst (-1), 0, 0), (79, .ireturn, 0, 0)]
noncomputable def tb_292 : List TE := [(0, .iload_n 1, 0, 0), (1, .aload_n 0, 0, 0), (2, .getfield 378, 10, 32), (5, .imul, 0, 0), (6, .aload_n 0, 0, 0), (7, .getfield 381, 10, 31), (10, .iload_n 2, 0, 0), (11, .imul, 0, 0), (12, .isub, 0, 0), (13, .istore 4, 0, 0), (15, .iload_n 1, 0, 0), (16, .ifCond .le 8, 0, 0), (19, .iload 4, 0, 0), (21, .ifCond .ge 4, 0, 0), (24, .return_, 0, 0), (25, .iload 4, 0, 0), (27, .ifCond .le 11, 0, 0), (30, .aload_n 0, 0, 0), (31, .iload_n 3, 0, 0), (32, .putfield 384, 10, 33), (35, .goto 26, 0, 0), (38, .aload_n 0, 0, 0), (39, .aload_n 0, 0, 0), (40, .getfield 384, 10, 33), (43, .ifCond .ne 7, 0, 0), (46, .iload_n 3, 0, 0), (47, .goto 11, 0, 0), (50, .aload_n 0, 0, 0), (51, .getfield 384, 10, 33), (54, .iload_n 3, 0, 0), (55, .invokestatic 170, 175, 2), (58, .putfield 384, 10, 33), (61, .iload_n 1, 0, 0), (62, .istore 5, 0, 0), (64, .iload_n 2, 0, 0), (65, .istore 6, 0, 0), (67, .iload 6, 0, 0), (69, .ifCond .eq 21, 0, 0), (72, .iload 5, 0, 0), (74, .iload 6, 0, 0), (76, .irem, 0, 0), (77, .istore 7, 0, 0), (79, .iload 6, 0, 0), (81, .istore 5, 0, 0), (83, .iload 7, 0, 0), (85, .istore 6, 0, 0), (87, .goto (-20), 0, 0), (90, .aload_n 0, 0, 0), (91, .iload_n 1, 0, 0), (92, .iload 5, 0, 0), (94, .idiv, 0, 0), (95, .putfield 381, 10, 31), (98, .aload_n 0, 0, 0), (99, .iload_n 2, 0, 0), (100, .iload 5, 0, 0), (102, .idiv, 0, 0), (103, .putfield 378, 10, 32), (106, .return_, 0, 0)]
noncomputable def tb_293 : List TE := [(0, .iconst 0, 0, 0), (1, .istore_n 2, 0, 0), (2, .aload_n 0, 0, 0), (3, .getfield 92, 10, 34), (6, .iconst 0, 0, 0), (7, .iconst (-1), 0, 0), (8, .iastore, 0, 0), (9, .iload_n 2, 0, 0), (10, .ifCond .lt 193, 0, 0), (13, .aload_n 0, 0, 0), (14, .getfield 92, 10, 34), (17, .iload_n 2, 0, 0), (18, .dup2, 0, 0), (19, .iaload, 0, 0), (20, .iconst 1, 0, 0), (21, .iadd, 0, 0), (22, .iastore, 0, 0), (23, .iload_n 2, 0, 0), (24, .ifCond .ne 7, 0, 0), (27, .iload_n 1, 0, 0), (28, .goto 29, 0, 0), (31, .aload_n 0, 0, 0), (32, .getfield 43, 10, 14), (35, .aload_n 0, 0, 0), (36, .getfield 141, 10, 12), (39, .iconst 1, 0, 0), (40, .isub, 0, 0), (41, .iconst 0, 0, 0), (42, .aload_n 0, 0, 0), (43, .getfield 92, 10, 34), (46, .iload_n 2, 0, 0), (47, .iconst 1, 0, 0), (48, .isub, 0, 0), (49, .iaload, 0, 0), (50, .invokestatic 167, 174, 2), (53, .invokestatic 170, 175, 2), (56, .iaload, 0, 0), (57, .istore_n 3, 0, 0), (58, .aload_n 0, 0, 0), (59, .getfield 92, 10, 34), (62, .iload_n 2, 0, 0), (63, .iaload, 0, 0), (64, .aload_n 0, 0, 0), (65, .getfield 141, 10, 12), (68, .if_icmp .lt 9, 0, 0), (71, .iinc 2 (-1), 0, 0), (74, .goto (-65), 0, 0), (77, .aload_n 0, 0, 0), (78, .getfield 92, 10, 34), (81, .iload_n 2, 0, 0), (82, .iaload, 0, 0), (83, .istore 4, 0, 0), (85, .aload_n 0, 0, 0), (86, .getfield 40, 10, 13), (89, .iload 4, 0, 0), (91, .iaload, 0, 0), (92, .iload_n 3, 0, 0), (93, .if_icmp .ne (-84), 0, 0), (96, .aload_n 0, 0, 0), (97, .getfield 43, 10, 14), (100, .iload 4, 0, 0), (102, .iaload, 0, 0), (103, .iload_n 1, 0, 0), (104, .if_icmp .ge 6, 0, 0), (107, .goto (-98), 0, 0), (110, .aload_n 0, 0, 0), (111, .getfield 43, 10, 14), (114, .iload 4, 0, 0), (116, .iaload, 0, 0), (117, .iload_n 1, 0, 0), (118, .if_icmp .ne 12, 0, 0), (121, .aload_n 0, 0, 0), (122, .iload_n 2, 0, 0), (123, .iload_n 1, 0, 0), (124, .invokevirtual 387, 294, 0), (127, .goto (-118), 0, 0), (130, .iconst 0, 0, 0), (131, .istore 5, 0, 0), (133, .iconst 0, 0, 0), (134, .istore 6, 0, 0), (136, .iload 6, 0, 0), (138, .iload_n 2, 0, 0), (139, .if_icmp .ge 43, 0, 0), (142, .iload 5, 0, 0), (144, .ifCond .ne 25, 0, 0), (147, .aload_n 0, 0, 0), (148, .getfield 43, 10, 14), (151, .aload_n 0, 0, 0), (152, .getfield 92, 10, 34), (155, .iload 6, 0, 0), (157, .iaload, 0, 0), (158, .iaload, 0, 0), (159, .aload_n 0, 0, 0), (160, .getfield 43, 10, 14), (163, .iload 4, 0, 0), (165, .iaload, 0, 0), (166, .if_icmp .ne 7, 0, 0), (169, .iconst 1, 0, 0), (170, .goto 4, 0, 0), (173, .iconst 0, 0, 0), (174, .istore 5, 0, 0), (176, .iinc 6 1, 0, 0), (179, .goto (-43), 0, 0), (182, .iload 5, 0, 0), (184, .ifCond .eq 6, 0, 0), (187, .goto (-178), 0, 0), (190, .iinc 2 1, 0, 0), (193, .aload_n 0, 0, 0), (194, .getfield 92, 10, 34), (197, .iload_n 2, 0, 0), (198, .iconst (-1), 0, 0), (199, .iastore, 0, 0), (200, .goto (-191), 0, 0), (203, .return_, 0, 0)]
noncomputable def tb_294 : List TE := [(0, .iconst 0, 0, 0), (1, .istore_n 3, 0, 0), (2, .iconst 0, 0, 0), (3, .istore 4, 0, 0), (5, .iconst 0, 0, 0), (6, .istore 5, 0, 0), (8, .iconst 0, 0, 0), (9, .istore 6, 0, 0), (11, .iload 6, 0, 0), (13, .iload_n 1, 0, 0), (14, .if_icmp .gt 60, 0, 0), (17, .iload_n 3, 0, 0), (18, .aload_n 0, 0, 0), (19, .getfield 49, 10, 16), (22, .aload_n 0, 0, 0), (23, .getfield 92, 10, 34), (26, .iload 6, 0, 0), (28, .iaload, 0, 0), (29, .iaload, 0, 0), (30, .iadd, 0, 0), (31, .istore_n 3, 0, 0), (32, .iload 4, 0, 0), (34, .aload_n 0, 0, 0), (35, .getfield 46, 10, 15), (38, .aload_n 0, 0, 0), (39, .getfield 92, 10, 34), (42, .iload 6, 0, 0), (44, .iaload, 0, 0), (45, .iaload, 0, 0), (46, .iadd, 0, 0), (47, .istore 4, 0, 0), (49, .iload 5, 0, 0), (51, .iconst 1, 0, 0), (52, .aload_n 0, 0, 0), (53, .getfield 43, 10, 14), (56, .aload_n 0, 0, 0), (57, .getfield 92, 10, 34), (60, .iload 6, 0, 0), (62, .iaload, 0, 0), (63, .iaload, 0, 0), (64, .ishl, 0, 0), (65, .ior, 0, 0), (66, .istore 5, 0, 0), (68, .iinc 6 1, 0, 0), (71, .goto (-60), 0, 0), (74, .aload_n 0, 0, 0), (75, .iload_n 3, 0, 0), (76, .iload 4, 0, 0), (78, .iload 5, 0, 0), (80, .invokevirtual 390, 292, 0), (83, .return_, 0, 0)]
noncomputable def tb_295 : List TE := [(0, .aload_n 0, 0, 0), (1, .invokevirtual 164, 204, 0), (4, .aload_n 0, 0, 0), (5, .iconst 0, 0, 0), (6, .putfield 381, 10, 31), (9, .aload_n 0, 0, 0), (10, .iconst 1, 0, 0), (11, .putfield 378, 10, 32), (14, .aload_n 0, 0, 0), (15, .iconst 0, 0, 0), (16, .putfield 384, 10, 33), (19, .iconst 0, 0, 0), (20, .istore_n 1, 0, 0), (21, .iload_n 1, 0, 0), (22, .aload_n 0, 0, 0), (23, .getfield 108, 10, 1), (26, .if_icmp .ge 21, 0, 0), (29, .aload_n 0, 0, 0), (30, .getfield 141, 10, 12), (33, .ifCond .le 14, 0, 0), (36, .aload_n 0, 0, 0), (37, .iload_n 1, 0, 0), (38, .invokevirtual 393, 293, 0), (41, .iinc 1 1, 0, 0), (44, .goto (-23), 0, 0), (47, .return_, 0, 0)]
noncomputable def tb_296 : List TE := [(0, .aload_n 0, 0, 0), (1, .aload_n 0, 0, 0), (2, .invokevirtual 137, 199, 0), (5, .ifCond .eq 7, 0, 0), (8, .iconst 0, 0, 0), (9, .goto 4, 0, 0), (12, .iconst 1, 0, 0), (13, .putfield 101, 10, 0), (16, .aload_n 0, 0, 0), (17, .getfield 101, 10, 0), (20, .ifCond .le 5, 0, 0), (23, .iconst 0, 0, 0), (24, .ireturn, 0, 0), (25, .aload_n 0, 0, 0), (26, .invokevirtual 396, 295, 0), (29, .iload_n 1, 0, 0), (30, .ifCond .eq 10, 0, 0), (33, .aload_n 0, 0, 0), (34, .getfield 378, 10, 32), (37, .goto 7, 0, 0), (40, .aload_n 0, 0, 0), (41, .getfield 381, 10, 31), (44, .ireturn, 0, 0)]
noncomputable def tb_297 : List TE := [(0, .aload_n 0, 0, 0), (1, .aload_n 0, 0, 0), (2, .invokevirtual 137, 199, 0), (5, .ifCond .eq 7, 0, 0), (8, .iconst 0, 0, 0), (9, .goto 4, 0, 0), (12, .iconst 1, 0, 0), (13, .putfield 101, 10, 0), (16, .aload_n 0, 0, 0), (17, .getfield 101, 10, 0), (20, .ifCond .le 5, 0, 0), (23, .iconst 0, 0, 0), (24, .ireturn, 0, 0), (25, .aload_n 0, 0, 0), (26, .invokevirtual 396, 295, 0), (29, .aload_n 0, 0, 0), (30, .getfield 384, 10, 33), (33, .ireturn, 0, 0)]
noncomputable def tb_298 : List TE := [(0, .iconst 1, 0, 0), (1, .iload_n 1, 0, 0), (2, .aload_n 0, 0, 0), (3, .getfield 381, 10, 31), (6, .imul, 0, 0), (7, .aload_n 0, 0, 0), (8, .getfield 378, 10, 32), (11, .invokestatic 192, 176, 2), (14, .invokestatic 167, 174, 2), (17, .istore_n 2, 0, 0), (18, .iconst 0, 0, 0), (19, .istore_n 3, 0, 0), (20, .iload_n 3, 0, 0), (21, .iconst 3, 0, 0), (22, .if_icmp .ge 30, 0, 0), (25, .iload_n 2, 0, 0), (26, .iload_n 1, 0, 0), (27, .aload_n 0, 0, 0), (28, .iload_n 3, 0, 0), (29, .invokevirtual 189, 209, 0), (32, .imul, 0, 0), (33, .aload_n 0, 0, 0), (34, .getfield 37, 10, 11), (37, .iload_n 3, 0, 0), (38, .iaload, 0, 0), (39, .invokestatic 192, 176, 2), (42, .invokestatic 167, 174, 2), (45, .istore_n 2, 0, 0), (46, .iinc 3 1, 0, 0), (49, .goto (-29), 0, 0), (52, .iload_n 2, 0, 0), (53, .ireturn, 0, 0)]
noncomputable def tb_299 : List TE := [(0, .aload_n 0, 0, 0), (1, .iload_n 1, 0, 0), (2, .iconst 1, 0, 0), (3, .iconst 4, 0, 0), (4, .invokestatic 104, 173, 2), (7, .ifCond .ne 7, 0, 0), (10, .iconst 1, 0, 0), (11, .goto 15, 0, 0), (14, .aload_n 0, 0, 0), (15, .invokevirtual 137, 199, 0), (18, .ifCond .ne 7, 0, 0), (21, .iconst 2, 0, 0), (22, .goto 4, 0, 0), (25, .iconst 0, 0, 0), (26, .putfield 101, 10, 0), (29, .aload_n 0, 0, 0), (30, .getfield 101, 10, 0), (33, .ifCond .le 5, 0, 0), (36, .iconst 0, 0, 0), (37, .ireturn, 0, 0), (38, .aload_n 0, 0, 0), (39, .invokevirtual 396, 295, 0), (42, .aload_n 0, 0, 0), (43, .iload_n 1, 0, 0), (44, .invokevirtual 399, 298, 0), (47, .ireturn, 0, 0)]
noncomputable def tb_300 : List TE := [(0, .aload_n 0, 0, 0), (1, .aload_n 0, 0, 0), (2, .invokevirtual 137, 199, 0), (5, .ifCond .eq 7, 0, 0), (8, .iconst 0, 0, 0), (9, .goto 4, 0, 0), (12, .iconst 1, 0, 0), (13, .putfield 101, 10, 0), (16, .aload_n 0, 0, 0), (17, .getfield 101, 10, 0), (20, .ifCond .le 5, 0, 0), (23, .iconst 0, 0, 0), (24, .ireturn, 0, 0), (25, .aload_n 0, 0, 0), (26, .invokevirtual 396, 295, 0), (29, .iconst 1, 0, 0), (30, .istore_n 1, 0, 0), (31, .iconst 2, 0, 0), (32, .istore_n 2, 0, 0), (33, .iload_n 2, 0, 0), (34, .iconst 4, 0, 0), (35, .if_icmp .gt 28, 0, 0), (38, .aload_n 0, 0, 0), (39, .iload_n 2, 0, 0), (40, .invokevirtual 399, 298, 0), (43, .iload_n 1, 0, 0), (44, .imul, 0, 0), (45, .aload_n 0, 0, 0), (46, .iload_n 1, 0, 0), (47, .invokevirtual 399, 298, 0), (50, .iload_n 2, 0, 0), (51, .imul, 0, 0), (52, .if_icmp .ge 5, 0, 0), (55, .iload_n 2, 0, 0), (56, .istore_n 1, 0, 0), (57, .iinc 2 1, 0, 0), (60, .goto (-27), 0, 0), (63, .iload_n 1, 0, 0), (64, .ireturn, 0, 0)]
noncomputable def tb_301 : List TE := [(0, .aload_n 0, 0, 0), (1, .iload_n 1, 0, 0), (2, .iconst 0, 0, 0), (3, .iconst 5, 0, 0), (4, .invokestatic 104, 173, 2), (7, .ifCond .ne 7, 0, 0), (10, .iconst 1, 0, 0), (11, .goto 25, 0, 0), (14, .aload_n 0, 0, 0), (15, .invokevirtual 137, 199, 0), (18, .ifCond .eq 13, 0, 0), (21, .aload_n 0, 0, 0), (22, .getfield 31, 10, 9), (25, .iload_n 1, 0, 0), (26, .iaload, 0, 0), (27, .iconst 1, 0, 0), (28, .if_icmp .ne 7, 0, 0), (31, .iconst 2, 0, 0), (32, .goto 4, 0, 0), (35, .iconst 0, 0, 0), (36, .putfield 101, 10, 0), (39, .aload_n 0, 0, 0), (40, .getfield 101, 10, 0), (43, .ifCond .le 5, 0, 0), (46, .iconst 0, 0, 0), (47, .ireturn, 0, 0), (48, .aload_n 0, 0, 0), (49, .getfield 31, 10, 9), (52, .iload_n 1, 0, 0), (53, .dup2, 0, 0), (54, .iaload, 0, 0), (55, .iconst 1, 0, 0), (56, .isub, 0, 0), (57, .iastore, 0, 0), (58, .aload_n 0, 0, 0), (59, .invokevirtual 402, 211, 0), (62, .istore_n 2, 0, 0), (63, .aload_n 0, 0, 0), (64, .getfield 31, 10, 9), (67, .iload_n 1, 0, 0), (68, .dup2, 0, 0), (69, .iaload, 0, 0), (70, .iconst 1, 0, 0), (71, .iadd, 0, 0), (72, .iastore, 0, 0), (73, .iload_n 2, 0, 0), (74, .ireturn, 0, 0)]
noncomputable def tb_302 : List TE := [(0, .aload_n 0, 0, 0), (1, .aload_n 0, 0, 0), (2, .invokevirtual 137, 199, 0), (5, .ifCond .eq 7, 0, 0), (8, .iconst 0, 0, 0), (9, .goto 4, 0, 0), (12, .iconst 1, 0, 0), (13, .putfield 101, 10, 0), (16, .aload_n 0, 0, 0), (17, .getfield 101, 10, 0), (20, .ifCond .le 5, 0, 0), (23, .iconst 0, 0, 0), (24, .ireturn, 0, 0), (25, .aload_n 0, 0, 0), (26, .invokevirtual 164, 204, 0), (29, .aload_n 0, 0, 0), (30, .iload_n 1, 0, 0), (31, .iconst 0, 0, 0), (32, .aload_n 0, 0, 0), (33, .getfield 141, 10, 12), (36, .iconst 1, 0, 0), (37, .isub, 0, 0), (38, .invokestatic 104, 173, 2), (41, .ifCond .eq 7, 0, 0), (44, .iconst 0, 0, 0), (45, .goto 4, 0, 0), (48, .iconst 2, 0, 0), (49, .putfield 101, 10, 0), (52, .aload_n 0, 0, 0), (53, .getfield 101, 10, 0), (56, .ifCond .le 5, 0, 0), (59, .iconst 0, 0, 0), (60, .ireturn, 0, 0), (61, .aload_n 0, 0, 0), (62, .iload_n 1, 0, 0), (63, .putfield 55, 10, 18), (66, .aload_n 0, 0, 0), (67, .invokevirtual 195, 208, 0), (70, .istore_n 2, 0, 0), (71, .aload_n 0, 0, 0), (72, .iconst (-1), 0, 0), (73, .putfield 55, 10, 18), (76, .iload_n 2, 0, 0), (77, .ireturn, 0, 0)]
noncomputable def tb_303 : List TE := [(0, .aload_n 0, 0, 0), (1, .iload_n 1, 0, 0), (2, .iconst 0, 0, 0), (3, .iconst 2, 0, 0), (4, .invokestatic 104, 173, 2), (7, .ifCond .ne 7, 0, 0), (10, .iconst 1, 0, 0), (11, .goto 27, 0, 0), (14, .iload_n 2, 0, 0), (15, .invokestatic 202, 212, 2), (18, .ifCond .ne 7, 0, 0), (21, .iconst 2, 0, 0), (22, .goto 16, 0, 0), (25, .aload_n 0, 0, 0), (26, .iload_n 2, 0, 0), (27, .invokevirtual 232, 224, 0), (30, .ifCond .ne 7, 0, 0), (33, .iconst 3, 0, 0), (34, .goto 4, 0, 0), (37, .iconst 0, 0, 0), (38, .putfield 101, 10, 0), (41, .aload_n 0, 0, 0), (42, .getfield 101, 10, 0), (45, .ifCond .le 7, 0, 0), (48, .iconst 0, 0, 0), (49, .goto 17, 0, 0), (52, .iload_n 2, 0, 0), (53, .aload_n 0, 0, 0), (54, .getfield 37, 10, 11), (57, .iload_n 1, 0, 0), (58, .iaload, 0, 0), (59, .imul, 0, 0), (60, .aload_n 0, 0, 0), (61, .iload_n 1, 0, 0), (62, .invokevirtual 189, 209, 0), (65, .isub, 0, 0), (66, .ireturn, 0, 0)]
noncomputable def tb_304 : List TE := [(0, .aload_n 0, 0, 0), (1, .iload_n 1, 0, 0), (2, .iconst 0, 0, 0), (3, .iconst 2, 0, 0), (4, .invokestatic 104, 173, 2), (7, .ifCond .ne 7, 0, 0), (10, .iconst 1, 0, 0), (11, .goto 15, 0, 0), (14, .aload_n 0, 0, 0), (15, .invokevirtual 137, 199, 0), (18, .ifCond .ne 7, 0, 0), (21, .iconst 2, 0, 0), (22, .goto 4, 0, 0), (25, .iconst 0, 0, 0), (26, .putfield 101, 10, 0), (29, .aload_n 0, 0, 0), (30, .getfield 101, 10, 0), (33, .ifCond .le 5, 0, 0), (36, .iconst 0, 0, 0), (37, .ireturn, 0, 0), (38, .aload_n 0, 0, 0), (39, .getfield 37, 10, 11), (42, .iload_n 1, 0, 0), (43, .dup2, 0, 0), (44, .iaload, 0, 0), (45, .iconst 1, 0, 0), (46, .iadd, 0, 0), (47, .iastore, 0, 0), (48, .aload_n 0, 0, 0), (49, .invokevirtual 402, 211, 0), (52, .istore_n 2, 0, 0), (53, .aload_n 0, 0, 0), (54, .getfield 37, 10, 11), (57, .iload_n 1, 0, 0), (58, .dup2, 0, 0), (59, .iaload, 0, 0), (60, .iconst 1, 0, 0), (61, .isub, 0, 0), (62, .iastore, 0, 0), (63, .iload_n 2, 0, 0), (64, .ireturn, 0, 0)]
noncomputable def tb_305 : List TE := [(0, .aload_n 0, 0, 0), (1, .iload_n 1, 0, 0), (2, .iconst 0, 0, 0), (3, .bipush 99, 0, 0), (5, .invokestatic 104, 173, 2), (8, .ifCond .ne 7, 0, 0), (11, .iconst 1, 0, 0), (12, .goto 15, 0, 0), (15, .aload_n 0, 0, 0), (16, .invokevirtual 137, 199, 0), (19, .ifCond .ne 7, 0, 0), (22, .iconst 2, 0, 0), (23, .goto 4, 0, 0), (26, .iconst 0, 0, 0), (27, .putfield 101, 10, 0), (30, .aload_n 0, 0, 0), (31, .getfield 101, 10, 0), (34, .ifCond .le 5, 0, 0), (37, .iconst 0, 0, 0), (38, .ireturn, 0, 0), (39, .iconst 1, 0, 0), (40, .istore_n 2, 0, 0), (41, .iload_n 2, 0, 0), (42, .bipush 12, 0, 0), (44, .if_icmp .gt 28, 0, 0), (47, .aload_n 0, 0, 0), (48, .iload_n 2, 0, 0), (49, .invokevirtual 232, 224, 0), (52, .ifCond .eq 14, 0, 0), (55, .aload_n 0, 0, 0), (56, .iload_n 2, 0, 0), (57, .invokevirtual 296, 249, 0), (60, .iload_n 1, 0, 0), (61, .if_icmp .gt 5, 0, 0), (64, .iload_n 2, 0, 0), (65, .ireturn, 0, 0), (66, .iinc 2 1, 0, 0), (69, .goto (-28), 0, 0), (72, .iconst (-1), 0, 0), (73, .ireturn, 0, 0)]
noncomputable def tb_306 : List TE := [(0, .iconst 0, 0, 0), (1, .istore_n 2, 0, 0), (2, .iconst 0, 0, 0), (3, .istore_n 3, 0, 0), (4, .iload_n 3, 0, 0), (5, .aload_n 0, 0, 0), (6, .getfield 108, 10, 1), (9, .if_icmp .ge 78, 0, 0), (12, .aload_n 0, 0, 0), (13, .getfield 95, 10, 35), (16, .iload_n 3, 0, 0), (17, .iconst 0, 0, 0), (18, .iastore, 0, 0), (19, .iconst 0, 0, 0), (20, .istore 4, 0, 0), (22, .iload 4, 0, 0), (24, .aload_n 0, 0, 0), (25, .getfield 108, 10, 1), (28, .if_icmp .ge 36, 0, 0), (31, .aload_n 0, 0, 0), (32, .getfield 95, 10, 35), (35, .iload_n 3, 0, 0), (36, .aload_n 0, 0, 0), (37, .getfield 95, 10, 35), (40, .iload_n 3, 0, 0), (41, .iaload, 0, 0), (42, .aload_n 0, 0, 0), (43, .getfield 52, 10, 17), (46, .bipush 8, 0, 0), (48, .iload 4, 0, 0), (50, .imul, 0, 0), (51, .iload_n 3, 0, 0), (52, .iadd, 0, 0), (53, .iaload, 0, 0), (54, .invokestatic 167, 174, 2), (57, .iastore, 0, 0), (58, .iinc 4 1, 0, 0), (61, .goto (-39), 0, 0), (64, .iload_n 2, 0, 0), (65, .aload_n 0, 0, 0), (66, .getfield 95, 10, 35), (69, .iload_n 3, 0, 0), (70, .iaload, 0, 0), (71, .aload_n 0, 0, 0), (72, .iload_n 3, 0, 0), (73, .invokevirtual 148, 192, 0), (76, .iadd, 0, 0), (77, .invokestatic 167, 174, 2), (80, .istore_n 2, 0, 0), (81, .iinc 3 1, 0, 0), (84, .goto (-80), 0, 0), (87, .iconst 0, 0, 0), (88, .istore_n 3, 0, 0), (89, .iload_n 3, 0, 0), (90, .aload_n 0, 0, 0), (91, .getfield 108, 10, 1), (94, .if_icmp .ge 94, 0, 0), (97, .aload_n 0, 0, 0), (98, .getfield 98, 10, 36), (101, .iload_n 3, 0, 0), (102, .iload_n 2, 0, 0), (103, .aload_n 0, 0, 0), (104, .iload_n 3, 0, 0), (105, .invokevirtual 148, 192, 0), (108, .isub, 0, 0), (109, .iastore, 0, 0), (110, .iconst 0, 0, 0), (111, .istore 4, 0, 0), (113, .iload 4, 0, 0), (115, .aload_n 0, 0, 0), (116, .getfield 108, 10, 1), (119, .if_icmp .ge 63, 0, 0), (122, .aload_n 0, 0, 0), (123, .getfield 52, 10, 17), (126, .bipush 8, 0, 0), (128, .iload_n 3, 0, 0), (129, .imul, 0, 0), (130, .iload 4, 0, 0), (132, .iadd, 0, 0), (133, .iaload, 0, 0), (134, .sipush (-1000), 0, 0), (137, .if_icmp .le 39, 0, 0), (140, .aload_n 0, 0, 0), (141, .getfield 98, 10, 36), (144, .iload_n 3, 0, 0), (145, .aload_n 0, 0, 0), (146, .getfield 98, 10, 36), (149, .iload_n 3, 0, 0), (150, .iaload, 0, 0), (151, .iload_n 2, 0, 0), (152, .aload_n 0, 0, 0), (153, .iload 4, 0, 0), (155, .invokevirtual 148, 192, 0), (158, .isub, 0, 0), (159, .aload_n 0, 0, 0), (160, .getfield 52, 10, 17), (163, .bipush 8, 0, 0), (165, .iload_n 3, 0, 0), (166, .imul, 0, 0), (167, .iload 4, 0, 0), (169, .iadd, 0, 0), (170, .iaload, 0, 0), (171, .isub, 0, 0), (172, .invokestatic 170, 175, 2), (175, .iastore, 0, 0), (176, .iinc 4 1, 0, 0), (179, .goto (-66), 0, 0), (182, .iinc 3 1, 0, 0), (185, .goto (-96), 0, 0), (188, .return_, 0, 0)]
noncomputable def tb_307 : List TE := [(0, .aload_n 0, 0, 0), (1, .aload_n 0, 0, 0), (2, .iload_n 1, 0, 0), (3, .invokevirtual 122, 186, 0), (6, .ifCond .ne 7, 0, 0), (9, .iconst 1, 0, 0), (10, .goto 27, 0, 0), (13, .iload_n 2, 0, 0), (14, .invokestatic 202, 212, 2), (17, .ifCond .ne 7, 0, 0), (20, .iconst 2, 0, 0), (21, .goto 16, 0, 0), (24, .aload_n 0, 0, 0), (25, .iload_n 2, 0, 0), (26, .invokevirtual 205, 213, 0), (29, .ifCond .eq 7, 0, 0), (32, .iconst 3, 0, 0), (33, .goto 4, 0, 0), (36, .iconst 0, 0, 0), (37, .putfield 101, 10, 0), (40, .aload_n 0, 0, 0), (41, .getfield 101, 10, 0), (44, .ifCond .le 5, 0, 0), (47, .iconst 0, 0, 0), (48, .ireturn, 0, 0), (49, .aload_n 0, 0, 0), (50, .iload_n 2, 0, 0), (51, .invokevirtual 173, 206, 0), (54, .aload_n 0, 0, 0), (55, .iload_n 2, 0, 0), (56, .invokevirtual 405, 306, 0), (59, .iload_n 3, 0, 0), (60, .ifCond .eq 12, 0, 0), (63, .aload_n 0, 0, 0), (64, .getfield 98, 10, 36), (67, .iload_n 1, 0, 0), (68, .iaload, 0, 0), (69, .goto 9, 0, 0), (72, .aload_n 0, 0, 0), (73, .getfield 95, 10, 35), (76, .iload_n 1, 0, 0), (77, .iaload, 0, 0), (78, .ireturn, 0, 0)]
noncomputable def tb_308 : List TE := [(0, .aload_n 0, 0, 0), (1, .iload_n 1, 0, 0), (2, .iconst 0, 0, 0), (3, .iconst 2, 0, 0), (4, .invokestatic 104, 173, 2), (7, .ifCond .ne 7, 0, 0), (10, .iconst 1, 0, 0), (11, .goto 38, 0, 0), (14, .iload_n 3, 0, 0), (15, .invokestatic 202, 212, 2), (18, .ifCond .eq 14, 0, 0), (21, .iload_n 2, 0, 0), (22, .iconst 0, 0, 0), (23, .iload_n 3, 0, 0), (24, .iconst 1, 0, 0), (25, .isub, 0, 0), (26, .invokestatic 104, 173, 2), (29, .ifCond .ne 7, 0, 0), (32, .iconst 2, 0, 0), (33, .goto 16, 0, 0), (36, .aload_n 0, 0, 0), (37, .iload_n 3, 0, 0), (38, .invokevirtual 232, 224, 0), (41, .ifCond .ne 7, 0, 0), (44, .iconst 3, 0, 0), (45, .goto 4, 0, 0), (48, .iconst 0, 0, 0), (49, .putfield 101, 10, 0), (52, .aload_n 0, 0, 0), (53, .getfield 101, 10, 0), (56, .ifCond .le 5, 0, 0), (59, .iconst 0, 0, 0), (60, .ireturn, 0, 0), (61, .iconst 0, 0, 0), (62, .istore 4, 0, 0), (64, .iconst 0, 0, 0), (65, .istore 5, 0, 0), (67, .iload 5, 0, 0), (69, .aload_n 0, 0, 0), (70, .getfield 108, 10, 1), (73, .if_icmp .ge 74, 0, 0), (76, .iconst 0, 0, 0), (77, .istore 6, 0, 0), (79, .iload 6, 0, 0), (81, .iconst 4, 0, 0), (82, .if_icmp .ge 59, 0, 0), (85, .aload_n 0, 0, 0), (86, .iload 5, 0, 0), (88, .invokevirtual 180, 191, 0), (91, .iload_n 1, 0, 0), (92, .if_icmp .ne 43, 0, 0), (95, .aload_n 0, 0, 0), (96, .iload 5, 0, 0), (98, .invokevirtual 183, 193, 0), (101, .iload 6, 0, 0), (103, .ishr, 0, 0), (104, .iconst 1, 0, 0), (105, .iand, 0, 0), (106, .iconst 1, 0, 0), (107, .if_icmp .ne 28, 0, 0), (110, .aload_n 0, 0, 0), (111, .getfield 65, 10, 21), (114, .iload 5, 0, 0), (116, .iaload, 0, 0), (117, .iload 6, 0, 0), (119, .iadd, 0, 0), (120, .iload_n 3, 0, 0), (121, .irem, 0, 0), (122, .iload_n 2, 0, 0), (123, .if_icmp .ne 12, 0, 0), (126, .iload 4, 0, 0), (128, .iconst 1, 0, 0), (129, .iload 5, 0, 0), (131, .ishl, 0, 0), (132, .ior, 0, 0), (133, .istore 4, 0, 0), (135, .iinc 6 1, 0, 0), (138, .goto (-59), 0, 0), (141, .iinc 5 1, 0, 0), (144, .goto (-77), 0, 0), (147, .iload 4, 0, 0), (149, .ireturn, 0, 0)]
noncomputable def tb_309 : List TE := [(0, .iconst 0, 0, 0), (1, .istore 4, 0, 0), (3, .iload 4, 0, 0), (5, .aload_n 0, 0, 0), (6, .getfield 108, 10, 1), (9, .if_icmp .ge 28, 0, 0), (12, .iload_n 1, 0, 0), (13, .aload_n 0, 0, 0), (14, .getfield 65, 10, 21), (17, .iload 4, 0, 0), (19, .iaload, 0, 0), (20, .iload_n 2, 0, 0), (21, .iload_n 3, 0, 0), (22, .invokestatic 333, 270, 2), (25, .iconst (-1), 0, 0), (26, .if_icmp .eq 5, 0, 0), (29, .iconst 1, 0, 0), (30, .ireturn, 0, 0), (31, .iinc 4 1, 0, 0), (34, .goto (-31), 0, 0), (37, .iconst 0, 0, 0), (38, .ireturn, 0, 0)]
noncomputable def tb_310 : List TE := [(0, .aload_n 0, 0, 0), (1, .aload_n 0, 0, 0), (2, .iload_n 1, 0, 0), (3, .iload_n 2, 0, 0), (4, .invokevirtual 314, 258, 0), (7, .putfield 101, 10, 0), (10, .aload_n 0, 0, 0), (11, .getfield 101, 10, 0), (14, .ifCond .le 5, 0, 0), (17, .iconst 0, 0, 0), (18, .ireturn, 0, 0), (19, .iconst 0, 0, 0), (20, .istore_n 3, 0, 0), (21, .iconst 0, 0, 0), (22, .istore 4, 0, 0), (24, .iload 4, 0, 0), (26, .aload_n 0, 0, 0), (27, .iload_n 1, 0, 0), (28, .iload_n 2, 0, 0), (29, .invokevirtual 308, 260, 0), (32, .if_icmp .ge 28, 0, 0), (35, .iload_n 3, 0, 0), (36, .aload_n 0, 0, 0), (37, .iload 4, 0, 0), (39, .iload_n 1, 0, 0), (40, .iload_n 2, 0, 0), (41, .invokevirtual 408, 309, 0), (44, .ifCond .eq 7, 0, 0), (47, .iconst 0, 0, 0), (48, .goto 4, 0, 0), (51, .iconst 1, 0, 0), (52, .iadd, 0, 0), (53, .istore_n 3, 0, 0), (54, .iinc 4 1, 0, 0), (57, .goto (-33), 0, 0), (60, .iload_n 3, 0, 0), (61, .ireturn, 0, 0)]
noncomputable def tb_311 : List TE := [(0, .aload_n 0, 0, 0), (1, .iload_n 1, 0, 0), (2, .iload_n 2, 0, 0), (3, .invokevirtual 130, 195, 0), (6, .istore 4, 0, 0), (8, .iload 4, 0, 0), (10, .ifCond .lt 13, 0, 0), (13, .iload_n 3, 0, 0), (14, .aload_n 0, 0, 0), (15, .iload_n 1, 0, 0), (16, .iload_n 2, 0, 0), (17, .invokevirtual 134, 196, 0), (20, .if_icmp .ge 5, 0, 0), (23, .iconst 0, 0, 0), (24, .ireturn, 0, 0), (25, .aload_n 0, 0, 0), (26, .getfield 83, 10, 28), (29, .bipush 41, 0, 0), (31, .iload 4, 0, 0), (33, .imul, 0, 0), (34, .iload_n 3, 0, 0), (35, .iadd, 0, 0), (36, .aload_n 0, 0, 0), (37, .iload_n 1, 0, 0), (38, .iload_n 2, 0, 0), (39, .invokevirtual 134, 196, 0), (42, .isub, 0, 0), (43, .iaload, 0, 0), (44, .ireturn, 0, 0)]
noncomputable def tb_312 : List TE := [(0, .aload_n 0, 0, 0), (1, .iload_n 3, 0, 0), (2, .iconst 1, 0, 0), (3, .bipush 9, 0, 0), (5, .invokestatic 104, 173, 2), (8, .ifCond .eq 14, 0, 0), (11, .iload 4, 0, 0), (13, .iconst 1, 0, 0), (14, .bipush 9, 0, 0), (16, .invokestatic 104, 173, 2), (19, .ifCond .ne 7, 0, 0), (22, .iconst 1, 0, 0), (23, .goto 9, 0, 0), (26, .aload_n 0, 0, 0), (27, .iload_n 1, 0, 0), (28, .iload_n 2, 0, 0), (29, .invokevirtual 314, 258, 0), (32, .putfield 101, 10, 0), (35, .aload_n 0, 0, 0), (36, .getfield 101, 10, 0), (39, .ifCond .le 5, 0, 0), (42, .iconst 0, 0, 0), (43, .ireturn, 0, 0), (44, .iconst 0, 0, 0), (45, .istore 5, 0, 0), (47, .iconst 0, 0, 0), (48, .istore 6, 0, 0), (50, .iload 6, 0, 0), (52, .aload_n 0, 0, 0), (53, .iload_n 1, 0, 0), (54, .iload_n 2, 0, 0), (55, .invokevirtual 308, 260, 0), (58, .if_icmp .ge 217, 0, 0), (61, .iload 6, 0, 0), (63, .iload 5, 0, 0), (65, .iadd, 0, 0), (66, .istore 7, 0, 0), (68, .iconst 0, 0, 0), (69, .istore 8, 0, 0), (71, .iload 8, 0, 0), (73, .aload_n 0, 0, 0), (74, .getfield 108, 10, 1), (77, .if_icmp .ge 76, 0, 0), (80, .iconst 0, 0, 0), (81, .istore 9, 0, 0), (83, .iload 9, 0, 0), (85, .aload_n 0, 0, 0), (86, .iload 8, 0, 0), (88, .invokevirtual 126, 194, 0), (91, .if_icmp .ge 56, 0, 0), (94, .iload 6, 0, 0), (96, .aload_n 0, 0, 0), (97, .getfield 65, 10, 21), (100, .iload 8, 0, 0), (102, .iaload, 0, 0), (103, .iload_n 1, 0, 0), (104, .iload_n 2, 0, 0), (105, .invokestatic 333, 270, 2), (108, .iconst (-1), 0, 0), (109, .if_icmp .eq 38, 0, 0), (112, .iload 7, 0, 0), (114, .aload_n 0, 0, 0), (115, .iload 8, 0, 0), (117, .iload 9, 0, 0), (119, .iload 6, 0, 0), (121, .aload_n 0, 0, 0), (122, .getfield 65, 10, 21), (125, .iload 8, 0, 0), (127, .iaload, 0, 0), (128, .iload_n 1, 0, 0), (129, .iload_n 2, 0, 0), (130, .invokestatic 333, 270, 2), (133, .invokevirtual 411, 311, 0), (136, .invokestatic 167, 174, 2), (139, .istore 7, 0, 0), (141, .iinc 9 1, 0, 0), (144, .goto (-61), 0, 0), (147, .iinc 8 1, 0, 0), (150, .goto (-79), 0, 0), (153, .iload 7, 0, 0), (155, .iload 6, 0, 0), (157, .isub, 0, 0), (158, .istore 5, 0, 0), (160, .iconst 0, 0, 0), (161, .istore 8, 0, 0), (163, .iload 8, 0, 0), (165, .aload_n 0, 0, 0), (166, .getfield 108, 10, 1), (169, .if_icmp .ge 100, 0, 0), (172, .iload 6, 0, 0), (174, .aload_n 0, 0, 0), (175, .getfield 65, 10, 21), (178, .iload 8, 0, 0), (180, .iaload, 0, 0), (181, .iload_n 1, 0, 0), (182, .iload_n 2, 0, 0), (183, .invokestatic 333, 270, 2), (186, .istore 9, 0, 0), (188, .iload 9, 0, 0), (190, .iconst (-1), 0, 0), (191, .if_icmp .ne 6, 0, 0), (194, .goto 69, 0, 0), (197, .aload_n 0, 0, 0), (198, .getfield 7, 10, 2), (201, .iload 8, 0, 0), (203, .iaload, 0, 0), (204, .iconst 4, 0, 0), (205, .if_icmp .ne 21, 0, 0), (208, .iload 9, 0, 0), (210, .aload_n 0, 0, 0), (211, .iload 8, 0, 0), (213, .invokevirtual 161, 198, 0), (216, .iadd, 0, 0), (217, .iload_n 3, 0, 0), (218, .irem, 0, 0), (219, .ifCond .ne 7, 0, 0), (222, .iconst 1, 0, 0), (223, .goto 4, 0, 0), (226, .iconst 0, 0, 0), (227, .istore 10, 0, 0), (229, .aload_n 0, 0, 0), (230, .getfield 83, 10, 28), (233, .bipush 41, 0, 0), (235, .iload 8, 0, 0), (237, .imul, 0, 0), (238, .iload 9, 0, 0), (240, .iadd, 0, 0), (241, .iload 7, 0, 0), (243, .aload_n 0, 0, 0), (244, .iload 8, 0, 0), (246, .invokevirtual 148, 192, 0), (249, .iadd, 0, 0), (250, .iload 10, 0, 0), (252, .ifCond .eq 8, 0, 0), (255, .iload 4, 0, 0), (257, .goto 4, 0, 0), (260, .iconst 0, 0, 0), (261, .iadd, 0, 0), (262, .iastore, 0, 0), (263, .iinc 8 1, 0, 0), (266, .goto (-103), 0, 0), (269, .iinc 6 1, 0, 0), (272, .goto (-222), 0, 0), (275, .iload 5, 0, 0), (277, .ireturn, 0, 0)]
noncomputable def tb_313 : List TE := [(0, .aload_n 0, 0, 0), (1, .invokevirtual 137, 199, 0), (4, .ifCond .ne 5, 0, 0), (7, .iconst (-1), 0, 0), (8, .ireturn, 0, 0), (9, .aload_n 0, 0, 0), (10, .invokevirtual 402, 211, 0), (13, .istore_n 2, 0, 0), (14, .iload_n 1, 0, 0), (15, .iconst 1, 0, 0), (16, .if_icmp .ne 10, 0, 0), (19, .aload_n 0, 0, 0), (20, .getfield 141, 10, 12), (23, .goto 28, 0, 0), (26, .iload_n 1, 0, 0), (27, .iconst 2, 0, 0), (28, .if_icmp .ne 10, 0, 0), (31, .aload_n 0, 0, 0), (32, .invokevirtual 195, 208, 0), (35, .goto 16, 0, 0), (38, .iload_n 1, 0, 0), (39, .iconst 3, 0, 0), (40, .if_icmp .ne 10, 0, 0), (43, .aload_n 0, 0, 0), (44, .invokevirtual 199, 210, 0), (47, .goto 4, 0, 0), (50, .iload_n 2, 0, 0), (51, .ireturn, 0, 0)]
noncomputable def tb_314 : List TE := [(0, .aload_n 0, 0, 0), (1, .iconst 0, 0, 0), (2, .putfield 101, 10, 0), (5, .iload_n 1, 0, 0), (6, .ifCond .ne 8, 0, 0), (9, .aload_n 0, 0, 0), (10, .getfield 108, 10, 1), (13, .ireturn, 0, 0), (14, .iload_n 1, 0, 0), (15, .iconst 1, 0, 0), (16, .iconst 4, 0, 0), (17, .invokestatic 104, 173, 2), (20, .ifCond .eq 9, 0, 0), (23, .aload_n 0, 0, 0), (24, .iload_n 1, 0, 0), (25, .invokevirtual 414, 313, 0), (28, .ireturn, 0, 0), (29, .iload_n 1, 0, 0), (30, .iconst 5, 0, 0), (31, .if_icmp .ne 8, 0, 0), (34, .aload_n 0, 0, 0), (35, .invokevirtual 362, 280, 0), (38, .ireturn, 0, 0), (39, .iload_n 1, 0, 0), (40, .bipush 6, 0, 0), (42, .bipush 8, 0, 0), (44, .invokestatic 104, 173, 2), (47, .ifCond .eq 15, 0, 0), (50, .aload_n 0, 0, 0), (51, .getfield 37, 10, 11), (54, .iload_n 1, 0, 0), (55, .bipush 6, 0, 0), (57, .isub, 0, 0), (58, .iaload, 0, 0), (59, .goto 4, 0, 0), (62, .iconst (-1), 0, 0), (63, .ireturn, 0, 0)]
noncomputable def tb_315 : List TE := [(0, .iload_n 0, 0, 0), (1, .iload_n 0, 0, 0), (2, .iconst 1, 0, 0), (3, .iushr, 0, 0), (4, .ldc_w 265, 3, 0), (7, .iand, 0, 0), (8, .isub, 0, 0), (9, .istore_n 0, 0, 0), (10, .iload_n 0, 0, 0), (11, .ldc_w 266, 4, 0), (14, .iand, 0, 0), (15, .iload_n 0, 0, 0), (16, .iconst 2, 0, 0), (17, .iushr, 0, 0), (18, .ldc_w 266, 4, 0), (21, .iand, 0, 0), (22, .iadd, 0, 0), (23, .istore_n 0, 0, 0), (24, .iload_n 0, 0, 0), (25, .iload_n 0, 0, 0), (26, .iconst 4, 0, 0), (27, .iushr, 0, 0), (28, .iadd, 0, 0), (29, .ldc_w 267, 5, 0), (32, .iand, 0, 0), (33, .istore_n 0, 0, 0), (34, .iload_n 0, 0, 0), (35, .iload_n 0, 0, 0), (36, .bipush 8, 0, 0), (38, .iushr, 0, 0), (39, .iadd, 0, 0), (40, .istore_n 0, 0, 0), (41, .iload_n 0, 0, 0), (42, .iload_n 0, 0, 0), (43, .bipush 16, 0, 0), (45, .iushr, 0, 0), (46, .iadd, 0, 0), (47, .istore_n 0, 0, 0), (48, .iload_n 0, 0, 0), (49, .bipush 63, 0, 0), (51, .iand, 0, 0), (52, .ireturn, 0, 0)]
noncomputable def tb_316 : List TE := [(0, .iload_n 0, 0, 0), (1, .iload_n 1, 0, 0), (2, .idiv, 0, 0), (3, .istore_n 2, 0, 0), (4, .iload_n 0, 0, 0), (5, .iload_n 1, 0, 0), (6, .ixor, 0, 0), (7, .ifCond .ge 14, 0, 0), (10, .iload_n 2, 0, 0), (11, .iload_n 1, 0, 0), (12, .imul, 0, 0), (13, .iload_n 0, 0, 0), (14, .if_icmp .eq 7, 0, 0), (17, .iload_n 2, 0, 0), (18, .iconst 1, 0, 0), (19, .isub, 0, 0), (20, .ireturn, 0, 0), (21, .iload_n 2, 0, 0), (22, .ireturn, 0, 0)]
noncomputable def tb_317 : List TE := [(0, .iload_n 0, 0, 0), (1, .iload_n 1, 0, 0), (2, .irem, 0, 0), (3, .istore_n 2, 0, 0), (4, .iload_n 0, 0, 0), (5, .iload_n 1, 0, 0), (6, .ixor, 0, 0), (7, .ifCond .ge 11, 0, 0), (10, .iload_n 2, 0, 0), (11, .ifCond .eq 7, 0, 0), (14, .iload_n 2, 0, 0), (15, .iload_n 1, 0, 0), (16, .iadd, 0, 0), (17, .ireturn, 0, 0), (18, .iload_n 2, 0, 0), (19, .ireturn, 0, 0)]
noncomputable def tb_318 : List TE := [(0, .iload_n 0, 0, 0), (1, .iload_n 1, 0, 0), (2, .if_icmp .lt 7, 0, 0), (5, .iload_n 0, 0, 0), (6, .goto 4, 0, 0), (9, .iload_n 1, 0, 0), (10, .ireturn, 0, 0)]
noncomputable def tb_319 : List TE := [(0, .iload_n 0, 0, 0), (1, .iload_n 1, 0, 0), (2, .if_icmp .gt 7, 0, 0), (5, .iload_n 0, 0, 0), (6, .goto 4, 0, 0), (9, .iload_n 1, 0, 0), (10, .ireturn, 0, 0)]
noncomputable def tb_320 : List TE := [(0, .iconst 0, 0, 0), (1, .istore_n 2, 0, 0), (2, .aload_n 0, 0, 0), (3, .arraylength, 0, 0), (4, .istore_n 3, 0, 0), (5, .iload_n 2, 0, 0), (6, .iload_n 3, 0, 0), (7, .if_icmp .ge 13, 0, 0), (10, .aload_n 0, 0, 0), (11, .iload_n 2, 0, 0), (12, .iload_n 1, 0, 0), (13, .iastore, 0, 0), (14, .iinc 2 1, 0, 0), (17, .goto (-12), 0, 0), (20, .return_, 0, 0)]
noncomputable def tb_321 : List TE := [(0, .aload 6, 0, 0), (2, .iconst 0, 0, 0), (3, .aload_n 0, 0, 0), (4, .iload_n 1, 0, 0), (5, .iload_n 2, 0, 0), (6, .iload_n 3, 0, 0), (7, .iload 4, 0, 0), (9, .iload 5, 0, 0), (11, .invokevirtual 7, 102, 0), (14, .i2l, 0, 0), (15, .lastore, 0, 0), (16, .goto 11, 0, 0), (19, .astore 7, 0, 0), (21, .iconst 1, 0, 0), (22, .ireturn, 0, 0), (23, .astore 7, 0, 0), (25, .iconst 2, 0, 0), (26, .ireturn, 0, 0), (27, .iconst 0, 0, 0), (28, .ireturn, 0, 0)]
noncomputable def tb_322 : List TE := [(0, .aload_n 3, 0, 0), (1, .iconst 0, 0, 0), (2, .aload_n 0, 0, 0), (3, .iload_n 1, 0, 0), (4, .iload_n 2, 0, 0), (5, .invokevirtual 17, 103, 0), (8, .i2l, 0, 0), (9, .lastore, 0, 0), (10, .goto 11, 0, 0), (13, .astore 4, 0, 0), (15, .iconst 1, 0, 0), (16, .ireturn, 0, 0), (17, .astore 4, 0, 0), (19, .iconst 2, 0, 0), (20, .ireturn, 0, 0), (21, .iconst 0, 0, 0), (22, .ireturn, 0, 0)]
noncomputable def tb_323 : List TE := [(0, .aload 5, 0, 0), (2, .iconst 0, 0, 0), (3, .aload_n 0, 0, 0), (4, .iload_n 1, 0, 0), (5, .iload_n 2, 0, 0), (6, .iload_n 3, 0, 0), (7, .iload 4, 0, 0), (9, .invokevirtual 21, 104, 0), (12, .i2l, 0, 0), (13, .lastore, 0, 0), (14, .goto 11, 0, 0), (17, .astore 6, 0, 0), (19, .iconst 1, 0, 0), (20, .ireturn, 0, 0), (21, .astore 6, 0, 0), (23, .iconst 2, 0, 0), (24, .ireturn, 0, 0), (25, .iconst 0, 0, 0), (26, .ireturn, 0, 0)]
noncomputable def tb_324 : List TE := [(0, .aload_n 1, 0, 0), (1, .iconst 0, 0, 0), (2, .aload_n 0, 0, 0), (3, .invokevirtual 25, 105, 0), (6, .i2l, 0, 0), (7, .lastore, 0, 0), (8, .goto 6, 0, 0), (11, .astore_n 2, 0, 0), (12, .iconst 1, 0, 0), (13, .ireturn, 0, 0), (14, .iconst 0, 0, 0), (15, .ireturn, 0, 0)]
noncomputable def tb_325 : List TE := [(0, .aload_n 3, 0, 0), (1, .iconst 0, 0, 0), (2, .aload_n 0, 0, 0), (3, .iload_n 1, 0, 0), (4, .iload_n 2, 0, 0), (5, .invokevirtual 29, 106, 0), (8, .i2l, 0, 0), (9, .lastore, 0, 0), (10, .goto 11, 0, 0), (13, .astore 4, 0, 0), (15, .iconst 1, 0, 0), (16, .ireturn, 0, 0), (17, .astore 4, 0, 0), (19, .iconst 2, 0, 0), (20, .ireturn, 0, 0), (21, .iconst 0, 0, 0), (22, .ireturn, 0, 0)]
noncomputable def tb_326 : List TE := [(0, .aload_n 0, 0, 0), (1, .iload_n 1, 0, 0), (2, .iload_n 2, 0, 0), (3, .iload_n 3, 0, 0), (4, .iload 4, 0, 0), (6, .invokevirtual 34, 107, 0), (9, .goto 11, 0, 0), (12, .astore 5, 0, 0), (14, .iconst 1, 0, 0), (15, .ireturn, 0, 0), (16, .astore 5, 0, 0), (18, .iconst 2, 0, 0), (19, .ireturn, 0, 0), (20, .iconst 0, 0, 0), (21, .ireturn, 0, 0)]
noncomputable def tb_327 : List TE := [(0, .aload_n 3, 0, 0), (1, .iconst 0, 0, 0), (2, .aload_n 0, 0, 0), (3, .iload_n 1, 0, 0), (4, .iload_n 2, 0, 0), (5, .invokevirtual 38, 108, 0), (8, .i2l, 0, 0), (9, .lastore, 0, 0), (10, .goto 11, 0, 0), (13, .astore 4, 0, 0), (15, .iconst 1, 0, 0), (16, .ireturn, 0, 0), (17, .astore 4, 0, 0), (19, .iconst 2, 0, 0), (20, .ireturn, 0, 0), (21, .iconst 0, 0, 0), (22, .ireturn, 0, 0)]
noncomputable def tb_328 : List TE := [(0, .aload_n 3, 0, 0), (1, .iconst 0, 0, 0), (2, .aload_n 0, 0, 0), (3, .iload_n 1, 0, 0), (4, .iload_n 2, 0, 0), (5, .invokevirtual 41, 109, 0), (8, .i2l, 0, 0), (9, .lastore, 0, 0), (10, .goto 11, 0, 0), (13, .astore 4, 0, 0), (15, .iconst 1, 0, 0), (16, .ireturn, 0, 0), (17, .astore 4, 0, 0), (19, .iconst 2, 0, 0), (20, .ireturn, 0, 0), (21, .iconst 0, 0, 0), (22, .ireturn, 0, 0)]
noncomputable def tb_329 : List TE := [(0, .aload_n 3, 0, 0), (1, .iconst 0, 0, 0), (2, .aload_n 0, 0, 0), (3, .iload_n 1, 0, 0), (4, .iload_n 2, 0, 0), (5, .invokevirtual 46, 111, 0), (8, .i2l, 0, 0), (9, .lastore, 0, 0), (10, .goto 15, 0, 0), (13, .astore 4, 0, 0), (15, .iconst 1, 0, 0), (16, .ireturn, 0, 0), (17, .astore 4, 0, 0), (19, .iconst 2, 0, 0), (20, .ireturn, 0, 0), (21, .astore 4, 0, 0), (23, .iconst 3, 0, 0), (24, .ireturn, 0, 0), (25, .iconst 0, 0, 0), (26, .ireturn, 0, 0)]
noncomputable def tb_330 : List TE := [(0, .aload 4, 0, 0), (2, .iconst 0, 0, 0), (3, .aload_n 0, 0, 0), (4, .iload_n 1, 0, 0), (5, .iload_n 2, 0, 0), (6, .iload_n 3, 0, 0), (7, .invokevirtual 49, 112, 0), (10, .i2l, 0, 0), (11, .lastore, 0, 0), (12, .goto 15, 0, 0), (15, .astore 5, 0, 0), (17, .iconst 1, 0, 0), (18, .ireturn, 0, 0), (19, .astore 5, 0, 0), (21, .iconst 2, 0, 0), (22, .ireturn, 0, 0), (23, .astore 5, 0, 0), (25, .iconst 3, 0, 0), (26, .ireturn, 0, 0), (27, .iconst 0, 0, 0), (28, .ireturn, 0, 0)]
noncomputable def tb_331 : List TE := [(0, .aload_n 3, 0, 0), (1, .iconst 0, 0, 0), (2, .aload_n 0, 0, 0), (3, .iload_n 1, 0, 0), (4, .iload_n 2, 0, 0), (5, .invokevirtual 53, 113, 0), (8, .i2l, 0, 0), (9, .lastore, 0, 0), (10, .goto 15, 0, 0), (13, .astore 4, 0, 0), (15, .iconst 1, 0, 0), (16, .ireturn, 0, 0), (17, .astore 4, 0, 0), (19, .iconst 2, 0, 0), (20, .ireturn, 0, 0), (21, .astore 4, 0, 0), (23, .iconst 3, 0, 0), (24, .ireturn, 0, 0), (25, .iconst 0, 0, 0), (26, .ireturn, 0, 0)]
noncomputable def tb_332 : List TE := [(0, .aload_n 2, 0, 0), (1, .iconst 0, 0, 0), (2, .aload_n 0, 0, 0), (3, .iload_n 1, 0, 0), (4, .invokevirtual 56, 114, 0), (7, .i2l, 0, 0), (8, .lastore, 0, 0), (9, .goto 6, 0, 0), (12, .astore_n 3, 0, 0), (13, .iconst 1, 0, 0), (14, .ireturn, 0, 0), (15, .iconst 0, 0, 0), (16, .ireturn, 0, 0)]
noncomputable def tb_333 : List TE := [(0, .aload_n 2, 0, 0), (1, .iconst 0, 0, 0), (2, .aload_n 0, 0, 0), (3, .iload_n 1, 0, 0), (4, .invokevirtual 60, 115, 0), (7, .ifCond .eq 7, 0, 0), (10, .lconst 1, 0, 0), (11, .goto 4, 0, 0), (14, .lconst 0, 0, 0), (15, .lastore, 0, 0), (16, .goto 9, 0, 0), (19, .astore_n 3, 0, 0), (20, .iconst 1, 0, 0), (21, .ireturn, 0, 0), (22, .astore_n 3, 0, 0), (23, .iconst 2, 0, 0), (24, .ireturn, 0, 0), (25, .iconst 0, 0, 0), (26, .ireturn, 0, 0)]
noncomputable def tb_334 : List TE := [(0, .aload_n 1, 0, 0), (1, .iconst 0, 0, 0), (2, .aload_n 0, 0, 0), (3, .invokevirtual 64, 116, 0), (6, .i2l, 0, 0), (7, .lastore, 0, 0), (8, .goto 6, 0, 0), (11, .astore_n 2, 0, 0), (12, .iconst 1, 0, 0), (13, .ireturn, 0, 0), (14, .iconst 0, 0, 0), (15, .ireturn, 0, 0)]
noncomputable def tb_335 : List TE := [(0, .aload_n 3, 0, 0), (1, .iconst 0, 0, 0), (2, .aload_n 0, 0, 0), (3, .iload_n 1, 0, 0), (4, .iload_n 2, 0, 0), (5, .invokevirtual 67, 117, 0), (8, .i2l, 0, 0), (9, .lastore, 0, 0), (10, .goto 15, 0, 0), (13, .astore 4, 0, 0), (15, .iconst 1, 0, 0), (16, .ireturn, 0, 0), (17, .astore 4, 0, 0), (19, .iconst 2, 0, 0), (20, .ireturn, 0, 0), (21, .astore 4, 0, 0), (23, .iconst 3, 0, 0), (24, .ireturn, 0, 0), (25, .iconst 0, 0, 0), (26, .ireturn, 0, 0)]
noncomputable def tb_336 : List TE := [(0, .aload 4, 0, 0), (2, .iconst 0, 0, 0), (3, .aload_n 0, 0, 0), (4, .iload_n 1, 0, 0), (5, .iload_n 2, 0, 0), (6, .iload_n 3, 0, 0), (7, .invokevirtual 70, 118, 0), (10, .i2l, 0, 0), (11, .lastore, 0, 0), (12, .goto 15, 0, 0), (15, .astore 5, 0, 0), (17, .iconst 1, 0, 0), (18, .ireturn, 0, 0), (19, .astore 5, 0, 0), (21, .iconst 2, 0, 0), (22, .ireturn, 0, 0), (23, .astore 5, 0, 0), (25, .iconst 3, 0, 0), (26, .ireturn, 0, 0), (27, .iconst 0, 0, 0), (28, .ireturn, 0, 0)]
noncomputable def tb_337 : List TE := [(0, .aload_n 3, 0, 0), (1, .iconst 0, 0, 0), (2, .aload_n 0, 0, 0), (3, .iload_n 1, 0, 0), (4, .iload_n 2, 0, 0), (5, .invokevirtual 73, 119, 0), (8, .i2l, 0, 0), (9, .lastore, 0, 0), (10, .goto 15, 0, 0), (13, .astore 4, 0, 0), (15, .iconst 1, 0, 0), (16, .ireturn, 0, 0), (17, .astore 4, 0, 0), (19, .iconst 2, 0, 0), (20, .ireturn, 0, 0), (21, .astore 4, 0, 0), (23, .iconst 3, 0, 0), (24, .ireturn, 0, 0), (25, .iconst 0, 0, 0), (26, .ireturn, 0, 0)]
noncomputable def tb_338 : List TE := [(0, .aload_n 2, 0, 0), (1, .iconst 0, 0, 0), (2, .aload_n 0, 0, 0), (3, .iload_n 1, 0, 0), (4, .invokevirtual 76, 120, 0), (7, .i2l, 0, 0), (8, .lastore, 0, 0), (9, .goto 9, 0, 0), (12, .astore_n 3, 0, 0), (13, .iconst 1, 0, 0), (14, .ireturn, 0, 0), (15, .astore_n 3, 0, 0), (16, .iconst 2, 0, 0), (17, .ireturn, 0, 0), (18, .iconst 0, 0, 0), (19, .ireturn, 0, 0)]
noncomputable def tb_339 : List TE := [(0, .aload_n 1, 0, 0), (1, .iconst 0, 0, 0), (2, .aload_n 0, 0, 0), (3, .invokevirtual 79, 121, 0), (6, .i2l, 0, 0), (7, .lastore, 0, 0), (8, .goto 6, 0, 0), (11, .astore_n 2, 0, 0), (12, .iconst 1, 0, 0), (13, .ireturn, 0, 0), (14, .iconst 0, 0, 0), (15, .ireturn, 0, 0)]
noncomputable def tb_340 : List TE := [(0, .aload_n 3, 0, 0), (1, .iconst 0, 0, 0), (2, .aload_n 0, 0, 0), (3, .iload_n 1, 0, 0), (4, .iload_n 2, 0, 0), (5, .invokevirtual 82, 122, 0), (8, .i2l, 0, 0), (9, .lastore, 0, 0), (10, .goto 15, 0, 0), (13, .astore 4, 0, 0), (15, .iconst 1, 0, 0), (16, .ireturn, 0, 0), (17, .astore 4, 0, 0), (19, .iconst 2, 0, 0), (20, .ireturn, 0, 0), (21, .astore 4, 0, 0), (23, .iconst 3, 0, 0), (24, .ireturn, 0, 0), (25, .iconst 0, 0, 0), (26, .ireturn, 0, 0)]
noncomputable def tb_341 : List TE := [(0, .aload 4, 0, 0), (2, .iconst 0, 0, 0), (3, .aload_n 0, 0, 0), (4, .iload_n 1, 0, 0), (5, .iload_n 2, 0, 0), (6, .iload_n 3, 0, 0), (7, .invokevirtual 85, 123, 0), (10, .i2l, 0, 0), (11, .lastore, 0, 0), (12, .goto 19, 0, 0), (15, .astore 5, 0, 0), (17, .iconst 1, 0, 0), (18, .ireturn, 0, 0), (19, .astore 5, 0, 0), (21, .iconst 2, 0, 0), (22, .ireturn, 0, 0), (23, .astore 5, 0, 0), (25, .iconst 3, 0, 0), (26, .ireturn, 0, 0), (27, .astore 5, 0, 0), (29, .iconst 4, 0, 0), (30, .ireturn, 0, 0), (31, .iconst 0, 0, 0), (32, .ireturn, 0, 0)]
noncomputable def tb_342 : List TE := [(0, .aload_n 3, 0, 0), (1, .iconst 0, 0, 0), (2, .aload_n 0, 0, 0), (3, .iload_n 1, 0, 0), (4, .iload_n 2, 0, 0), (5, .invokevirtual 88, 124, 0), (8, .i2l, 0, 0), (9, .lastore, 0, 0), (10, .goto 11, 0, 0), (13, .astore 4, 0, 0), (15, .iconst 1, 0, 0), (16, .ireturn, 0, 0), (17, .astore 4, 0, 0), (19, .iconst 2, 0, 0), (20, .ireturn, 0, 0), (21, .iconst 0, 0, 0), (22, .ireturn, 0, 0)]
noncomputable def tb_343 : List TE := [(0, .aload 5, 0, 0), (2, .iconst 0, 0, 0), (3, .aload_n 0, 0, 0), (4, .iload_n 1, 0, 0), (5, .iload_n 2, 0, 0), (6, .iload_n 3, 0, 0), (7, .iload 4, 0, 0), (9, .invokevirtual 91, 125, 0), (12, .i2l, 0, 0), (13, .lastore, 0, 0), (14, .goto 15, 0, 0), (17, .astore 6, 0, 0), (19, .iconst 1, 0, 0), (20, .ireturn, 0, 0), (21, .astore 6, 0, 0), (23, .iconst 2, 0, 0), (24, .ireturn, 0, 0), (25, .astore 6, 0, 0), (27, .iconst 3, 0, 0), (28, .ireturn, 0, 0), (29, .iconst 0, 0, 0), (30, .ireturn, 0, 0)]
noncomputable def tb_344 : List TE := [(0, .aload 4, 0, 0), (2, .iconst 0, 0, 0), (3, .aload_n 0, 0, 0), (4, .iload_n 1, 0, 0), (5, .iload_n 2, 0, 0), (6, .iload_n 3, 0, 0), (7, .invokevirtual 94, 126, 0), (10, .i2l, 0, 0), (11, .lastore, 0, 0), (12, .goto 15, 0, 0), (15, .astore 5, 0, 0), (17, .iconst 1, 0, 0), (18, .ireturn, 0, 0), (19, .astore 5, 0, 0), (21, .iconst 2, 0, 0), (22, .ireturn, 0, 0), (23, .astore 5, 0, 0), (25, .iconst 3, 0, 0), (26, .ireturn, 0, 0), (27, .iconst 0, 0, 0), (28, .ireturn, 0, 0)]
noncomputable def tb_345 : List TE := [(0, .aload 5, 0, 0), (2, .iconst 0, 0, 0), (3, .aload_n 0, 0, 0), (4, .iload_n 1, 0, 0), (5, .iload_n 2, 0, 0), (6, .iload_n 3, 0, 0), (7, .iload 4, 0, 0), (9, .invokevirtual 97, 127, 0), (12, .i2l, 0, 0), (13, .lastore, 0, 0), (14, .goto 11, 0, 0), (17, .astore 6, 0, 0), (19, .iconst 1, 0, 0), (20, .ireturn, 0, 0), (21, .astore 6, 0, 0), (23, .iconst 2, 0, 0), (24, .ireturn, 0, 0), (25, .iconst 0, 0, 0), (26, .ireturn, 0, 0)]
noncomputable def tb_346 : List TE := [(0, .aload 4, 0, 0), (2, .iconst 0, 0, 0), (3, .aload_n 0, 0, 0), (4, .iload_n 1, 0, 0), (5, .iload_n 2, 0, 0), (6, .iload_n 3, 0, 0), (7, .invokevirtual 100, 128, 0), (10, .i2l, 0, 0), (11, .lastore, 0, 0), (12, .goto 15, 0, 0), (15, .astore 5, 0, 0), (17, .iconst 1, 0, 0), (18, .ireturn, 0, 0), (19, .astore 5, 0, 0), (21, .iconst 2, 0, 0), (22, .ireturn, 0, 0), (23, .astore 5, 0, 0), (25, .iconst 3, 0, 0), (26, .ireturn, 0, 0), (27, .iconst 0, 0, 0), (28, .ireturn, 0, 0)]
noncomputable def tb_347 : List TE := [(0, .aload 4, 0, 0), (2, .iconst 0, 0, 0), (3, .aload_n 0, 0, 0), (4, .iload_n 1, 0, 0), (5, .iload_n 2, 0, 0), (6, .iload_n 3, 0, 0), (7, .invokevirtual 103, 129, 0), (10, .i2l, 0, 0), (11, .lastore, 0, 0), (12, .goto 11, 0, 0), (15, .astore 5, 0, 0), (17, .iconst 1, 0, 0), (18, .ireturn, 0, 0), (19, .astore 5, 0, 0), (21, .iconst 2, 0, 0), (22, .ireturn, 0, 0), (23, .iconst 0, 0, 0), (24, .ireturn, 0, 0)]
noncomputable def tb_348 : List TE := [(0, .aload 5, 0, 0), (2, .iconst 0, 0, 0), (3, .aload_n 0, 0, 0), (4, .iload_n 1, 0, 0), (5, .iload_n 2, 0, 0), (6, .iload_n 3, 0, 0), (7, .iload 4, 0, 0), (9, .invokevirtual 106, 130, 0), (12, .ifCond .eq 7, 0, 0), (15, .lconst 1, 0, 0), (16, .goto 4, 0, 0), (19, .lconst 0, 0, 0), (20, .lastore, 0, 0), (21, .goto 15, 0, 0), (24, .astore 6, 0, 0), (26, .iconst 1, 0, 0), (27, .ireturn, 0, 0), (28, .astore 6, 0, 0), (30, .iconst 2, 0, 0), (31, .ireturn, 0, 0), (32, .astore 6, 0, 0), (34, .iconst 3, 0, 0), (35, .ireturn, 0, 0), (36, .iconst 0, 0, 0), (37, .ireturn, 0, 0)]
noncomputable def tb_349 : List TE := [(0, .aload_n 3, 0, 0), (1, .iconst 0, 0, 0), (2, .aload_n 0, 0, 0), (3, .iload_n 1, 0, 0), (4, .iload_n 2, 0, 0), (5, .invokevirtual 110, 131, 0), (8, .i2l, 0, 0), (9, .lastore, 0, 0), (10, .goto 11, 0, 0), (13, .astore 4, 0, 0), (15, .iconst 1, 0, 0), (16, .ireturn, 0, 0), (17, .astore 4, 0, 0), (19, .iconst 2, 0, 0), (20, .ireturn, 0, 0), (21, .iconst 0, 0, 0), (22, .ireturn, 0, 0)]
noncomputable def tb_350 : List TE := [(0, .aload 4, 0, 0), (2, .iconst 0, 0, 0), (3, .aload_n 0, 0, 0), (4, .iload_n 1, 0, 0), (5, .iload_n 2, 0, 0), (6, .iload_n 3, 0, 0), (7, .invokevirtual 114, 132, 0), (10, .i2l, 0, 0), (11, .lastore, 0, 0), (12, .goto 11, 0, 0), (15, .astore 5, 0, 0), (17, .iconst 1, 0, 0), (18, .ireturn, 0, 0), (19, .astore 5, 0, 0), (21, .iconst 2, 0, 0), (22, .ireturn, 0, 0), (23, .iconst 0, 0, 0), (24, .ireturn, 0, 0)]
noncomputable def tb_351 : List TE := [(0, .aload_n 2, 0, 0), (1, .iconst 0, 0, 0), (2, .aload_n 0, 0, 0), (3, .iload_n 1, 0, 0), (4, .invokevirtual 118, 133, 0), (7, .i2l, 0, 0), (8, .lastore, 0, 0), (9, .goto 9, 0, 0), (12, .astore_n 3, 0, 0), (13, .iconst 1, 0, 0), (14, .ireturn, 0, 0), (15, .astore_n 3, 0, 0), (16, .iconst 2, 0, 0), (17, .ireturn, 0, 0), (18, .iconst 0, 0, 0), (19, .ireturn, 0, 0)]
noncomputable def tb_352 : List TE := [(0, .aload 4, 0, 0), (2, .iconst 0, 0, 0), (3, .aload_n 0, 0, 0), (4, .iload_n 1, 0, 0), (5, .iload_n 2, 0, 0), (6, .iload_n 3, 0, 0), (7, .invokevirtual 121, 134, 0), (10, .i2l, 0, 0), (11, .lastore, 0, 0), (12, .goto 15, 0, 0), (15, .astore 5, 0, 0), (17, .iconst 1, 0, 0), (18, .ireturn, 0, 0), (19, .astore 5, 0, 0), (21, .iconst 2, 0, 0), (22, .ireturn, 0, 0), (23, .astore 5, 0, 0), (25, .iconst 3, 0, 0), (26, .ireturn, 0, 0), (27, .iconst 0, 0, 0), (28, .ireturn, 0, 0)]
noncomputable def tb_353 : List TE := [(0, .aload 6, 0, 0), (2, .iconst 0, 0, 0), (3, .aload_n 0, 0, 0), (4, .iload_n 1, 0, 0), (5, .iload_n 2, 0, 0), (6, .iload_n 3, 0, 0), (7, .iload 4, 0, 0), (9, .iload 5, 0, 0), (11, .invokevirtual 124, 135, 0), (14, .i2l, 0, 0), (15, .lastore, 0, 0), (16, .goto 15, 0, 0), (19, .astore 7, 0, 0), (21, .iconst 1, 0, 0), (22, .ireturn, 0, 0), (23, .astore 7, 0, 0), (25, .iconst 2, 0, 0), (26, .ireturn, 0, 0), (27, .astore 7, 0, 0), (29, .iconst 3, 0, 0), (30, .ireturn, 0, 0), (31, .iconst 0, 0, 0), (32, .ireturn, 0, 0)]
noncomputable def tb_354 : List TE := [(0, .aload_n 2, 0, 0), (1, .iconst 0, 0, 0), (2, .aload_n 0, 0, 0), (3, .iload_n 1, 0, 0), (4, .invokevirtual 127, 136, 0), (7, .i2l, 0, 0), (8, .lastore, 0, 0), (9, .goto 6, 0, 0), (12, .astore_n 3, 0, 0), (13, .iconst 1, 0, 0), (14, .ireturn, 0, 0), (15, .iconst 0, 0, 0), (16, .ireturn, 0, 0)]
noncomputable def tb_355 : List TE := [(0, .aload_n 1, 0, 0), (1, .iconst 0, 0, 0), (2, .aload_n 0, 0, 0), (3, .invokevirtual 131, 137, 0), (6, .i2l, 0, 0), (7, .lastore, 0, 0), (8, .goto 6, 0, 0), (11, .astore_n 2, 0, 0), (12, .iconst 1, 0, 0), (13, .ireturn, 0, 0), (14, .iconst 0, 0, 0), (15, .ireturn, 0, 0)]
noncomputable def tb_356 : List TE := [(0, .aload_n 2, 0, 0), (1, .iconst 0, 0, 0), (2, .aload_n 0, 0, 0), (3, .iload_n 1, 0, 0), (4, .invokevirtual 134, 138, 0), (7, .i2l, 0, 0), (8, .lastore, 0, 0), (9, .goto 9, 0, 0), (12, .astore_n 3, 0, 0), (13, .iconst 1, 0, 0), (14, .ireturn, 0, 0), (15, .astore_n 3, 0, 0), (16, .iconst 2, 0, 0), (17, .ireturn, 0, 0), (18, .iconst 0, 0, 0), (19, .ireturn, 0, 0)]
noncomputable def tb_357 : List TE := [(0, .aload_n 1, 0, 0), (1, .iconst 0, 0, 0), (2, .aload_n 0, 0, 0), (3, .invokevirtual 137, 139, 0), (6, .i2l, 0, 0), (7, .lastore, 0, 0), (8, .goto 6, 0, 0), (11, .astore_n 2, 0, 0), (12, .iconst 1, 0, 0), (13, .ireturn, 0, 0), (14, .iconst 0, 0, 0), (15, .ireturn, 0, 0)]
noncomputable def tb_358 : List TE := [(0, .aload_n 2, 0, 0), (1, .iconst 0, 0, 0), (2, .aload_n 0, 0, 0), (3, .iload_n 1, 0, 0), (4, .invokevirtual 140, 140, 0), (7, .i2l, 0, 0), (8, .lastore, 0, 0), (9, .goto 9, 0, 0), (12, .astore_n 3, 0, 0), (13, .iconst 1, 0, 0), (14, .ireturn, 0, 0), (15, .astore_n 3, 0, 0), (16, .iconst 2, 0, 0), (17, .ireturn, 0, 0), (18, .iconst 0, 0, 0), (19, .ireturn, 0, 0)]
noncomputable def tb_359 : List TE := [(0, .aload_n 2, 0, 0), (1, .iconst 0, 0, 0), (2, .aload_n 0, 0, 0), (3, .iload_n 1, 0, 0), (4, .invokevirtual 143, 141, 0), (7, .i2l, 0, 0), (8, .lastore, 0, 0), (9, .goto 9, 0, 0), (12, .astore_n 3, 0, 0), (13, .iconst 1, 0, 0), (14, .ireturn, 0, 0), (15, .astore_n 3, 0, 0), (16, .iconst 2, 0, 0), (17, .ireturn, 0, 0), (18, .iconst 0, 0, 0), (19, .ireturn, 0, 0)]
noncomputable def tb_360 : List TE := [(0, .aload_n 3, 0, 0), (1, .iconst 0, 0, 0), (2, .aload_n 0, 0, 0), (3, .iload_n 1, 0, 0), (4, .iload_n 2, 0, 0), (5, .invokevirtual 146, 142, 0), (8, .i2l, 0, 0), (9, .lastore, 0, 0), (10, .goto 15, 0, 0), (13, .astore 4, 0, 0), (15, .iconst 1, 0, 0), (16, .ireturn, 0, 0), (17, .astore 4, 0, 0), (19, .iconst 2, 0, 0), (20, .ireturn, 0, 0), (21, .astore 4, 0, 0), (23, .iconst 3, 0, 0), (24, .ireturn, 0, 0), (25, .iconst 0, 0, 0), (26, .ireturn, 0, 0)]
noncomputable def tb_361 : List TE := [(0, .aload 4, 0, 0), (2, .iconst 0, 0, 0), (3, .aload_n 0, 0, 0), (4, .iload_n 1, 0, 0), (5, .iload_n 2, 0, 0), (6, .iload_n 3, 0, 0), (7, .invokevirtual 149, 143, 0), (10, .i2l, 0, 0), (11, .lastore, 0, 0), (12, .goto 15, 0, 0), (15, .astore 5, 0, 0), (17, .iconst 1, 0, 0), (18, .ireturn, 0, 0), (19, .astore 5, 0, 0), (21, .iconst 2, 0, 0), (22, .ireturn, 0, 0), (23, .astore 5, 0, 0), (25, .iconst 3, 0, 0), (26, .ireturn, 0, 0), (27, .iconst 0, 0, 0), (28, .ireturn, 0, 0)]
noncomputable def tb_362 : List TE := [(0, .aload 4, 0, 0), (2, .iconst 0, 0, 0), (3, .aload_n 0, 0, 0), (4, .iload_n 1, 0, 0), (5, .iload_n 2, 0, 0), (6, .iload_n 3, 0, 0), (7, .invokevirtual 152, 144, 0), (10, .i2l, 0, 0), (11, .lastore, 0, 0), (12, .goto 15, 0, 0), (15, .astore 5, 0, 0), (17, .iconst 1, 0, 0), (18, .ireturn, 0, 0), (19, .astore 5, 0, 0), (21, .iconst 2, 0, 0), (22, .ireturn, 0, 0), (23, .astore 5, 0, 0), (25, .iconst 3, 0, 0), (26, .ireturn, 0, 0), (27, .iconst 0, 0, 0), (28, .ireturn, 0, 0)]
noncomputable def tb_363 : List TE := [(0, .aload_n 3, 0, 0), (1, .iconst 0, 0, 0), (2, .aload_n 0, 0, 0), (3, .iload_n 1, 0, 0), (4, .iload_n 2, 0, 0), (5, .invokevirtual 155, 145, 0), (8, .i2l, 0, 0), (9, .lastore, 0, 0), (10, .goto 11, 0, 0), (13, .astore 4, 0, 0), (15, .iconst 1, 0, 0), (16, .ireturn, 0, 0), (17, .astore 4, 0, 0), (19, .iconst 2, 0, 0), (20, .ireturn, 0, 0), (21, .iconst 0, 0, 0), (22, .ireturn, 0, 0)]
noncomputable def tb_364 : List TE := [(0, .aload 5, 0, 0), (2, .iconst 0, 0, 0), (3, .aload_n 0, 0, 0), (4, .iload_n 1, 0, 0), (5, .iload_n 2, 0, 0), (6, .iload_n 3, 0, 0), (7, .iload 4, 0, 0), (9, .invokevirtual 158, 146, 0), (12, .i2l, 0, 0), (13, .lastore, 0, 0), (14, .goto 11, 0, 0), (17, .astore 6, 0, 0), (19, .iconst 1, 0, 0), (20, .ireturn, 0, 0), (21, .astore 6, 0, 0), (23, .iconst 2, 0, 0), (24, .ireturn, 0, 0), (25, .iconst 0, 0, 0), (26, .ireturn, 0, 0)]
noncomputable def tb_365 : List TE := [(0, .aload_n 2, 0, 0), (1, .iconst 0, 0, 0), (2, .aload_n 0, 0, 0), (3, .iload_n 1, 0, 0), (4, .invokevirtual 161, 147, 0), (7, .i2l, 0, 0), (8, .lastore, 0, 0), (9, .goto 9, 0, 0), (12, .astore_n 3, 0, 0), (13, .iconst 1, 0, 0), (14, .ireturn, 0, 0), (15, .astore_n 3, 0, 0), (16, .iconst 2, 0, 0), (17, .ireturn, 0, 0), (18, .iconst 0, 0, 0), (19, .ireturn, 0, 0)]
noncomputable def tb_366 : List TE := [(0, .aload_n 2, 0, 0), (1, .iconst 0, 0, 0), (2, .aload_n 0, 0, 0), (3, .iload_n 1, 0, 0), (4, .invokevirtual 164, 148, 0), (7, .i2l, 0, 0), (8, .lastore, 0, 0), (9, .goto 9, 0, 0), (12, .astore_n 3, 0, 0), (13, .iconst 1, 0, 0), (14, .ireturn, 0, 0), (15, .astore_n 3, 0, 0), (16, .iconst 2, 0, 0), (17, .ireturn, 0, 0), (18, .iconst 0, 0, 0), (19, .ireturn, 0, 0)]
noncomputable def tb_367 : List TE := [(0, .aload_n 2, 0, 0), (1, .iconst 0, 0, 0), (2, .aload_n 0, 0, 0), (3, .iload_n 1, 0, 0), (4, .invokevirtual 167, 149, 0), (7, .i2l, 0, 0), (8, .lastore, 0, 0), (9, .goto 9, 0, 0), (12, .astore_n 3, 0, 0), (13, .iconst 1, 0, 0), (14, .ireturn, 0, 0), (15, .astore_n 3, 0, 0), (16, .iconst 2, 0, 0), (17, .ireturn, 0, 0), (18, .iconst 0, 0, 0), (19, .ireturn, 0, 0)]
noncomputable def tb_368_0 : List TE := [(0, .new 8, 9, 0), (3, .dup, 0, 0), (4, .invokespecial 170, 101, 4), (7, .astore_n 1, 0, 0), (8, .new 171, 10, 0), (11, .dup, 0, 0), (12, .invokespecial 173, 171, 4), (15, .astore_n 2, 0, 0), (16, .iconst 1, 0, 0), (17, .newarray .long, 0, 0), (19, .astore_n 3, 0, 0), (20, .iconst 0, 0, 0), (21, .istore 4, 0, 0), (23, .iload 4, 0, 0), (25, .aload_n 0, 0, 0), (26, .arraylength, 0, 0), (27, .bipush 6, 0, 0), (29, .isub, 0, 0), (30, .if_icmp .gt 3605, 0, 0), (33, .aload_n 0, 0, 0), (34, .iload 4, 0, 0), (36, .iaload, 0, 0), (37, .bipush 63, 0, 0), (39, .iand, 0, 0), (40, .tableswitch 3589 0 48 #[212, 316, 384, 476, 520, 588, 661, 729, 797, 810, 878, 958, 1026, 1082, 1145, 1189, 1257, 1337, 1405, 1461, 1505, 1573, 1653, 1721, 1813, 1893, 1985, 2065, 2145, 2244, 2328, 2424, 2480, 2560, 2664, 2736, 2780, 2836, 2880, 2936, 2992, 3060, 3156, 3236, 3304, 3396, 3452, 3508, 3564], 212, 0), (252, .aload_n 1, 0, 0), (253, .aload_n 0, 0, 0), (254, .iload 4, 0, 0), (256, .iconst 1, 0, 0), (257, .iadd, 0, 0), (258, .iaload, 0, 0), (259, .aload_n 0, 0, 0), (260, .iload 4, 0, 0), (262, .iconst 2, 0, 0), (263, .iadd, 0, 0), (264, .iaload, 0, 0), (265, .aload_n 0, 0, 0), (266, .iload 4, 0, 0), (268, .iconst 3, 0, 0), (269, .iadd, 0, 0), (270, .iaload, 0, 0), (271, .aload_n 0, 0, 0), (272, .iload 4, 0, 0), (274, .iconst 4, 0, 0), (275, .iadd, 0, 0), (276, .iaload, 0, 0), (277, .aload_n 0, 0, 0), (278, .iload 4, 0, 0), (280, .iconst 5, 0, 0), (281, .iadd, 0, 0), (282, .iaload, 0, 0), (283, .aload_n 3, 0, 0), (284, .invokestatic 174, 321, 8), (287, .istore 5, 0, 0), (289, .aload_n 2, 0, 0), (290, .aload_n 0, 0, 0), (291, .iload 4, 0, 0), (293, .iconst 1, 0, 0), (294, .iadd, 0, 0), (295, .iaload, 0, 0), (296, .aload_n 0, 0, 0), (297, .iload 4, 0, 0), (299, .iconst 2, 0, 0), (300, .iadd, 0, 0), (301, .iaload, 0, 0), (302, .aload_n 0, 0, 0), (303, .iload 4, 0, 0), (305, .iconst 3, 0, 0), (306, .iadd, 0, 0), (307, .iaload, 0, 0), (308, .aload_n 0, 0, 0), (309, .iload 4, 0, 0), (311, .iconst 4, 0, 0), (312, .iadd, 0, 0), (313, .iaload, 0, 0), (314, .aload_n 0, 0, 0), (315, .iload 4, 0, 0), (317, .iconst 5, 0, 0), (318, .iadd, 0, 0), (319, .iaload, 0, 0), (320, .invokevirtual 179, 182, 0), (323, .istore 6, 0, 0), (325, .aload_n 2, 0, 0), (326, .invokevirtual 180, 172, 0), (329, .iload 5, 0, 0), (331, .if_icmp .eq 5, 0, 0), (334, .iconst 0, 0, 0), (335, .ireturn, 0, 0), (336, .iload 5, 0, 0), (338, .ifCond .ne 15, 0, 0), (341, .aload_n 3, 0, 0), (342, .iconst 0, 0, 0), (343, .laload, 0, 0), (344, .iload 6, 0, 0), (346, .i2l, 0, 0), (347, .lcmp, 0, 0), (348, .ifCond .eq 5, 0, 0), (351, .iconst 0, 0, 0), (352, .ireturn, 0, 0), (353, .goto 3276, 0, 0), (356, .aload_n 1, 0, 0), (357, .aload_n 0, 0, 0), (358, .iload 4, 0, 0), (360, .iconst 1, 0, 0), (361, .iadd, 0, 0), (362, .iaload, 0, 0), (363, .aload_n 0, 0, 0), (364, .iload 4, 0, 0), (366, .iconst 2, 0, 0), (367, .iadd, 0, 0), (368, .iaload, 0, 0), (369, .aload_n 3, 0, 0), (370, .invokestatic 183, 322, 8), (373, .istore 5, 0, 0), (375, .aload_n 2, 0, 0), (376, .aload_n 0, 0, 0), (377, .iload 4, 0, 0), (379, .iconst 1, 0, 0), (380, .iadd, 0, 0), (381, .iaload, 0, 0), (382, .aload_n 0, 0, 0), (383, .iload 4, 0, 0), (385, .iconst 2, 0, 0), (386, .iadd, 0, 0), (387, .iaload, 0, 0), (388, .invokevirtual 186, 183, 0), (391, .istore 6, 0, 0), (393, .aload_n 2, 0, 0), (394, .invokevirtual 180, 172, 0), (397, .iload 5, 0, 0), (399, .if_icmp .eq 5, 0, 0), (402, .iconst 0, 0, 0), (403, .ireturn, 0, 0), (404, .iload 5, 0, 0), (406, .ifCond .ne 15, 0, 0), (409, .aload_n 3, 0, 0), (410, .iconst 0, 0, 0), (411, .laload, 0, 0), (412, .iload 6, 0, 0), (414, .i2l, 0, 0), (415, .lcmp, 0, 0), (416, .ifCond .eq 5, 0, 0), (419, .iconst 0, 0, 0), (420, .ireturn, 0, 0), (421, .goto 3208, 0, 0), (424, .aload_n 1, 0, 0), (425, .aload_n 0, 0, 0), (426, .iload 4, 0, 0), (428, .iconst 1, 0, 0), (429, .iadd, 0, 0), (430, .iaload, 0, 0), (431, .aload_n 0, 0, 0), (432, .iload 4, 0, 0), (434, .iconst 2, 0, 0), (435, .iadd, 0, 0), (436, .iaload, 0, 0), (437, .aload_n 0, 0, 0), (438, .iload 4, 0, 0), (440, .iconst 3, 0, 0), (441, .iadd, 0, 0)]
noncomputable def tb_368_1 : List TE := [(442, .iaload, 0, 0), (443, .aload_n 0, 0, 0), (444, .iload 4, 0, 0), (446, .iconst 4, 0, 0), (447, .iadd, 0, 0), (448, .iaload, 0, 0), (449, .aload_n 3, 0, 0), (450, .invokestatic 187, 323, 8), (453, .istore 5, 0, 0), (455, .aload_n 2, 0, 0), (456, .aload_n 0, 0, 0), (457, .iload 4, 0, 0), (459, .iconst 1, 0, 0), (460, .iadd, 0, 0), (461, .iaload, 0, 0), (462, .aload_n 0, 0, 0), (463, .iload 4, 0, 0), (465, .iconst 2, 0, 0), (466, .iadd, 0, 0), (467, .iaload, 0, 0), (468, .aload_n 0, 0, 0), (469, .iload 4, 0, 0), (471, .iconst 3, 0, 0), (472, .iadd, 0, 0), (473, .iaload, 0, 0), (474, .aload_n 0, 0, 0), (475, .iload 4, 0, 0), (477, .iconst 4, 0, 0), (478, .iadd, 0, 0), (479, .iaload, 0, 0), (480, .invokevirtual 190, 184, 0), (483, .istore 6, 0, 0), (485, .aload_n 2, 0, 0), (486, .invokevirtual 180, 172, 0), (489, .iload 5, 0, 0), (491, .if_icmp .eq 5, 0, 0), (494, .iconst 0, 0, 0), (495, .ireturn, 0, 0), (496, .iload 5, 0, 0), (498, .ifCond .ne 15, 0, 0), (501, .aload_n 3, 0, 0), (502, .iconst 0, 0, 0), (503, .laload, 0, 0), (504, .iload 6, 0, 0), (506, .i2l, 0, 0), (507, .lcmp, 0, 0), (508, .ifCond .eq 5, 0, 0), (511, .iconst 0, 0, 0), (512, .ireturn, 0, 0), (513, .goto 3116, 0, 0), (516, .aload_n 1, 0, 0), (517, .aload_n 3, 0, 0), (518, .invokestatic 191, 324, 8), (521, .istore 5, 0, 0), (523, .aload_n 2, 0, 0), (524, .invokevirtual 194, 185, 0), (527, .istore 6, 0, 0), (529, .aload_n 2, 0, 0), (530, .invokevirtual 180, 172, 0), (533, .iload 5, 0, 0), (535, .if_icmp .eq 5, 0, 0), (538, .iconst 0, 0, 0), (539, .ireturn, 0, 0), (540, .iload 5, 0, 0), (542, .ifCond .ne 15, 0, 0), (545, .aload_n 3, 0, 0), (546, .iconst 0, 0, 0), (547, .laload, 0, 0), (548, .iload 6, 0, 0), (550, .i2l, 0, 0), (551, .lcmp, 0, 0), (552, .ifCond .eq 5, 0, 0), (555, .iconst 0, 0, 0), (556, .ireturn, 0, 0), (557, .goto 3072, 0, 0), (560, .aload_n 1, 0, 0), (561, .aload_n 0, 0, 0), (562, .iload 4, 0, 0), (564, .iconst 1, 0, 0), (565, .iadd, 0, 0), (566, .iaload, 0, 0), (567, .aload_n 0, 0, 0), (568, .iload 4, 0, 0), (570, .iconst 2, 0, 0), (571, .iadd, 0, 0), (572, .iaload, 0, 0), (573, .aload_n 3, 0, 0), (574, .invokestatic 195, 325, 8), (577, .istore 5, 0, 0), (579, .aload_n 2, 0, 0), (580, .aload_n 0, 0, 0), (581, .iload 4, 0, 0), (583, .iconst 1, 0, 0), (584, .iadd, 0, 0), (585, .iaload, 0, 0), (586, .aload_n 0, 0, 0), (587, .iload 4, 0, 0), (589, .iconst 2, 0, 0), (590, .iadd, 0, 0), (591, .iaload, 0, 0), (592, .invokevirtual 197, 187, 0), (595, .istore 6, 0, 0), (597, .aload_n 2, 0, 0), (598, .invokevirtual 180, 172, 0), (601, .iload 5, 0, 0), (603, .if_icmp .eq 5, 0, 0), (606, .iconst 0, 0, 0), (607, .ireturn, 0, 0), (608, .iload 5, 0, 0), (610, .ifCond .ne 15, 0, 0), (613, .aload_n 3, 0, 0), (614, .iconst 0, 0, 0), (615, .laload, 0, 0), (616, .iload 6, 0, 0), (618, .i2l, 0, 0), (619, .lcmp, 0, 0), (620, .ifCond .eq 5, 0, 0), (623, .iconst 0, 0, 0), (624, .ireturn, 0, 0), (625, .goto 3004, 0, 0), (628, .aload_n 1, 0, 0), (629, .aload_n 0, 0, 0), (630, .iload 4, 0, 0), (632, .iconst 1, 0, 0), (633, .iadd, 0, 0), (634, .iaload, 0, 0), (635, .aload_n 0, 0, 0), (636, .iload 4, 0, 0), (638, .iconst 2, 0, 0), (639, .iadd, 0, 0), (640, .iaload, 0, 0), (641, .aload_n 0, 0, 0), (642, .iload 4, 0, 0), (644, .iconst 3, 0, 0), (645, .iadd, 0, 0), (646, .iaload, 0, 0), (647, .aload_n 0, 0, 0), (648, .iload 4, 0, 0), (650, .iconst 4, 0, 0), (651, .iadd, 0, 0), (652, .iaload, 0, 0), (653, .invokestatic 198, 326, 8), (656, .istore 5, 0, 0), (658, .aload_n 2, 0, 0), (659, .aload_n 0, 0, 0), (660, .iload 4, 0, 0), (662, .iconst 1, 0, 0), (663, .iadd, 0, 0), (664, .iaload, 0, 0), (665, .aload_n 0, 0, 0), (666, .iload 4, 0, 0), (668, .iconst 2, 0, 0), (669, .iadd, 0, 0), (670, .iaload, 0, 0), (671, .aload_n 0, 0, 0), (672, .iload 4, 0, 0), (674, .iconst 3, 0, 0), (675, .iadd, 0, 0), (676, .iaload, 0, 0), (677, .aload_n 0, 0, 0)]
noncomputable def tb_368_2 : List TE := [(678, .iload 4, 0, 0), (680, .iconst 4, 0, 0), (681, .iadd, 0, 0), (682, .iaload, 0, 0), (683, .invokevirtual 201, 188, 0), (686, .pop, 0, 0), (687, .aload_n 2, 0, 0), (688, .invokevirtual 180, 172, 0), (691, .iload 5, 0, 0), (693, .if_icmp .eq 5, 0, 0), (696, .iconst 0, 0, 0), (697, .ireturn, 0, 0), (698, .goto 2931, 0, 0), (701, .aload_n 1, 0, 0), (702, .aload_n 0, 0, 0), (703, .iload 4, 0, 0), (705, .iconst 1, 0, 0), (706, .iadd, 0, 0), (707, .iaload, 0, 0), (708, .aload_n 0, 0, 0), (709, .iload 4, 0, 0), (711, .iconst 2, 0, 0), (712, .iadd, 0, 0), (713, .iaload, 0, 0), (714, .aload_n 3, 0, 0), (715, .invokestatic 203, 327, 8), (718, .istore 5, 0, 0), (720, .aload_n 2, 0, 0), (721, .aload_n 0, 0, 0), (722, .iload 4, 0, 0), (724, .iconst 1, 0, 0), (725, .iadd, 0, 0), (726, .iaload, 0, 0), (727, .aload_n 0, 0, 0), (728, .iload 4, 0, 0), (730, .iconst 2, 0, 0), (731, .iadd, 0, 0), (732, .iaload, 0, 0), (733, .invokevirtual 205, 189, 0), (736, .istore 6, 0, 0), (738, .aload_n 2, 0, 0), (739, .invokevirtual 180, 172, 0), (742, .iload 5, 0, 0), (744, .if_icmp .eq 5, 0, 0), (747, .iconst 0, 0, 0), (748, .ireturn, 0, 0), (749, .iload 5, 0, 0), (751, .ifCond .ne 15, 0, 0), (754, .aload_n 3, 0, 0), (755, .iconst 0, 0, 0), (756, .laload, 0, 0), (757, .iload 6, 0, 0), (759, .i2l, 0, 0), (760, .lcmp, 0, 0), (761, .ifCond .eq 5, 0, 0), (764, .iconst 0, 0, 0), (765, .ireturn, 0, 0), (766, .goto 2863, 0, 0), (769, .aload_n 1, 0, 0), (770, .aload_n 0, 0, 0), (771, .iload 4, 0, 0), (773, .iconst 1, 0, 0), (774, .iadd, 0, 0), (775, .iaload, 0, 0), (776, .aload_n 0, 0, 0), (777, .iload 4, 0, 0), (779, .iconst 2, 0, 0), (780, .iadd, 0, 0), (781, .iaload, 0, 0), (782, .aload_n 3, 0, 0), (783, .invokestatic 206, 328, 8), (786, .istore 5, 0, 0), (788, .aload_n 2, 0, 0), (789, .aload_n 0, 0, 0), (790, .iload 4, 0, 0), (792, .iconst 1, 0, 0), (793, .iadd, 0, 0), (794, .iaload, 0, 0), (795, .aload_n 0, 0, 0), (796, .iload 4, 0, 0), (798, .iconst 2, 0, 0), (799, .iadd, 0, 0), (800, .iaload, 0, 0), (801, .invokevirtual 208, 190, 0), (804, .istore 6, 0, 0), (806, .aload_n 2, 0, 0), (807, .invokevirtual 180, 172, 0), (810, .iload 5, 0, 0), (812, .if_icmp .eq 5, 0, 0), (815, .iconst 0, 0, 0), (816, .ireturn, 0, 0), (817, .iload 5, 0, 0), (819, .ifCond .ne 15, 0, 0), (822, .aload_n 3, 0, 0), (823, .iconst 0, 0, 0), (824, .laload, 0, 0), (825, .iload 6, 0, 0), (827, .i2l, 0, 0), (828, .lcmp, 0, 0), (829, .ifCond .eq 5, 0, 0), (832, .iconst 0, 0, 0), (833, .ireturn, 0, 0), (834, .goto 2795, 0, 0), (837, .aload_n 1, 0, 0), (838, .invokevirtual 209, 110, 0), (841, .aload_n 2, 0, 0), (842, .invokevirtual 213, 200, 0), (845, .if_icmp .eq 2784, 0, 0), (848, .iconst 0, 0, 0), (849, .ireturn, 0, 0), (850, .aload_n 1, 0, 0), (851, .aload_n 0, 0, 0), (852, .iload 4, 0, 0), (854, .iconst 1, 0, 0), (855, .iadd, 0, 0), (856, .iaload, 0, 0), (857, .aload_n 0, 0, 0), (858, .iload 4, 0, 0), (860, .iconst 2, 0, 0), (861, .iadd, 0, 0), (862, .iaload, 0, 0), (863, .aload_n 3, 0, 0), (864, .invokestatic 214, 329, 8), (867, .istore 5, 0, 0), (869, .aload_n 2, 0, 0), (870, .aload_n 0, 0, 0), (871, .iload 4, 0, 0), (873, .iconst 1, 0, 0), (874, .iadd, 0, 0), (875, .iaload, 0, 0), (876, .aload_n 0, 0, 0), (877, .iload 4, 0, 0), (879, .iconst 2, 0, 0), (880, .iadd, 0, 0), (881, .iaload, 0, 0), (882, .invokevirtual 216, 205, 0), (885, .istore 6, 0, 0), (887, .aload_n 2, 0, 0), (888, .invokevirtual 180, 172, 0), (891, .iload 5, 0, 0), (893, .if_icmp .eq 5, 0, 0), (896, .iconst 0, 0, 0), (897, .ireturn, 0, 0), (898, .iload 5, 0, 0), (900, .ifCond .ne 15, 0, 0), (903, .aload_n 3, 0, 0), (904, .iconst 0, 0, 0), (905, .laload, 0, 0), (906, .iload 6, 0, 0), (908, .i2l, 0, 0), (909, .lcmp, 0, 0), (910, .ifCond .eq 5, 0, 0), (913, .iconst 0, 0, 0), (914, .ireturn, 0, 0), (915, .goto 2714, 0, 0), (918, .aload_n 1, 0, 0), (919, .aload_n 0, 0, 0), (920, .iload 4, 0, 0), (922, .iconst 1, 0, 0), (923, .iadd, 0, 0)]
noncomputable def tb_368_3 : List TE := [(924, .iaload, 0, 0), (925, .aload_n 0, 0, 0), (926, .iload 4, 0, 0), (928, .iconst 2, 0, 0), (929, .iadd, 0, 0), (930, .iaload, 0, 0), (931, .aload_n 0, 0, 0), (932, .iload 4, 0, 0), (934, .iconst 3, 0, 0), (935, .iadd, 0, 0), (936, .iaload, 0, 0), (937, .aload_n 3, 0, 0), (938, .invokestatic 217, 330, 8), (941, .istore 5, 0, 0), (943, .aload_n 2, 0, 0), (944, .aload_n 0, 0, 0), (945, .iload 4, 0, 0), (947, .iconst 1, 0, 0), (948, .iadd, 0, 0), (949, .iaload, 0, 0), (950, .aload_n 0, 0, 0), (951, .iload 4, 0, 0), (953, .iconst 2, 0, 0), (954, .iadd, 0, 0), (955, .iaload, 0, 0), (956, .aload_n 0, 0, 0), (957, .iload 4, 0, 0), (959, .iconst 3, 0, 0), (960, .iadd, 0, 0), (961, .iaload, 0, 0), (962, .invokevirtual 220, 214, 0), (965, .istore 6, 0, 0), (967, .aload_n 2, 0, 0), (968, .invokevirtual 180, 172, 0), (971, .iload 5, 0, 0), (973, .if_icmp .eq 5, 0, 0), (976, .iconst 0, 0, 0), (977, .ireturn, 0, 0), (978, .iload 5, 0, 0), (980, .ifCond .ne 15, 0, 0), (983, .aload_n 3, 0, 0), (984, .iconst 0, 0, 0), (985, .laload, 0, 0), (986, .iload 6, 0, 0), (988, .i2l, 0, 0), (989, .lcmp, 0, 0), (990, .ifCond .eq 5, 0, 0), (993, .iconst 0, 0, 0), (994, .ireturn, 0, 0), (995, .goto 2634, 0, 0), (998, .aload_n 1, 0, 0), (999, .aload_n 0, 0, 0), (1000, .iload 4, 0, 0), (1002, .iconst 1, 0, 0), (1003, .iadd, 0, 0), (1004, .iaload, 0, 0), (1005, .aload_n 0, 0, 0), (1006, .iload 4, 0, 0), (1008, .iconst 2, 0, 0), (1009, .iadd, 0, 0), (1010, .iaload, 0, 0), (1011, .aload_n 3, 0, 0), (1012, .invokestatic 221, 331, 8), (1015, .istore 5, 0, 0), (1017, .aload_n 2, 0, 0), (1018, .aload_n 0, 0, 0), (1019, .iload 4, 0, 0), (1021, .iconst 1, 0, 0), (1022, .iadd, 0, 0), (1023, .iaload, 0, 0), (1024, .aload_n 0, 0, 0), (1025, .iload 4, 0, 0), (1027, .iconst 2, 0, 0), (1028, .iadd, 0, 0), (1029, .iaload, 0, 0), (1030, .invokevirtual 223, 216, 0), (1033, .istore 6, 0, 0), (1035, .aload_n 2, 0, 0), (1036, .invokevirtual 180, 172, 0), (1039, .iload 5, 0, 0), (1041, .if_icmp .eq 5, 0, 0), (1044, .iconst 0, 0, 0), (1045, .ireturn, 0, 0), (1046, .iload 5, 0, 0), (1048, .ifCond .ne 15, 0, 0), (1051, .aload_n 3, 0, 0), (1052, .iconst 0, 0, 0), (1053, .laload, 0, 0), (1054, .iload 6, 0, 0), (1056, .i2l, 0, 0), (1057, .lcmp, 0, 0), (1058, .ifCond .eq 5, 0, 0), (1061, .iconst 0, 0, 0), (1062, .ireturn, 0, 0), (1063, .goto 2566, 0, 0), (1066, .aload_n 1, 0, 0), (1067, .aload_n 0, 0, 0), (1068, .iload 4, 0, 0), (1070, .iconst 1, 0, 0), (1071, .iadd, 0, 0), (1072, .iaload, 0, 0), (1073, .aload_n 3, 0, 0), (1074, .invokestatic 224, 332, 8), (1077, .istore 5, 0, 0), (1079, .aload_n 2, 0, 0), (1080, .aload_n 0, 0, 0), (1081, .iload 4, 0, 0), (1083, .iconst 1, 0, 0), (1084, .iadd, 0, 0), (1085, .iaload, 0, 0), (1086, .invokevirtual 227, 217, 0), (1089, .istore 6, 0, 0), (1091, .aload_n 2, 0, 0), (1092, .invokevirtual 180, 172, 0), (1095, .iload 5, 0, 0), (1097, .if_icmp .eq 5, 0, 0), (1100, .iconst 0, 0, 0), (1101, .ireturn, 0, 0), (1102, .iload 5, 0, 0), (1104, .ifCond .ne 15, 0, 0), (1107, .aload_n 3, 0, 0), (1108, .iconst 0, 0, 0), (1109, .laload, 0, 0), (1110, .iload 6, 0, 0), (1112, .i2l, 0, 0), (1113, .lcmp, 0, 0), (1114, .ifCond .eq 5, 0, 0), (1117, .iconst 0, 0, 0), (1118, .ireturn, 0, 0), (1119, .goto 2510, 0, 0), (1122, .aload_n 1, 0, 0), (1123, .aload_n 0, 0, 0), (1124, .iload 4, 0, 0), (1126, .iconst 1, 0, 0), (1127, .iadd, 0, 0), (1128, .iaload, 0, 0), (1129, .aload_n 3, 0, 0), (1130, .invokestatic 228, 333, 8), (1133, .istore 5, 0, 0), (1135, .aload_n 2, 0, 0), (1136, .aload_n 0, 0, 0), (1137, .iload 4, 0, 0), (1139, .iconst 1, 0, 0), (1140, .iadd, 0, 0), (1141, .iaload, 0, 0), (1142, .invokevirtual 230, 225, 0), (1145, .istore 6, 0, 0), (1147, .aload_n 2, 0, 0), (1148, .invokevirtual 180, 172, 0), (1151, .iload 5, 0, 0), (1153, .if_icmp .eq 5, 0, 0), (1156, .iconst 0, 0, 0), (1157, .ireturn, 0, 0), (1158, .iload 5, 0, 0), (1160, .ifCond .ne 22, 0, 0), (1163, .aload_n 3, 0, 0), (1164, .iconst 0, 0, 0), (1165, .laload, 0, 0), (1166, .iload 6, 0, 0), (1168, .ifCond .eq 7, 0, 0)]
noncomputable def tb_368_4 : List TE := [(1171, .lconst 1, 0, 0), (1172, .goto 4, 0, 0), (1175, .lconst 0, 0, 0), (1176, .lcmp, 0, 0), (1177, .ifCond .eq 5, 0, 0), (1180, .iconst 0, 0, 0), (1181, .ireturn, 0, 0), (1182, .goto 2447, 0, 0), (1185, .aload_n 1, 0, 0), (1186, .aload_n 3, 0, 0), (1187, .invokestatic 231, 334, 8), (1190, .istore 5, 0, 0), (1192, .aload_n 2, 0, 0), (1193, .invokevirtual 233, 226, 0), (1196, .istore 6, 0, 0), (1198, .aload_n 2, 0, 0), (1199, .invokevirtual 180, 172, 0), (1202, .iload 5, 0, 0), (1204, .if_icmp .eq 5, 0, 0), (1207, .iconst 0, 0, 0), (1208, .ireturn, 0, 0), (1209, .iload 5, 0, 0), (1211, .ifCond .ne 15, 0, 0), (1214, .aload_n 3, 0, 0), (1215, .iconst 0, 0, 0), (1216, .laload, 0, 0), (1217, .iload 6, 0, 0), (1219, .i2l, 0, 0), (1220, .lcmp, 0, 0), (1221, .ifCond .eq 5, 0, 0), (1224, .iconst 0, 0, 0), (1225, .ireturn, 0, 0), (1226, .goto 2403, 0, 0), (1229, .aload_n 1, 0, 0), (1230, .aload_n 0, 0, 0), (1231, .iload 4, 0, 0), (1233, .iconst 1, 0, 0), (1234, .iadd, 0, 0), (1235, .iaload, 0, 0), (1236, .aload_n 0, 0, 0), (1237, .iload 4, 0, 0), (1239, .iconst 2, 0, 0), (1240, .iadd, 0, 0), (1241, .iaload, 0, 0), (1242, .aload_n 3, 0, 0), (1243, .invokestatic 234, 335, 8), (1246, .istore 5, 0, 0), (1248, .aload_n 2, 0, 0), (1249, .aload_n 0, 0, 0), (1250, .iload 4, 0, 0), (1252, .iconst 1, 0, 0), (1253, .iadd, 0, 0), (1254, .iaload, 0, 0), (1255, .aload_n 0, 0, 0), (1256, .iload 4, 0, 0), (1258, .iconst 2, 0, 0), (1259, .iadd, 0, 0), (1260, .iaload, 0, 0), (1261, .invokevirtual 236, 227, 0), (1264, .istore 6, 0, 0), (1266, .aload_n 2, 0, 0), (1267, .invokevirtual 180, 172, 0), (1270, .iload 5, 0, 0), (1272, .if_icmp .eq 5, 0, 0), (1275, .iconst 0, 0, 0), (1276, .ireturn, 0, 0), (1277, .iload 5, 0, 0), (1279, .ifCond .ne 15, 0, 0), (1282, .aload_n 3, 0, 0), (1283, .iconst 0, 0, 0), (1284, .laload, 0, 0), (1285, .iload 6, 0, 0), (1287, .i2l, 0, 0), (1288, .lcmp, 0, 0), (1289, .ifCond .eq 5, 0, 0), (1292, .iconst 0, 0, 0), (1293, .ireturn, 0, 0), (1294, .goto 2335, 0, 0), (1297, .aload_n 1, 0, 0), (1298, .aload_n 0, 0, 0), (1299, .iload 4, 0, 0), (1301, .iconst 1, 0, 0), (1302, .iadd, 0, 0), (1303, .iaload, 0, 0), (1304, .aload_n 0, 0, 0), (1305, .iload 4, 0, 0), (1307, .iconst 2, 0, 0), (1308, .iadd, 0, 0), (1309, .iaload, 0, 0), (1310, .aload_n 0, 0, 0), (1311, .iload 4, 0, 0), (1313, .iconst 3, 0, 0), (1314, .iadd, 0, 0), (1315, .iaload, 0, 0), (1316, .aload_n 3, 0, 0), (1317, .invokestatic 237, 336, 8), (1320, .istore 5, 0, 0), (1322, .aload_n 2, 0, 0), (1323, .aload_n 0, 0, 0), (1324, .iload 4, 0, 0), (1326, .iconst 1, 0, 0), (1327, .iadd, 0, 0), (1328, .iaload, 0, 0), (1329, .aload_n 0, 0, 0), (1330, .iload 4, 0, 0), (1332, .iconst 2, 0, 0), (1333, .iadd, 0, 0), (1334, .iaload, 0, 0), (1335, .aload_n 0, 0, 0), (1336, .iload 4, 0, 0), (1338, .iconst 3, 0, 0), (1339, .iadd, 0, 0), (1340, .iaload, 0, 0), (1341, .invokevirtual 239, 228, 0), (1344, .istore 6, 0, 0), (1346, .aload_n 2, 0, 0), (1347, .invokevirtual 180, 172, 0), (1350, .iload 5, 0, 0), (1352, .if_icmp .eq 5, 0, 0), (1355, .iconst 0, 0, 0), (1356, .ireturn, 0, 0), (1357, .iload 5, 0, 0), (1359, .ifCond .ne 15, 0, 0), (1362, .aload_n 3, 0, 0), (1363, .iconst 0, 0, 0), (1364, .laload, 0, 0), (1365, .iload 6, 0, 0), (1367, .i2l, 0, 0), (1368, .lcmp, 0, 0), (1369, .ifCond .eq 5, 0, 0), (1372, .iconst 0, 0, 0), (1373, .ireturn, 0, 0), (1374, .goto 2255, 0, 0), (1377, .aload_n 1, 0, 0), (1378, .aload_n 0, 0, 0), (1379, .iload 4, 0, 0), (1381, .iconst 1, 0, 0), (1382, .iadd, 0, 0), (1383, .iaload, 0, 0), (1384, .aload_n 0, 0, 0), (1385, .iload 4, 0, 0), (1387, .iconst 2, 0, 0), (1388, .iadd, 0, 0), (1389, .iaload, 0, 0), (1390, .aload_n 3, 0, 0), (1391, .invokestatic 240, 337, 8), (1394, .istore 5, 0, 0), (1396, .aload_n 2, 0, 0), (1397, .aload_n 0, 0, 0), (1398, .iload 4, 0, 0), (1400, .iconst 1, 0, 0), (1401, .iadd, 0, 0), (1402, .iaload, 0, 0), (1403, .aload_n 0, 0, 0), (1404, .iload 4, 0, 0), (1406, .iconst 2, 0, 0), (1407, .iadd, 0, 0), (1408, .iaload, 0, 0), (1409, .invokevirtual 242, 240, 0), (1412, .istore 6, 0, 0)]
noncomputable def tb_368_5 : List TE := [(1414, .aload_n 2, 0, 0), (1415, .invokevirtual 180, 172, 0), (1418, .iload 5, 0, 0), (1420, .if_icmp .eq 5, 0, 0), (1423, .iconst 0, 0, 0), (1424, .ireturn, 0, 0), (1425, .iload 5, 0, 0), (1427, .ifCond .ne 15, 0, 0), (1430, .aload_n 3, 0, 0), (1431, .iconst 0, 0, 0), (1432, .laload, 0, 0), (1433, .iload 6, 0, 0), (1435, .i2l, 0, 0), (1436, .lcmp, 0, 0), (1437, .ifCond .eq 5, 0, 0), (1440, .iconst 0, 0, 0), (1441, .ireturn, 0, 0), (1442, .goto 2187, 0, 0), (1445, .aload_n 1, 0, 0), (1446, .aload_n 0, 0, 0), (1447, .iload 4, 0, 0), (1449, .iconst 1, 0, 0), (1450, .iadd, 0, 0), (1451, .iaload, 0, 0), (1452, .aload_n 3, 0, 0), (1453, .invokestatic 243, 338, 8), (1456, .istore 5, 0, 0), (1458, .aload_n 2, 0, 0), (1459, .aload_n 0, 0, 0), (1460, .iload 4, 0, 0), (1462, .iconst 1, 0, 0), (1463, .iadd, 0, 0), (1464, .iaload, 0, 0), (1465, .invokevirtual 245, 241, 0), (1468, .istore 6, 0, 0), (1470, .aload_n 2, 0, 0), (1471, .invokevirtual 180, 172, 0), (1474, .iload 5, 0, 0), (1476, .if_icmp .eq 5, 0, 0), (1479, .iconst 0, 0, 0), (1480, .ireturn, 0, 0), (1481, .iload 5, 0, 0), (1483, .ifCond .ne 15, 0, 0), (1486, .aload_n 3, 0, 0), (1487, .iconst 0, 0, 0), (1488, .laload, 0, 0), (1489, .iload 6, 0, 0), (1491, .i2l, 0, 0), (1492, .lcmp, 0, 0), (1493, .ifCond .eq 5, 0, 0), (1496, .iconst 0, 0, 0), (1497, .ireturn, 0, 0), (1498, .goto 2131, 0, 0), (1501, .aload_n 1, 0, 0), (1502, .aload_n 3, 0, 0), (1503, .invokestatic 246, 339, 8), (1506, .istore 5, 0, 0), (1508, .aload_n 2, 0, 0), (1509, .invokevirtual 248, 242, 0), (1512, .istore 6, 0, 0), (1514, .aload_n 2, 0, 0), (1515, .invokevirtual 180, 172, 0), (1518, .iload 5, 0, 0), (1520, .if_icmp .eq 5, 0, 0), (1523, .iconst 0, 0, 0), (1524, .ireturn, 0, 0), (1525, .iload 5, 0, 0), (1527, .ifCond .ne 15, 0, 0), (1530, .aload_n 3, 0, 0), (1531, .iconst 0, 0, 0), (1532, .laload, 0, 0), (1533, .iload 6, 0, 0), (1535, .i2l, 0, 0), (1536, .lcmp, 0, 0), (1537, .ifCond .eq 5, 0, 0), (1540, .iconst 0, 0, 0), (1541, .ireturn, 0, 0), (1542, .goto 2087, 0, 0), (1545, .aload_n 1, 0, 0), (1546, .aload_n 0, 0, 0), (1547, .iload 4, 0, 0), (1549, .iconst 1, 0, 0), (1550, .iadd, 0, 0), (1551, .iaload, 0, 0), (1552, .aload_n 0, 0, 0), (1553, .iload 4, 0, 0), (1555, .iconst 2, 0, 0), (1556, .iadd, 0, 0), (1557, .iaload, 0, 0), (1558, .aload_n 3, 0, 0), (1559, .invokestatic 249, 340, 8), (1562, .istore 5, 0, 0), (1564, .aload_n 2, 0, 0), (1565, .aload_n 0, 0, 0), (1566, .iload 4, 0, 0), (1568, .iconst 1, 0, 0), (1569, .iadd, 0, 0), (1570, .iaload, 0, 0), (1571, .aload_n 0, 0, 0), (1572, .iload 4, 0, 0), (1574, .iconst 2, 0, 0), (1575, .iadd, 0, 0), (1576, .iaload, 0, 0), (1577, .invokevirtual 251, 254, 0), (1580, .istore 6, 0, 0), (1582, .aload_n 2, 0, 0), (1583, .invokevirtual 180, 172, 0), (1586, .iload 5, 0, 0), (1588, .if_icmp .eq 5, 0, 0), (1591, .iconst 0, 0, 0), (1592, .ireturn, 0, 0), (1593, .iload 5, 0, 0), (1595, .ifCond .ne 15, 0, 0), (1598, .aload_n 3, 0, 0), (1599, .iconst 0, 0, 0), (1600, .laload, 0, 0), (1601, .iload 6, 0, 0), (1603, .i2l, 0, 0), (1604, .lcmp, 0, 0), (1605, .ifCond .eq 5, 0, 0), (1608, .iconst 0, 0, 0), (1609, .ireturn, 0, 0), (1610, .goto 2019, 0, 0), (1613, .aload_n 1, 0, 0), (1614, .aload_n 0, 0, 0), (1615, .iload 4, 0, 0), (1617, .iconst 1, 0, 0), (1618, .iadd, 0, 0), (1619, .iaload, 0, 0), (1620, .aload_n 0, 0, 0), (1621, .iload 4, 0, 0), (1623, .iconst 2, 0, 0), (1624, .iadd, 0, 0), (1625, .iaload, 0, 0), (1626, .aload_n 0, 0, 0), (1627, .iload 4, 0, 0), (1629, .iconst 3, 0, 0), (1630, .iadd, 0, 0), (1631, .iaload, 0, 0), (1632, .aload_n 3, 0, 0), (1633, .invokestatic 252, 341, 8), (1636, .istore 5, 0, 0), (1638, .aload_n 2, 0, 0), (1639, .aload_n 0, 0, 0), (1640, .iload 4, 0, 0), (1642, .iconst 1, 0, 0), (1643, .iadd, 0, 0), (1644, .iaload, 0, 0), (1645, .aload_n 0, 0, 0), (1646, .iload 4, 0, 0), (1648, .iconst 2, 0, 0), (1649, .iadd, 0, 0), (1650, .iaload, 0, 0), (1651, .aload_n 0, 0, 0), (1652, .iload 4, 0, 0), (1654, .iconst 3, 0, 0), (1655, .iadd, 0, 0), (1656, .iaload, 0, 0), (1657, .invokevirtual 254, 255, 0), (1660, .istore 6, 0, 0)]
noncomputable def tb_368_6 : List TE := [(1662, .aload_n 2, 0, 0), (1663, .invokevirtual 180, 172, 0), (1666, .iload 5, 0, 0), (1668, .if_icmp .eq 5, 0, 0), (1671, .iconst 0, 0, 0), (1672, .ireturn, 0, 0), (1673, .iload 5, 0, 0), (1675, .ifCond .ne 15, 0, 0), (1678, .aload_n 3, 0, 0), (1679, .iconst 0, 0, 0), (1680, .laload, 0, 0), (1681, .iload 6, 0, 0), (1683, .i2l, 0, 0), (1684, .lcmp, 0, 0), (1685, .ifCond .eq 5, 0, 0), (1688, .iconst 0, 0, 0), (1689, .ireturn, 0, 0), (1690, .goto 1939, 0, 0), (1693, .aload_n 1, 0, 0), (1694, .aload_n 0, 0, 0), (1695, .iload 4, 0, 0), (1697, .iconst 1, 0, 0), (1698, .iadd, 0, 0), (1699, .iaload, 0, 0), (1700, .aload_n 0, 0, 0), (1701, .iload 4, 0, 0), (1703, .iconst 2, 0, 0), (1704, .iadd, 0, 0), (1705, .iaload, 0, 0), (1706, .aload_n 3, 0, 0), (1707, .invokestatic 255, 342, 8), (1710, .istore 5, 0, 0), (1712, .aload_n 2, 0, 0), (1713, .aload_n 0, 0, 0), (1714, .iload 4, 0, 0), (1716, .iconst 1, 0, 0), (1717, .iadd, 0, 0), (1718, .iaload, 0, 0), (1719, .aload_n 0, 0, 0), (1720, .iload 4, 0, 0), (1722, .iconst 2, 0, 0), (1723, .iadd, 0, 0), (1724, .iaload, 0, 0), (1725, .invokevirtual 257, 256, 0), (1728, .istore 6, 0, 0), (1730, .aload_n 2, 0, 0), (1731, .invokevirtual 180, 172, 0), (1734, .iload 5, 0, 0), (1736, .if_icmp .eq 5, 0, 0), (1739, .iconst 0, 0, 0), (1740, .ireturn, 0, 0), (1741, .iload 5, 0, 0), (1743, .ifCond .ne 15, 0, 0), (1746, .aload_n 3, 0, 0), (1747, .iconst 0, 0, 0), (1748, .laload, 0, 0), (1749, .iload 6, 0, 0), (1751, .i2l, 0, 0), (1752, .lcmp, 0, 0), (1753, .ifCond .eq 5, 0, 0), (1756, .iconst 0, 0, 0), (1757, .ireturn, 0, 0), (1758, .goto 1871, 0, 0), (1761, .aload_n 1, 0, 0), (1762, .aload_n 0, 0, 0), (1763, .iload 4, 0, 0), (1765, .iconst 1, 0, 0), (1766, .iadd, 0, 0), (1767, .iaload, 0, 0), (1768, .aload_n 0, 0, 0), (1769, .iload 4, 0, 0), (1771, .iconst 2, 0, 0), (1772, .iadd, 0, 0), (1773, .iaload, 0, 0), (1774, .aload_n 0, 0, 0), (1775, .iload 4, 0, 0), (1777, .iconst 3, 0, 0), (1778, .iadd, 0, 0), (1779, .iaload, 0, 0), (1780, .aload_n 0, 0, 0), (1781, .iload 4, 0, 0), (1783, .iconst 4, 0, 0), (1784, .iadd, 0, 0), (1785, .iaload, 0, 0), (1786, .aload_n 3, 0, 0), (1787, .invokestatic 258, 343, 8), (1790, .istore 5, 0, 0), (1792, .aload_n 2, 0, 0), (1793, .aload_n 0, 0, 0), (1794, .iload 4, 0, 0), (1796, .iconst 1, 0, 0), (1797, .iadd, 0, 0), (1798, .iaload, 0, 0), (1799, .aload_n 0, 0, 0), (1800, .iload 4, 0, 0), (1802, .iconst 2, 0, 0), (1803, .iadd, 0, 0), (1804, .iaload, 0, 0), (1805, .aload_n 0, 0, 0), (1806, .iload 4, 0, 0), (1808, .iconst 3, 0, 0), (1809, .iadd, 0, 0), (1810, .iaload, 0, 0), (1811, .aload_n 0, 0, 0), (1812, .iload 4, 0, 0), (1814, .iconst 4, 0, 0), (1815, .iadd, 0, 0), (1816, .iaload, 0, 0), (1817, .invokevirtual 260, 259, 0), (1820, .istore 6, 0, 0), (1822, .aload_n 2, 0, 0), (1823, .invokevirtual 180, 172, 0), (1826, .iload 5, 0, 0), (1828, .if_icmp .eq 5, 0, 0), (1831, .iconst 0, 0, 0), (1832, .ireturn, 0, 0), (1833, .iload 5, 0, 0), (1835, .ifCond .ne 15, 0, 0), (1838, .aload_n 3, 0, 0), (1839, .iconst 0, 0, 0), (1840, .laload, 0, 0), (1841, .iload 6, 0, 0), (1843, .i2l, 0, 0), (1844, .lcmp, 0, 0), (1845, .ifCond .eq 5, 0, 0), (1848, .iconst 0, 0, 0), (1849, .ireturn, 0, 0), (1850, .goto 1779, 0, 0), (1853, .aload_n 1, 0, 0), (1854, .aload_n 0, 0, 0), (1855, .iload 4, 0, 0), (1857, .iconst 1, 0, 0), (1858, .iadd, 0, 0), (1859, .iaload, 0, 0), (1860, .aload_n 0, 0, 0), (1861, .iload 4, 0, 0), (1863, .iconst 2, 0, 0), (1864, .iadd, 0, 0), (1865, .iaload, 0, 0), (1866, .aload_n 0, 0, 0), (1867, .iload 4, 0, 0), (1869, .iconst 3, 0, 0), (1870, .iadd, 0, 0), (1871, .iaload, 0, 0), (1872, .aload_n 3, 0, 0), (1873, .invokestatic 261, 344, 8), (1876, .istore 5, 0, 0), (1878, .aload_n 2, 0, 0), (1879, .aload_n 0, 0, 0), (1880, .iload 4, 0, 0), (1882, .iconst 1, 0, 0), (1883, .iadd, 0, 0), (1884, .iaload, 0, 0), (1885, .aload_n 0, 0, 0), (1886, .iload 4, 0, 0), (1888, .iconst 2, 0, 0), (1889, .iadd, 0, 0), (1890, .iaload, 0, 0), (1891, .aload_n 0, 0, 0), (1892, .iload 4, 0, 0)]
noncomputable def tb_368_7 : List TE := [(1894, .iconst 3, 0, 0), (1895, .iadd, 0, 0), (1896, .iaload, 0, 0), (1897, .invokevirtual 263, 263, 0), (1900, .istore 6, 0, 0), (1902, .aload_n 2, 0, 0), (1903, .invokevirtual 180, 172, 0), (1906, .iload 5, 0, 0), (1908, .if_icmp .eq 5, 0, 0), (1911, .iconst 0, 0, 0), (1912, .ireturn, 0, 0), (1913, .iload 5, 0, 0), (1915, .ifCond .ne 15, 0, 0), (1918, .aload_n 3, 0, 0), (1919, .iconst 0, 0, 0), (1920, .laload, 0, 0), (1921, .iload 6, 0, 0), (1923, .i2l, 0, 0), (1924, .lcmp, 0, 0), (1925, .ifCond .eq 5, 0, 0), (1928, .iconst 0, 0, 0), (1929, .ireturn, 0, 0), (1930, .goto 1699, 0, 0), (1933, .aload_n 1, 0, 0), (1934, .aload_n 0, 0, 0), (1935, .iload 4, 0, 0), (1937, .iconst 1, 0, 0), (1938, .iadd, 0, 0), (1939, .iaload, 0, 0), (1940, .aload_n 0, 0, 0), (1941, .iload 4, 0, 0), (1943, .iconst 2, 0, 0), (1944, .iadd, 0, 0), (1945, .iaload, 0, 0), (1946, .aload_n 0, 0, 0), (1947, .iload 4, 0, 0), (1949, .iconst 3, 0, 0), (1950, .iadd, 0, 0), (1951, .iaload, 0, 0), (1952, .aload_n 0, 0, 0), (1953, .iload 4, 0, 0), (1955, .iconst 4, 0, 0), (1956, .iadd, 0, 0), (1957, .iaload, 0, 0), (1958, .aload_n 3, 0, 0), (1959, .invokestatic 264, 345, 8), (1962, .istore 5, 0, 0), (1964, .aload_n 2, 0, 0), (1965, .aload_n 0, 0, 0), (1966, .iload 4, 0, 0), (1968, .iconst 1, 0, 0), (1969, .iadd, 0, 0), (1970, .iaload, 0, 0), (1971, .aload_n 0, 0, 0), (1972, .iload 4, 0, 0), (1974, .iconst 2, 0, 0), (1975, .iadd, 0, 0), (1976, .iaload, 0, 0), (1977, .aload_n 0, 0, 0), (1978, .iload 4, 0, 0), (1980, .iconst 3, 0, 0), (1981, .iadd, 0, 0), (1982, .iaload, 0, 0), (1983, .aload_n 0, 0, 0), (1984, .iload 4, 0, 0), (1986, .iconst 4, 0, 0), (1987, .iadd, 0, 0), (1988, .iaload, 0, 0), (1989, .invokevirtual 266, 273, 0), (1992, .istore 6, 0, 0), (1994, .aload_n 2, 0, 0), (1995, .invokevirtual 180, 172, 0), (1998, .iload 5, 0, 0), (2000, .if_icmp .eq 5, 0, 0), (2003, .iconst 0, 0, 0), (2004, .ireturn, 0, 0), (2005, .iload 5, 0, 0), (2007, .ifCond .ne 15, 0, 0), (2010, .aload_n 3, 0, 0), (2011, .iconst 0, 0, 0), (2012, .laload, 0, 0), (2013, .iload 6, 0, 0), (2015, .i2l, 0, 0), (2016, .lcmp, 0, 0), (2017, .ifCond .eq 5, 0, 0), (2020, .iconst 0, 0, 0), (2021, .ireturn, 0, 0), (2022, .goto 1607, 0, 0), (2025, .aload_n 1, 0, 0), (2026, .aload_n 0, 0, 0), (2027, .iload 4, 0, 0), (2029, .iconst 1, 0, 0), (2030, .iadd, 0, 0), (2031, .iaload, 0, 0), (2032, .aload_n 0, 0, 0), (2033, .iload 4, 0, 0), (2035, .iconst 2, 0, 0), (2036, .iadd, 0, 0), (2037, .iaload, 0, 0), (2038, .aload_n 0, 0, 0), (2039, .iload 4, 0, 0), (2041, .iconst 3, 0, 0), (2042, .iadd, 0, 0), (2043, .iaload, 0, 0), (2044, .aload_n 3, 0, 0), (2045, .invokestatic 267, 346, 8), (2048, .istore 5, 0, 0), (2050, .aload_n 2, 0, 0), (2051, .aload_n 0, 0, 0), (2052, .iload 4, 0, 0), (2054, .iconst 1, 0, 0), (2055, .iadd, 0, 0), (2056, .iaload, 0, 0), (2057, .aload_n 0, 0, 0), (2058, .iload 4, 0, 0), (2060, .iconst 2, 0, 0), (2061, .iadd, 0, 0), (2062, .iaload, 0, 0), (2063, .aload_n 0, 0, 0), (2064, .iload 4, 0, 0), (2066, .iconst 3, 0, 0), (2067, .iadd, 0, 0), (2068, .iaload, 0, 0), (2069, .invokevirtual 269, 274, 0), (2072, .istore 6, 0, 0), (2074, .aload_n 2, 0, 0), (2075, .invokevirtual 180, 172, 0), (2078, .iload 5, 0, 0), (2080, .if_icmp .eq 5, 0, 0), (2083, .iconst 0, 0, 0), (2084, .ireturn, 0, 0), (2085, .iload 5, 0, 0), (2087, .ifCond .ne 15, 0, 0), (2090, .aload_n 3, 0, 0), (2091, .iconst 0, 0, 0), (2092, .laload, 0, 0), (2093, .iload 6, 0, 0), (2095, .i2l, 0, 0), (2096, .lcmp, 0, 0), (2097, .ifCond .eq 5, 0, 0), (2100, .iconst 0, 0, 0), (2101, .ireturn, 0, 0), (2102, .goto 1527, 0, 0), (2105, .aload_n 1, 0, 0), (2106, .aload_n 0, 0, 0), (2107, .iload 4, 0, 0), (2109, .iconst 1, 0, 0), (2110, .iadd, 0, 0), (2111, .iaload, 0, 0), (2112, .aload_n 0, 0, 0), (2113, .iload 4, 0, 0), (2115, .iconst 2, 0, 0), (2116, .iadd, 0, 0), (2117, .iaload, 0, 0), (2118, .aload_n 0, 0, 0), (2119, .iload 4, 0, 0), (2121, .iconst 3, 0, 0), (2122, .iadd, 0, 0), (2123, .iaload, 0, 0), (2124, .aload_n 3, 0, 0)]
noncomputable def tb_368_8 : List TE := [(2125, .invokestatic 270, 347, 8), (2128, .istore 5, 0, 0), (2130, .aload_n 2, 0, 0), (2131, .aload_n 0, 0, 0), (2132, .iload 4, 0, 0), (2134, .iconst 1, 0, 0), (2135, .iadd, 0, 0), (2136, .iaload, 0, 0), (2137, .aload_n 0, 0, 0), (2138, .iload 4, 0, 0), (2140, .iconst 2, 0, 0), (2141, .iadd, 0, 0), (2142, .iaload, 0, 0), (2143, .aload_n 0, 0, 0), (2144, .iload 4, 0, 0), (2146, .iconst 3, 0, 0), (2147, .iadd, 0, 0), (2148, .iaload, 0, 0), (2149, .invokevirtual 272, 279, 0), (2152, .istore 6, 0, 0), (2154, .aload_n 2, 0, 0), (2155, .invokevirtual 180, 172, 0), (2158, .iload 5, 0, 0), (2160, .if_icmp .eq 5, 0, 0), (2163, .iconst 0, 0, 0), (2164, .ireturn, 0, 0), (2165, .iload 5, 0, 0), (2167, .ifCond .ne 15, 0, 0), (2170, .aload_n 3, 0, 0), (2171, .iconst 0, 0, 0), (2172, .laload, 0, 0), (2173, .iload 6, 0, 0), (2175, .i2l, 0, 0), (2176, .lcmp, 0, 0), (2177, .ifCond .eq 5, 0, 0), (2180, .iconst 0, 0, 0), (2181, .ireturn, 0, 0), (2182, .goto 1447, 0, 0), (2185, .aload_n 1, 0, 0), (2186, .aload_n 0, 0, 0), (2187, .iload 4, 0, 0), (2189, .iconst 1, 0, 0), (2190, .iadd, 0, 0), (2191, .iaload, 0, 0), (2192, .aload_n 0, 0, 0), (2193, .iload 4, 0, 0), (2195, .iconst 2, 0, 0), (2196, .iadd, 0, 0), (2197, .iaload, 0, 0), (2198, .aload_n 0, 0, 0), (2199, .iload 4, 0, 0), (2201, .iconst 3, 0, 0), (2202, .iadd, 0, 0), (2203, .iaload, 0, 0), (2204, .aload_n 0, 0, 0), (2205, .iload 4, 0, 0), (2207, .iconst 4, 0, 0), (2208, .iadd, 0, 0), (2209, .iaload, 0, 0), (2210, .aload_n 3, 0, 0), (2211, .invokestatic 273, 348, 8), (2214, .istore 5, 0, 0), (2216, .aload_n 2, 0, 0), (2217, .aload_n 0, 0, 0), (2218, .iload 4, 0, 0), (2220, .iconst 1, 0, 0), (2221, .iadd, 0, 0), (2222, .iaload, 0, 0), (2223, .aload_n 0, 0, 0), (2224, .iload 4, 0, 0), (2226, .iconst 2, 0, 0), (2227, .iadd, 0, 0), (2228, .iaload, 0, 0), (2229, .aload_n 0, 0, 0), (2230, .iload 4, 0, 0), (2232, .iconst 3, 0, 0), (2233, .iadd, 0, 0), (2234, .iaload, 0, 0), (2235, .aload_n 0, 0, 0), (2236, .iload 4, 0, 0), (2238, .iconst 4, 0, 0), (2239, .iadd, 0, 0), (2240, .iaload, 0, 0), (2241, .invokevirtual 275, 281, 0), (2244, .istore 6, 0, 0), (2246, .aload_n 2, 0, 0), (2247, .invokevirtual 180, 172, 0), (2250, .iload 5, 0, 0), (2252, .if_icmp .eq 5, 0, 0), (2255, .iconst 0, 0, 0), (2256, .ireturn, 0, 0), (2257, .iload 5, 0, 0), (2259, .ifCond .ne 22, 0, 0), (2262, .aload_n 3, 0, 0), (2263, .iconst 0, 0, 0), (2264, .laload, 0, 0), (2265, .iload 6, 0, 0), (2267, .ifCond .eq 7, 0, 0), (2270, .lconst 1, 0, 0), (2271, .goto 4, 0, 0), (2274, .lconst 0, 0, 0), (2275, .lcmp, 0, 0), (2276, .ifCond .eq 5, 0, 0), (2279, .iconst 0, 0, 0), (2280, .ireturn, 0, 0), (2281, .goto 1348, 0, 0), (2284, .aload_n 1, 0, 0), (2285, .aload_n 0, 0, 0), (2286, .iload 4, 0, 0), (2288, .iconst 1, 0, 0), (2289, .iadd, 0, 0), (2290, .iaload, 0, 0), (2291, .aload_n 0, 0, 0), (2292, .iload 4, 0, 0), (2294, .iconst 2, 0, 0), (2295, .iadd, 0, 0), (2296, .iaload, 0, 0), (2297, .ifCond .eq 7, 0, 0), (2300, .iconst 1, 0, 0), (2301, .goto 4, 0, 0), (2304, .iconst 0, 0, 0), (2305, .aload_n 3, 0, 0), (2306, .invokestatic 276, 349, 8), (2309, .istore 5, 0, 0), (2311, .aload_n 2, 0, 0), (2312, .aload_n 0, 0, 0), (2313, .iload 4, 0, 0), (2315, .iconst 1, 0, 0), (2316, .iadd, 0, 0), (2317, .iaload, 0, 0), (2318, .aload_n 0, 0, 0), (2319, .iload 4, 0, 0), (2321, .iconst 2, 0, 0), (2322, .iadd, 0, 0), (2323, .iaload, 0, 0), (2324, .ifCond .eq 7, 0, 0), (2327, .iconst 1, 0, 0), (2328, .goto 4, 0, 0), (2331, .iconst 0, 0, 0), (2332, .invokevirtual 279, 282, 0), (2335, .istore 6, 0, 0), (2337, .aload_n 2, 0, 0), (2338, .invokevirtual 180, 172, 0), (2341, .iload 5, 0, 0), (2343, .if_icmp .eq 5, 0, 0), (2346, .iconst 0, 0, 0), (2347, .ireturn, 0, 0), (2348, .iload 5, 0, 0), (2350, .ifCond .ne 15, 0, 0), (2353, .aload_n 3, 0, 0), (2354, .iconst 0, 0, 0), (2355, .laload, 0, 0), (2356, .iload 6, 0, 0), (2358, .i2l, 0, 0), (2359, .lcmp, 0, 0), (2360, .ifCond .eq 5, 0, 0), (2363, .iconst 0, 0, 0), (2364, .ireturn, 0, 0), (2365, .goto 1264, 0, 0), (2368, .aload_n 1, 0, 0)]
noncomputable def tb_368_9 : List TE := [(2369, .aload_n 0, 0, 0), (2370, .iload 4, 0, 0), (2372, .iconst 1, 0, 0), (2373, .iadd, 0, 0), (2374, .iaload, 0, 0), (2375, .aload_n 0, 0, 0), (2376, .iload 4, 0, 0), (2378, .iconst 2, 0, 0), (2379, .iadd, 0, 0), (2380, .iaload, 0, 0), (2381, .aload_n 0, 0, 0), (2382, .iload 4, 0, 0), (2384, .iconst 3, 0, 0), (2385, .iadd, 0, 0), (2386, .iaload, 0, 0), (2387, .ifCond .eq 7, 0, 0), (2390, .iconst 1, 0, 0), (2391, .goto 4, 0, 0), (2394, .iconst 0, 0, 0), (2395, .aload_n 3, 0, 0), (2396, .invokestatic 280, 350, 8), (2399, .istore 5, 0, 0), (2401, .aload_n 2, 0, 0), (2402, .aload_n 0, 0, 0), (2403, .iload 4, 0, 0), (2405, .iconst 1, 0, 0), (2406, .iadd, 0, 0), (2407, .iaload, 0, 0), (2408, .aload_n 0, 0, 0), (2409, .iload 4, 0, 0), (2411, .iconst 2, 0, 0), (2412, .iadd, 0, 0), (2413, .iaload, 0, 0), (2414, .aload_n 0, 0, 0), (2415, .iload 4, 0, 0), (2417, .iconst 3, 0, 0), (2418, .iadd, 0, 0), (2419, .iaload, 0, 0), (2420, .ifCond .eq 7, 0, 0), (2423, .iconst 1, 0, 0), (2424, .goto 4, 0, 0), (2427, .iconst 0, 0, 0), (2428, .invokevirtual 283, 284, 0), (2431, .istore 6, 0, 0), (2433, .aload_n 2, 0, 0), (2434, .invokevirtual 180, 172, 0), (2437, .iload 5, 0, 0), (2439, .if_icmp .eq 5, 0, 0), (2442, .iconst 0, 0, 0), (2443, .ireturn, 0, 0), (2444, .iload 5, 0, 0), (2446, .ifCond .ne 15, 0, 0), (2449, .aload_n 3, 0, 0), (2450, .iconst 0, 0, 0), (2451, .laload, 0, 0), (2452, .iload 6, 0, 0), (2454, .i2l, 0, 0), (2455, .lcmp, 0, 0), (2456, .ifCond .eq 5, 0, 0), (2459, .iconst 0, 0, 0), (2460, .ireturn, 0, 0), (2461, .goto 1168, 0, 0), (2464, .aload_n 1, 0, 0), (2465, .aload_n 0, 0, 0), (2466, .iload 4, 0, 0), (2468, .iconst 1, 0, 0), (2469, .iadd, 0, 0), (2470, .iaload, 0, 0), (2471, .aload_n 3, 0, 0), (2472, .invokestatic 284, 351, 8), (2475, .istore 5, 0, 0), (2477, .aload_n 2, 0, 0), (2478, .aload_n 0, 0, 0), (2479, .iload 4, 0, 0), (2481, .iconst 1, 0, 0), (2482, .iadd, 0, 0), (2483, .iaload, 0, 0), (2484, .invokevirtual 286, 290, 0), (2487, .istore 6, 0, 0), (2489, .aload_n 2, 0, 0), (2490, .invokevirtual 180, 172, 0), (2493, .iload 5, 0, 0), (2495, .if_icmp .eq 5, 0, 0), (2498, .iconst 0, 0, 0), (2499, .ireturn, 0, 0), (2500, .iload 5, 0, 0), (2502, .ifCond .ne 15, 0, 0), (2505, .aload_n 3, 0, 0), (2506, .iconst 0, 0, 0), (2507, .laload, 0, 0), (2508, .iload 6, 0, 0), (2510, .i2l, 0, 0), (2511, .lcmp, 0, 0), (2512, .ifCond .eq 5, 0, 0), (2515, .iconst 0, 0, 0), (2516, .ireturn, 0, 0), (2517, .goto 1112, 0, 0), (2520, .aload_n 1, 0, 0), (2521, .aload_n 0, 0, 0), (2522, .iload 4, 0, 0), (2524, .iconst 1, 0, 0), (2525, .iadd, 0, 0), (2526, .iaload, 0, 0), (2527, .aload_n 0, 0, 0), (2528, .iload 4, 0, 0), (2530, .iconst 2, 0, 0), (2531, .iadd, 0, 0), (2532, .iaload, 0, 0), (2533, .aload_n 0, 0, 0), (2534, .iload 4, 0, 0), (2536, .iconst 3, 0, 0), (2537, .iadd, 0, 0), (2538, .iaload, 0, 0), (2539, .aload_n 3, 0, 0), (2540, .invokestatic 287, 352, 8), (2543, .istore 5, 0, 0), (2545, .aload_n 2, 0, 0), (2546, .aload_n 0, 0, 0), (2547, .iload 4, 0, 0), (2549, .iconst 1, 0, 0), (2550, .iadd, 0, 0), (2551, .iaload, 0, 0), (2552, .aload_n 0, 0, 0), (2553, .iload 4, 0, 0), (2555, .iconst 2, 0, 0), (2556, .iadd, 0, 0), (2557, .iaload, 0, 0), (2558, .aload_n 0, 0, 0), (2559, .iload 4, 0, 0), (2561, .iconst 3, 0, 0), (2562, .iadd, 0, 0), (2563, .iaload, 0, 0), (2564, .invokevirtual 289, 291, 0), (2567, .istore 6, 0, 0), (2569, .aload_n 2, 0, 0), (2570, .invokevirtual 180, 172, 0), (2573, .iload 5, 0, 0), (2575, .if_icmp .eq 5, 0, 0), (2578, .iconst 0, 0, 0), (2579, .ireturn, 0, 0), (2580, .iload 5, 0, 0), (2582, .ifCond .ne 15, 0, 0), (2585, .aload_n 3, 0, 0), (2586, .iconst 0, 0, 0), (2587, .laload, 0, 0), (2588, .iload 6, 0, 0), (2590, .i2l, 0, 0), (2591, .lcmp, 0, 0), (2592, .ifCond .eq 5, 0, 0), (2595, .iconst 0, 0, 0), (2596, .ireturn, 0, 0), (2597, .goto 1032, 0, 0), (2600, .aload_n 1, 0, 0), (2601, .aload_n 0, 0, 0), (2602, .iload 4, 0, 0), (2604, .iconst 1, 0, 0), (2605, .iadd, 0, 0), (2606, .iaload, 0, 0), (2607, .aload_n 0, 0, 0), (2608, .iload 4, 0, 0)]
noncomputable def tb_368_10 : List TE := [(2610, .iconst 2, 0, 0), (2611, .iadd, 0, 0), (2612, .iaload, 0, 0), (2613, .aload_n 0, 0, 0), (2614, .iload 4, 0, 0), (2616, .iconst 3, 0, 0), (2617, .iadd, 0, 0), (2618, .iaload, 0, 0), (2619, .aload_n 0, 0, 0), (2620, .iload 4, 0, 0), (2622, .iconst 4, 0, 0), (2623, .iadd, 0, 0), (2624, .iaload, 0, 0), (2625, .aload_n 0, 0, 0), (2626, .iload 4, 0, 0), (2628, .iconst 5, 0, 0), (2629, .iadd, 0, 0), (2630, .iaload, 0, 0), (2631, .aload_n 3, 0, 0), (2632, .invokestatic 290, 353, 8), (2635, .istore 5, 0, 0), (2637, .aload_n 2, 0, 0), (2638, .aload_n 0, 0, 0), (2639, .iload 4, 0, 0), (2641, .iconst 1, 0, 0), (2642, .iadd, 0, 0), (2643, .iaload, 0, 0), (2644, .aload_n 0, 0, 0), (2645, .iload 4, 0, 0), (2647, .iconst 2, 0, 0), (2648, .iadd, 0, 0), (2649, .iaload, 0, 0), (2650, .aload_n 0, 0, 0), (2651, .iload 4, 0, 0), (2653, .iconst 3, 0, 0), (2654, .iadd, 0, 0), (2655, .iaload, 0, 0), (2656, .aload_n 0, 0, 0), (2657, .iload 4, 0, 0), (2659, .iconst 4, 0, 0), (2660, .iadd, 0, 0), (2661, .iaload, 0, 0), (2662, .aload_n 0, 0, 0), (2663, .iload 4, 0, 0), (2665, .iconst 5, 0, 0), (2666, .iadd, 0, 0), (2667, .iaload, 0, 0), (2668, .invokevirtual 292, 275, 0), (2671, .istore 6, 0, 0), (2673, .aload_n 2, 0, 0), (2674, .invokevirtual 180, 172, 0), (2677, .iload 5, 0, 0), (2679, .if_icmp .eq 5, 0, 0), (2682, .iconst 0, 0, 0), (2683, .ireturn, 0, 0), (2684, .iload 5, 0, 0), (2686, .ifCond .ne 15, 0, 0), (2689, .aload_n 3, 0, 0), (2690, .iconst 0, 0, 0), (2691, .laload, 0, 0), (2692, .iload 6, 0, 0), (2694, .i2l, 0, 0), (2695, .lcmp, 0, 0), (2696, .ifCond .eq 5, 0, 0), (2699, .iconst 0, 0, 0), (2700, .ireturn, 0, 0), (2701, .goto 928, 0, 0), (2704, .aload_n 1, 0, 0), (2705, .aload_n 0, 0, 0), (2706, .iload 4, 0, 0), (2708, .iconst 1, 0, 0), (2709, .iadd, 0, 0), (2710, .iaload, 0, 0), (2711, .ifCond .eq 7, 0, 0), (2714, .iconst 1, 0, 0), (2715, .goto 4, 0, 0), (2718, .iconst 0, 0, 0), (2719, .aload_n 3, 0, 0), (2720, .invokestatic 293, 354, 8), (2723, .istore 5, 0, 0), (2725, .aload_n 2, 0, 0), (2726, .aload_n 0, 0, 0), (2727, .iload 4, 0, 0), (2729, .iconst 1, 0, 0), (2730, .iadd, 0, 0), (2731, .iaload, 0, 0), (2732, .ifCond .eq 7, 0, 0), (2735, .iconst 1, 0, 0), (2736, .goto 4, 0, 0), (2739, .iconst 0, 0, 0), (2740, .invokevirtual 296, 296, 0), (2743, .istore 6, 0, 0), (2745, .aload_n 2, 0, 0), (2746, .invokevirtual 180, 172, 0), (2749, .iload 5, 0, 0), (2751, .if_icmp .eq 5, 0, 0), (2754, .iconst 0, 0, 0), (2755, .ireturn, 0, 0), (2756, .iload 5, 0, 0), (2758, .ifCond .ne 15, 0, 0), (2761, .aload_n 3, 0, 0), (2762, .iconst 0, 0, 0), (2763, .laload, 0, 0), (2764, .iload 6, 0, 0), (2766, .i2l, 0, 0), (2767, .lcmp, 0, 0), (2768, .ifCond .eq 5, 0, 0), (2771, .iconst 0, 0, 0), (2772, .ireturn, 0, 0), (2773, .goto 856, 0, 0), (2776, .aload_n 1, 0, 0), (2777, .aload_n 3, 0, 0), (2778, .invokestatic 297, 355, 8), (2781, .istore 5, 0, 0), (2783, .aload_n 2, 0, 0), (2784, .invokevirtual 299, 297, 0), (2787, .istore 6, 0, 0), (2789, .aload_n 2, 0, 0), (2790, .invokevirtual 180, 172, 0), (2793, .iload 5, 0, 0), (2795, .if_icmp .eq 5, 0, 0), (2798, .iconst 0, 0, 0), (2799, .ireturn, 0, 0), (2800, .iload 5, 0, 0), (2802, .ifCond .ne 15, 0, 0), (2805, .aload_n 3, 0, 0), (2806, .iconst 0, 0, 0), (2807, .laload, 0, 0), (2808, .iload 6, 0, 0), (2810, .i2l, 0, 0), (2811, .lcmp, 0, 0), (2812, .ifCond .eq 5, 0, 0), (2815, .iconst 0, 0, 0), (2816, .ireturn, 0, 0), (2817, .goto 812, 0, 0), (2820, .aload_n 1, 0, 0), (2821, .aload_n 0, 0, 0), (2822, .iload 4, 0, 0), (2824, .iconst 1, 0, 0), (2825, .iadd, 0, 0), (2826, .iaload, 0, 0), (2827, .aload_n 3, 0, 0), (2828, .invokestatic 300, 356, 8), (2831, .istore 5, 0, 0), (2833, .aload_n 2, 0, 0), (2834, .aload_n 0, 0, 0), (2835, .iload 4, 0, 0), (2837, .iconst 1, 0, 0), (2838, .iadd, 0, 0), (2839, .iaload, 0, 0), (2840, .invokevirtual 302, 299, 0), (2843, .istore 6, 0, 0), (2845, .aload_n 2, 0, 0), (2846, .invokevirtual 180, 172, 0), (2849, .iload 5, 0, 0), (2851, .if_icmp .eq 5, 0, 0), (2854, .iconst 0, 0, 0), (2855, .ireturn, 0, 0), (2856, .iload 5, 0, 0), (2858, .ifCond .ne 15, 0, 0)]
noncomputable def tb_368_11 : List TE := [(2861, .aload_n 3, 0, 0), (2862, .iconst 0, 0, 0), (2863, .laload, 0, 0), (2864, .iload 6, 0, 0), (2866, .i2l, 0, 0), (2867, .lcmp, 0, 0), (2868, .ifCond .eq 5, 0, 0), (2871, .iconst 0, 0, 0), (2872, .ireturn, 0, 0), (2873, .goto 756, 0, 0), (2876, .aload_n 1, 0, 0), (2877, .aload_n 3, 0, 0), (2878, .invokestatic 303, 357, 8), (2881, .istore 5, 0, 0), (2883, .aload_n 2, 0, 0), (2884, .invokevirtual 305, 300, 0), (2887, .istore 6, 0, 0), (2889, .aload_n 2, 0, 0), (2890, .invokevirtual 180, 172, 0), (2893, .iload 5, 0, 0), (2895, .if_icmp .eq 5, 0, 0), (2898, .iconst 0, 0, 0), (2899, .ireturn, 0, 0), (2900, .iload 5, 0, 0), (2902, .ifCond .ne 15, 0, 0), (2905, .aload_n 3, 0, 0), (2906, .iconst 0, 0, 0), (2907, .laload, 0, 0), (2908, .iload 6, 0, 0), (2910, .i2l, 0, 0), (2911, .lcmp, 0, 0), (2912, .ifCond .eq 5, 0, 0), (2915, .iconst 0, 0, 0), (2916, .ireturn, 0, 0), (2917, .goto 712, 0, 0), (2920, .aload_n 1, 0, 0), (2921, .aload_n 0, 0, 0), (2922, .iload 4, 0, 0), (2924, .iconst 1, 0, 0), (2925, .iadd, 0, 0), (2926, .iaload, 0, 0), (2927, .aload_n 3, 0, 0), (2928, .invokestatic 306, 358, 8), (2931, .istore 5, 0, 0), (2933, .aload_n 2, 0, 0), (2934, .aload_n 0, 0, 0), (2935, .iload 4, 0, 0), (2937, .iconst 1, 0, 0), (2938, .iadd, 0, 0), (2939, .iaload, 0, 0), (2940, .invokevirtual 308, 301, 0), (2943, .istore 6, 0, 0), (2945, .aload_n 2, 0, 0), (2946, .invokevirtual 180, 172, 0), (2949, .iload 5, 0, 0), (2951, .if_icmp .eq 5, 0, 0), (2954, .iconst 0, 0, 0), (2955, .ireturn, 0, 0), (2956, .iload 5, 0, 0), (2958, .ifCond .ne 15, 0, 0), (2961, .aload_n 3, 0, 0), (2962, .iconst 0, 0, 0), (2963, .laload, 0, 0), (2964, .iload 6, 0, 0), (2966, .i2l, 0, 0), (2967, .lcmp, 0, 0), (2968, .ifCond .eq 5, 0, 0), (2971, .iconst 0, 0, 0), (2972, .ireturn, 0, 0), (2973, .goto 656, 0, 0), (2976, .aload_n 1, 0, 0), (2977, .aload_n 0, 0, 0), (2978, .iload 4, 0, 0), (2980, .iconst 1, 0, 0), (2981, .iadd, 0, 0), (2982, .iaload, 0, 0), (2983, .aload_n 3, 0, 0), (2984, .invokestatic 309, 359, 8), (2987, .istore 5, 0, 0), (2989, .aload_n 2, 0, 0), (2990, .aload_n 0, 0, 0), (2991, .iload 4, 0, 0), (2993, .iconst 1, 0, 0), (2994, .iadd, 0, 0), (2995, .iaload, 0, 0), (2996, .invokevirtual 311, 302, 0), (2999, .istore 6, 0, 0), (3001, .aload_n 2, 0, 0), (3002, .invokevirtual 180, 172, 0), (3005, .iload 5, 0, 0), (3007, .if_icmp .eq 5, 0, 0), (3010, .iconst 0, 0, 0), (3011, .ireturn, 0, 0), (3012, .iload 5, 0, 0), (3014, .ifCond .ne 15, 0, 0), (3017, .aload_n 3, 0, 0), (3018, .iconst 0, 0, 0), (3019, .laload, 0, 0), (3020, .iload 6, 0, 0), (3022, .i2l, 0, 0), (3023, .lcmp, 0, 0), (3024, .ifCond .eq 5, 0, 0), (3027, .iconst 0, 0, 0), (3028, .ireturn, 0, 0), (3029, .goto 600, 0, 0), (3032, .aload_n 1, 0, 0), (3033, .aload_n 0, 0, 0), (3034, .iload 4, 0, 0), (3036, .iconst 1, 0, 0), (3037, .iadd, 0, 0), (3038, .iaload, 0, 0), (3039, .aload_n 0, 0, 0), (3040, .iload 4, 0, 0), (3042, .iconst 2, 0, 0), (3043, .iadd, 0, 0), (3044, .iaload, 0, 0), (3045, .aload_n 3, 0, 0), (3046, .invokestatic 312, 360, 8), (3049, .istore 5, 0, 0), (3051, .aload_n 2, 0, 0), (3052, .aload_n 0, 0, 0), (3053, .iload 4, 0, 0), (3055, .iconst 1, 0, 0), (3056, .iadd, 0, 0), (3057, .iaload, 0, 0), (3058, .aload_n 0, 0, 0), (3059, .iload 4, 0, 0), (3061, .iconst 2, 0, 0), (3062, .iadd, 0, 0), (3063, .iaload, 0, 0), (3064, .invokevirtual 314, 303, 0), (3067, .istore 6, 0, 0), (3069, .aload_n 2, 0, 0), (3070, .invokevirtual 180, 172, 0), (3073, .iload 5, 0, 0), (3075, .if_icmp .eq 5, 0, 0), (3078, .iconst 0, 0, 0), (3079, .ireturn, 0, 0), (3080, .iload 5, 0, 0), (3082, .ifCond .ne 15, 0, 0), (3085, .aload_n 3, 0, 0), (3086, .iconst 0, 0, 0), (3087, .laload, 0, 0), (3088, .iload 6, 0, 0), (3090, .i2l, 0, 0), (3091, .lcmp, 0, 0), (3092, .ifCond .eq 5, 0, 0), (3095, .iconst 0, 0, 0), (3096, .ireturn, 0, 0), (3097, .goto 532, 0, 0), (3100, .aload_n 1, 0, 0), (3101, .aload_n 0, 0, 0), (3102, .iload 4, 0, 0), (3104, .iconst 1, 0, 0), (3105, .iadd, 0, 0), (3106, .iaload, 0, 0), (3107, .aload_n 0, 0, 0), (3108, .iload 4, 0, 0), (3110, .iconst 2, 0, 0), (3111, .iadd, 0, 0)]
noncomputable def tb_368_12 : List TE := [(3112, .iaload, 0, 0), (3113, .aload_n 0, 0, 0), (3114, .iload 4, 0, 0), (3116, .iconst 3, 0, 0), (3117, .iadd, 0, 0), (3118, .iaload, 0, 0), (3119, .ifCond .eq 7, 0, 0), (3122, .iconst 1, 0, 0), (3123, .goto 4, 0, 0), (3126, .iconst 0, 0, 0), (3127, .aload_n 3, 0, 0), (3128, .invokestatic 315, 361, 8), (3131, .istore 5, 0, 0), (3133, .aload_n 2, 0, 0), (3134, .aload_n 0, 0, 0), (3135, .iload 4, 0, 0), (3137, .iconst 1, 0, 0), (3138, .iadd, 0, 0), (3139, .iaload, 0, 0), (3140, .aload_n 0, 0, 0), (3141, .iload 4, 0, 0), (3143, .iconst 2, 0, 0), (3144, .iadd, 0, 0), (3145, .iaload, 0, 0), (3146, .aload_n 0, 0, 0), (3147, .iload 4, 0, 0), (3149, .iconst 3, 0, 0), (3150, .iadd, 0, 0), (3151, .iaload, 0, 0), (3152, .ifCond .eq 7, 0, 0), (3155, .iconst 1, 0, 0), (3156, .goto 4, 0, 0), (3159, .iconst 0, 0, 0), (3160, .invokevirtual 317, 307, 0), (3163, .istore 6, 0, 0), (3165, .aload_n 2, 0, 0), (3166, .invokevirtual 180, 172, 0), (3169, .iload 5, 0, 0), (3171, .if_icmp .eq 5, 0, 0), (3174, .iconst 0, 0, 0), (3175, .ireturn, 0, 0), (3176, .iload 5, 0, 0), (3178, .ifCond .ne 15, 0, 0), (3181, .aload_n 3, 0, 0), (3182, .iconst 0, 0, 0), (3183, .laload, 0, 0), (3184, .iload 6, 0, 0), (3186, .i2l, 0, 0), (3187, .lcmp, 0, 0), (3188, .ifCond .eq 5, 0, 0), (3191, .iconst 0, 0, 0), (3192, .ireturn, 0, 0), (3193, .goto 436, 0, 0), (3196, .aload_n 1, 0, 0), (3197, .aload_n 0, 0, 0), (3198, .iload 4, 0, 0), (3200, .iconst 1, 0, 0), (3201, .iadd, 0, 0), (3202, .iaload, 0, 0), (3203, .aload_n 0, 0, 0), (3204, .iload 4, 0, 0), (3206, .iconst 2, 0, 0), (3207, .iadd, 0, 0), (3208, .iaload, 0, 0), (3209, .aload_n 0, 0, 0), (3210, .iload 4, 0, 0), (3212, .iconst 3, 0, 0), (3213, .iadd, 0, 0), (3214, .iaload, 0, 0), (3215, .aload_n 3, 0, 0), (3216, .invokestatic 318, 362, 8), (3219, .istore 5, 0, 0), (3221, .aload_n 2, 0, 0), (3222, .aload_n 0, 0, 0), (3223, .iload 4, 0, 0), (3225, .iconst 1, 0, 0), (3226, .iadd, 0, 0), (3227, .iaload, 0, 0), (3228, .aload_n 0, 0, 0), (3229, .iload 4, 0, 0), (3231, .iconst 2, 0, 0), (3232, .iadd, 0, 0), (3233, .iaload, 0, 0), (3234, .aload_n 0, 0, 0), (3235, .iload 4, 0, 0), (3237, .iconst 3, 0, 0), (3238, .iadd, 0, 0), (3239, .iaload, 0, 0), (3240, .invokevirtual 320, 308, 0), (3243, .istore 6, 0, 0), (3245, .aload_n 2, 0, 0), (3246, .invokevirtual 180, 172, 0), (3249, .iload 5, 0, 0), (3251, .if_icmp .eq 5, 0, 0), (3254, .iconst 0, 0, 0), (3255, .ireturn, 0, 0), (3256, .iload 5, 0, 0), (3258, .ifCond .ne 15, 0, 0), (3261, .aload_n 3, 0, 0), (3262, .iconst 0, 0, 0), (3263, .laload, 0, 0), (3264, .iload 6, 0, 0), (3266, .i2l, 0, 0), (3267, .lcmp, 0, 0), (3268, .ifCond .eq 5, 0, 0), (3271, .iconst 0, 0, 0), (3272, .ireturn, 0, 0), (3273, .goto 356, 0, 0), (3276, .aload_n 1, 0, 0), (3277, .aload_n 0, 0, 0), (3278, .iload 4, 0, 0), (3280, .iconst 1, 0, 0), (3281, .iadd, 0, 0), (3282, .iaload, 0, 0), (3283, .aload_n 0, 0, 0), (3284, .iload 4, 0, 0), (3286, .iconst 2, 0, 0), (3287, .iadd, 0, 0), (3288, .iaload, 0, 0), (3289, .aload_n 3, 0, 0), (3290, .invokestatic 321, 363, 8), (3293, .istore 5, 0, 0), (3295, .aload_n 2, 0, 0), (3296, .aload_n 0, 0, 0), (3297, .iload 4, 0, 0), (3299, .iconst 1, 0, 0), (3300, .iadd, 0, 0), (3301, .iaload, 0, 0), (3302, .aload_n 0, 0, 0), (3303, .iload 4, 0, 0), (3305, .iconst 2, 0, 0), (3306, .iadd, 0, 0), (3307, .iaload, 0, 0), (3308, .invokevirtual 323, 310, 0), (3311, .istore 6, 0, 0), (3313, .aload_n 2, 0, 0), (3314, .invokevirtual 180, 172, 0), (3317, .iload 5, 0, 0), (3319, .if_icmp .eq 5, 0, 0), (3322, .iconst 0, 0, 0), (3323, .ireturn, 0, 0), (3324, .iload 5, 0, 0), (3326, .ifCond .ne 15, 0, 0), (3329, .aload_n 3, 0, 0), (3330, .iconst 0, 0, 0), (3331, .laload, 0, 0), (3332, .iload 6, 0, 0), (3334, .i2l, 0, 0), (3335, .lcmp, 0, 0), (3336, .ifCond .eq 5, 0, 0), (3339, .iconst 0, 0, 0), (3340, .ireturn, 0, 0), (3341, .goto 288, 0, 0), (3344, .aload_n 1, 0, 0), (3345, .aload_n 0, 0, 0), (3346, .iload 4, 0, 0), (3348, .iconst 1, 0, 0), (3349, .iadd, 0, 0), (3350, .iaload, 0, 0), (3351, .aload_n 0, 0, 0)]
noncomputable def tb_368_13 : List TE := [(3352, .iload 4, 0, 0), (3354, .iconst 2, 0, 0), (3355, .iadd, 0, 0), (3356, .iaload, 0, 0), (3357, .aload_n 0, 0, 0), (3358, .iload 4, 0, 0), (3360, .iconst 3, 0, 0), (3361, .iadd, 0, 0), (3362, .iaload, 0, 0), (3363, .aload_n 0, 0, 0), (3364, .iload 4, 0, 0), (3366, .iconst 4, 0, 0), (3367, .iadd, 0, 0), (3368, .iaload, 0, 0), (3369, .aload_n 3, 0, 0), (3370, .invokestatic 324, 364, 8), (3373, .istore 5, 0, 0), (3375, .aload_n 2, 0, 0), (3376, .aload_n 0, 0, 0), (3377, .iload 4, 0, 0), (3379, .iconst 1, 0, 0), (3380, .iadd, 0, 0), (3381, .iaload, 0, 0), (3382, .aload_n 0, 0, 0), (3383, .iload 4, 0, 0), (3385, .iconst 2, 0, 0), (3386, .iadd, 0, 0), (3387, .iaload, 0, 0), (3388, .aload_n 0, 0, 0), (3389, .iload 4, 0, 0), (3391, .iconst 3, 0, 0), (3392, .iadd, 0, 0), (3393, .iaload, 0, 0), (3394, .aload_n 0, 0, 0), (3395, .iload 4, 0, 0), (3397, .iconst 4, 0, 0), (3398, .iadd, 0, 0), (3399, .iaload, 0, 0), (3400, .invokevirtual 326, 312, 0), (3403, .istore 6, 0, 0), (3405, .aload_n 2, 0, 0), (3406, .invokevirtual 180, 172, 0), (3409, .iload 5, 0, 0), (3411, .if_icmp .eq 5, 0, 0), (3414, .iconst 0, 0, 0), (3415, .ireturn, 0, 0), (3416, .iload 5, 0, 0), (3418, .ifCond .ne 15, 0, 0), (3421, .aload_n 3, 0, 0), (3422, .iconst 0, 0, 0), (3423, .laload, 0, 0), (3424, .iload 6, 0, 0), (3426, .i2l, 0, 0), (3427, .lcmp, 0, 0), (3428, .ifCond .eq 5, 0, 0), (3431, .iconst 0, 0, 0), (3432, .ireturn, 0, 0), (3433, .goto 196, 0, 0), (3436, .aload_n 1, 0, 0), (3437, .aload_n 0, 0, 0), (3438, .iload 4, 0, 0), (3440, .iconst 1, 0, 0), (3441, .iadd, 0, 0), (3442, .iaload, 0, 0), (3443, .aload_n 3, 0, 0), (3444, .invokestatic 327, 365, 8), (3447, .istore 5, 0, 0), (3449, .aload_n 2, 0, 0), (3450, .aload_n 0, 0, 0), (3451, .iload 4, 0, 0), (3453, .iconst 1, 0, 0), (3454, .iadd, 0, 0), (3455, .iaload, 0, 0), (3456, .invokevirtual 329, 285, 0), (3459, .istore 6, 0, 0), (3461, .aload_n 2, 0, 0), (3462, .invokevirtual 180, 172, 0), (3465, .iload 5, 0, 0), (3467, .if_icmp .eq 5, 0, 0), (3470, .iconst 0, 0, 0), (3471, .ireturn, 0, 0), (3472, .iload 5, 0, 0), (3474, .ifCond .ne 15, 0, 0), (3477, .aload_n 3, 0, 0), (3478, .iconst 0, 0, 0), (3479, .laload, 0, 0), (3480, .iload 6, 0, 0), (3482, .i2l, 0, 0), (3483, .lcmp, 0, 0), (3484, .ifCond .eq 5, 0, 0), (3487, .iconst 0, 0, 0), (3488, .ireturn, 0, 0), (3489, .goto 140, 0, 0), (3492, .aload_n 1, 0, 0), (3493, .aload_n 0, 0, 0), (3494, .iload 4, 0, 0), (3496, .iconst 1, 0, 0), (3497, .iadd, 0, 0), (3498, .iaload, 0, 0), (3499, .aload_n 3, 0, 0), (3500, .invokestatic 330, 366, 8), (3503, .istore 5, 0, 0), (3505, .aload_n 2, 0, 0), (3506, .aload_n 0, 0, 0), (3507, .iload 4, 0, 0), (3509, .iconst 1, 0, 0), (3510, .iadd, 0, 0), (3511, .iaload, 0, 0), (3512, .invokevirtual 332, 304, 0), (3515, .istore 6, 0, 0), (3517, .aload_n 2, 0, 0), (3518, .invokevirtual 180, 172, 0), (3521, .iload 5, 0, 0), (3523, .if_icmp .eq 5, 0, 0), (3526, .iconst 0, 0, 0), (3527, .ireturn, 0, 0), (3528, .iload 5, 0, 0), (3530, .ifCond .ne 15, 0, 0), (3533, .aload_n 3, 0, 0), (3534, .iconst 0, 0, 0), (3535, .laload, 0, 0), (3536, .iload 6, 0, 0), (3538, .i2l, 0, 0), (3539, .lcmp, 0, 0), (3540, .ifCond .eq 5, 0, 0), (3543, .iconst 0, 0, 0), (3544, .ireturn, 0, 0), (3545, .goto 84, 0, 0), (3548, .aload_n 1, 0, 0), (3549, .aload_n 0, 0, 0), (3550, .iload 4, 0, 0), (3552, .iconst 1, 0, 0), (3553, .iadd, 0, 0), (3554, .iaload, 0, 0), (3555, .aload_n 3, 0, 0), (3556, .invokestatic 333, 367, 8), (3559, .istore 5, 0, 0), (3561, .aload_n 2, 0, 0), (3562, .aload_n 0, 0, 0), (3563, .iload 4, 0, 0), (3565, .iconst 1, 0, 0), (3566, .iadd, 0, 0), (3567, .iaload, 0, 0), (3568, .invokevirtual 335, 305, 0), (3571, .istore 6, 0, 0), (3573, .aload_n 2, 0, 0), (3574, .invokevirtual 180, 172, 0), (3577, .iload 5, 0, 0), (3579, .if_icmp .eq 5, 0, 0), (3582, .iconst 0, 0, 0), (3583, .ireturn, 0, 0), (3584, .iload 5, 0, 0), (3586, .ifCond .ne 15, 0, 0), (3589, .aload_n 3, 0, 0), (3590, .iconst 0, 0, 0), (3591, .laload, 0, 0), (3592, .iload 6, 0, 0), (3594, .i2l, 0, 0), (3595, .lcmp, 0, 0), (3596, .ifCond .eq 5, 0, 0)]
noncomputable def tb_368_14 : List TE := [(3599, .iconst 0, 0, 0), (3600, .ireturn, 0, 0), (3601, .goto 28, 0, 0), (3604, .aload_n 1, 0, 0), (3605, .aload_n 0, 0, 0), (3606, .iload 4, 0, 0), (3608, .iconst 1, 0, 0), (3609, .iadd, 0, 0), (3610, .iaload, 0, 0), (3611, .invokevirtual 336, 150, 0), (3614, .aload_n 2, 0, 0), (3615, .aload_n 0, 0, 0), (3616, .iload 4, 0, 0), (3618, .iconst 1, 0, 0), (3619, .iadd, 0, 0), (3620, .iaload, 0, 0), (3621, .invokevirtual 339, 314, 0), (3624, .if_icmp .eq 5, 0, 0), (3627, .iconst 0, 0, 0), (3628, .ireturn, 0, 0), (3629, .iinc 4 6, 0, 0), (3632, .goto (-3609), 0, 0), (3635, .iconst 1, 0, 0), (3636, .ireturn, 0, 0)]
noncomputable def tb_368 : List TE := tb_368_0 ++ (tb_368_1 ++ (tb_368_2 ++ (tb_368_3 ++ (tb_368_4 ++ (tb_368_5 ++ (tb_368_6 ++ (tb_368_7 ++ (tb_368_8 ++ (tb_368_9 ++ (tb_368_10 ++ (tb_368_11 ++ (tb_368_12 ++ (tb_368_13 ++ (tb_368_14))))))))))))))
noncomputable def MT_0 : List PM := [(yX0_init, cX0_init, 1, none, 0, 1, (7, 100), tb_0),
  (yX0_put, cX0_put, 6, none, 0, 6, (0, 0), tb_1),
  (yX0_latencyAt, cX0_latencyAt, 2, (some .int), 0, 2, (0, 0), tb_2),
  (yX0_unitAt, cX0_unitAt, 2, (some .int), 0, 2, (0, 0), tb_3),
  (yX0_busyAt, cX0_busyAt, 2, (some .int), 0, 2, (0, 0), tb_4),
  (yX0_sourcesOf, cX0_sourcesOf, 2, (some .int), 0, 2, (0, 0), tb_5),
  (yX0_sourceAt, cX0_sourceAt, 3, (some .int), 0, 3, (0, 0), tb_6),
  (yX0_distanceAt, cX0_distanceAt, 3, (some .int), 0, 3, (0, 0), tb_7),
  (yX0_rowAt, cX0_rowAt, 2, (some .int), 0, 2, (0, 0), tb_8),
  (yX0_placeAt, cX0_placeAt, 2, (some .int), 0, 2, (0, 0), tb_9),
  (yX0_isWhole, cX0_isWhole, 3, (some .boolean), 0, 1, (0, 0), tb_10),
  (yX0_holdsSource, cX0_holdsSource, 4, (some .boolean), 0, 4, (0, 0), tb_11),
  (yX0_usesOf, cX0_usesOf, 4, (some .int), 0, 2, (0, 0), tb_12),
  (yX0_latencySum, cX0_latencySum, 3, (some .int), 0, 1, (0, 0), tb_13),
  (yX0_byUnits, cX0_byUnits, 6, (some .int), 0, 3, (0, 0), tb_14),
  (yX1_init, cX1_init, 1, none, 1, 1, (6, 48), tb_15),
  (yX1_draw, cX1_draw, 6, none, 1, 5, (0, 0), tb_16),
  (yX1_drawTimes, cX1_drawTimes, 7, none, 1, 2, (0, 0), tb_17),
  (yX1_drawLives, cX1_drawLives, 6, none, 1, 2, (0, 0), tb_18),
  (yX1_drawNames, cX1_drawNames, 4, none, 1, 2, (0, 0), tb_19),
  (yX1_pairedSum, cX1_pairedSum, 3, (some .int), 1, 1, (0, 0), tb_20),
  (yX1_stageOf, cX1_stageOf, 2, (some .int), 1, 2, (0, 0), tb_21),
  (yX1_aliveIn, cX1_aliveIn, 5, (some .int), 1, 2, (0, 0), tb_22),
  (yX1_fullestSlot, cX1_fullestSlot, 5, (some .int), 1, 1, (0, 0), tb_23),
  (yX1_looseOf, cX1_looseOf, 7, (some .int), 1, 3, (0, 0), tb_24),
  (yX1_asksIn, cX1_asksIn, 6, (some .int), 1, 4, (0, 0), tb_25),
  (yX1_askedIn, cX1_askedIn, 6, (some .int), 1, 4, (0, 0), tb_26),
  (yX1_usersIn, cX1_usersIn, 6, (some .int), 1, 4, (0, 0), tb_27),
  (yX1_turnBegun, cX1_turnBegun, 5, (some .int), 1, 4, (0, 0), tb_28),
  (yX1_cyclesOf, cX1_cyclesOf, 2, (some .int), 1, 2, (0, 0), tb_29),
  (yX1_headOf, cX1_headOf, 3, (some .int), 1, 2, (0, 0), tb_30),
  (yX1_ringOf, cX1_ringOf, 2, (some .int), 1, 2, (0, 0), tb_31),
  (yX1_peeledOf, cX1_peeledOf, 2, (some .int), 1, 2, (0, 0), tb_32),
  (yX1_cyclesWithoutBegin, cX1_cyclesWithoutBegin, 5, (some .int), 1, 2, (0, 0), tb_33),
  (yX1_hasBegin, cX1_hasBegin, 4, (some .boolean), 1, 3, (0, 0), tb_34),
  (yX1_turnInName, cX1_turnInName, 6, (some .int), 1, 5, (0, 0), tb_35),
  (yX2_init, cX2_init, 1, none, 2, 1, (4, 40), tb_36),
  (yX2_seek, cX2_seek, 6, none, 2, 5, (0, 0), tb_37),
  (yX2_highest, cX2_highest, 5, (some .int), 2, 2, (0, 0), tb_38),
  (yX2_move, cX2_move, 7, none, 2, 4, (0, 0), tb_39)]
noncomputable def MT_1 : List PM := [(yX2_earlyOf, cX2_earlyOf, 6, (some .int), 2, 3, (0, 0), tb_40),
  (yX2_tally, cX2_tally, 4, none, 2, 3, (0, 0), tb_41),
  (yX2_ask, cX2_ask, 5, none, 2, 4, (0, 0), tb_42),
  (yX2_hasRoom, cX2_hasRoom, 6, (some .boolean), 2, 4, (0, 0), tb_43),
  (yX2_isCrowded, cX2_isCrowded, 5, (some .boolean), 2, 4, (0, 0), tb_44),
  (yX2_sendSharers, cX2_sendSharers, 6, none, 2, 3, (0, 0), tb_45),
  (yX2_meetsCrowded, cX2_meetsCrowded, 7, (some .boolean), 2, 4, (0, 0), tb_46),
  (yX2_slotsOf, cX2_slotsOf, 5, (some .int), 2, 3, (0, 0), tb_47),
  (yX2_sendBroken, cX2_sendBroken, 8, none, 2, 3, (0, 0), tb_48),
  (yX3_init, cX3_init, 1, none, 3, 1, (1, 1024), tb_49),
  (yX3_waited, cX3_waited, 11, (some .int), 3, 6, (0, 0), tb_50),
  (yX3_lastComing, cX3_lastComing, 9, (some .int), 3, 5, (0, 0), tb_51),
  (yX3_comingOf, cX3_comingOf, 8, (some .int), 3, 5, (0, 0), tb_52),
  (yX4_init, cX4_init, 1, none, 4, 1, (4, 450), tb_53),
  (yX4_turns, cX4_turns, 5, none, 4, 3, (0, 0), tb_54),
  (yX4_act, cX4_act, 7, (some .int), 4, 4, (0, 0), tb_55),
  (yX4_look, cX4_look, 7, (some .int), 4, 5, (0, 0), tb_56),
  (yX4_valueOf, cX4_valueOf, 4, (some .int), 4, 4, (0, 0), tb_57),
  (yX5_init, cX5_init, 1, none, 5, 1, (1, 64), tb_58),
  (yX5_span, cX5_span, 6, none, 5, 4, (0, 0), tb_59),
  (yX5_goOver, cX5_goOver, 7, none, 5, 3, (0, 0), tb_60),
  (yX5_above, cX5_above, 4, (some .int), 5, 2, (0, 0), tb_61),
  (yX5_soonestOf, cX5_soonestOf, 4, (some .int), 5, 2, (0, 0), tb_62),
  (yX5_latestOf, cX5_latestOf, 7, (some .int), 5, 3, (0, 0), tb_63),
  (yX6_init, cX6_init, 1, none, 6, 1, (15, 722), tb_64),
  (yX6_holdsByUnits, cX6_holdsByUnits, 6, (some .boolean), 6, 3, (0, 0), tb_65),
  (yX6_findFirst, cX6_findFirst, 8, (some .boolean), 6, 2, (0, 0), tb_66),
  (yX6_take, cX6_take, 4, (some .boolean), 6, 3, (0, 0), tb_67),
  (yX6_takeBusy, cX6_takeBusy, 5, (some .boolean), 6, 3, (0, 0), tb_68),
  (yX6_tieAll, cX6_tieAll, 5, none, 6, 2, (0, 0), tb_69),
  (yX6_pairTwins, cX6_pairTwins, 3, none, 6, 1, (0, 0), tb_70),
  (yX6_areTwins, cX6_areTwins, 4, (some .boolean), 6, 3, (0, 0), tb_71),
  (yX6_groupOf, cX6_groupOf, 6, (some .int), 6, 2, (0, 0), tb_72),
  (yX6_settle, cX6_settle, 6, (some .boolean), 6, 2, (0, 0), tb_73),
  (yX6_isHarder, cX6_isHarder, 5, (some .boolean), 6, 5, (0, 0), tb_74),
  (yX6_keepWitness, cX6_keepWitness, 2, none, 6, 1, (0, 0), tb_75),
  (yX6_openTo, cX6_openTo, 6, (some .int), 6, 2, (0, 0), tb_76),
  (yX6_windowOf, cX6_windowOf, 7, (some .int), 6, 3, (0, 0), tb_77),
  (yX6_turned, cX6_turned, 3, (some .int), 6, 3, (0, 0), tb_78),
  (yX6_place, cX6_place, 7, (some .boolean), 6, 3, (0, 0), tb_79)]
noncomputable def MT_2 : List PM := [(yX6_lift, cX6_lift, 2, none, 6, 2, (0, 0), tb_80),
  (yX6_hasManyTies, cX6_hasManyTies, 2, (some .boolean), 6, 2, (0, 0), tb_81),
  (yX6_align, cX6_align, 5, (some .boolean), 6, 2, (0, 0), tb_82),
  (yX6_tighten, cX6_tighten, 5, none, 6, 2, (0, 0), tb_83),
  (yX7_init, cX7_init, 1, none, 7, 1, (4, 256), tb_84),
  (yX7_rounds, cX7_rounds, 1, (some .int), 7, 1, (0, 0), tb_85),
  (yX7_weave, cX7_weave, 6, none, 7, 3, (0, 0), tb_86),
  (yX7_latencyBut, cX7_latencyBut, 4, (some .int), 7, 3, (0, 0), tb_87),
  (yX7_weaveRows, cX7_weaveRows, 11, none, 7, 5, (0, 0), tb_88),
  (yX7_insert, cX7_insert, 8, none, 7, 5, (0, 0), tb_89),
  (yX7_compareAt, cX7_compareAt, 6, (some .int), 7, 6, (0, 0), tb_90),
  (yX7_set, cX7_set, 6, none, 7, 6, (0, 0), tb_91),
  (yX7_takeAllBut, cX7_takeAllBut, 4, none, 7, 3, (0, 0), tb_92),
  (yX7_weigh, cX7_weigh, 3, none, 7, 2, (0, 0), tb_93),
  (yX7_goOn, cX7_goOn, 7, none, 7, 6, (0, 0), tb_94),
  (yX7_weighRing, cX7_weighRing, 5, none, 7, 4, (0, 0), tb_95),
  (yX7_commonDivisor, cX7_commonDivisor, 6, (some .int), 7, 2, (0, 0), tb_96),
  (yX8_init, cX8_init, 1, none, 8, 1, (1, 8), tb_97),
  (yX8_settleAll, cX8_settleAll, 5, (some .boolean), 8, 3, (0, 0), tb_98),
  (yX8_leastPlace, cX8_leastPlace, 7, (some .int), 8, 4, (0, 0), tb_99),
  (yX8_shutBy, cX8_shutBy, 11, (some .long), 8, 5, (0, 0), tb_100),
  (yX9_init, cX9_init, 2, none, 9, 1, (160, 4200), tb_101),
  (yX9_reckon, cX9_reckon, 6, (some .int), 9, 6, (2, 12), tb_102),
  (yX9_load, cX9_load, 3, (some .int), 9, 3, (2, 12), tb_103),
  (yX9_store, cX9_store, 5, (some .int), 9, 5, (2, 12), tb_104),
  (yX9_drop, cX9_drop, 1, (some .int), 9, 1, (1, 6), tb_105),
  (yX9_first, cX9_first, 4, (some .int), 9, 3, (2, 12), tb_106),
  (yX9_kind, cX9_kind, 6, none, 9, 5, (2, 12), tb_107),
  (yX9_unit, cX9_unit, 4, (some .int), 9, 3, (2, 12), tb_108),
  (yX9_op, cX9_op, 3, (some .int), 9, 3, (2, 12), tb_109),
  (yX9_isSound, cX9_isSound, 1, (some .boolean), 9, 1, (0, 0), tb_110),
  (yX9_need, cX9_need, 3, (some .int), 9, 3, (3, 18), tb_111),
  (yX9_far, cX9_far, 5, (some .int), 9, 4, (5, 30), tb_112),
  (yX9_height, cX9_height, 3, (some .int), 9, 3, (4, 24), tb_113),
  (yX9_uses, cX9_uses, 2, (some .int), 9, 2, (1, 6), tb_114),
  (yX9_fits, cX9_fits, 2, (some .boolean), 9, 2, (2, 12), tb_115),
  (yX9_least, cX9_least, 2, (some .int), 9, 1, (1, 6), tb_116),
  (yX9_time, cX9_time, 3, (some .int), 9, 3, (4, 24), tb_117),
  (yX9_ring, cX9_ring, 4, (some .int), 9, 4, (6, 36), tb_118),
  (yX9_quick, cX9_quick, 3, (some .int), 9, 3, (4, 24), tb_119)]
noncomputable def MT_3 : List PM := [(yX9_moves, cX9_moves, 2, (some .int), 9, 2, (3, 18), tb_120),
  (yX9_quickest, cX9_quickest, 2, (some .int), 9, 1, (1, 6), tb_121),
  (yX9_plan, cX9_plan, 4, (some .int), 9, 3, (4, 24), tb_122),
  (yX9_life, cX9_life, 5, (some .int), 9, 4, (5, 30), tb_123),
  (yX9_alive, cX9_alive, 3, (some .int), 9, 3, (5, 30), tb_124),
  (yX9_flat, cX9_flat, 5, (some .int), 9, 5, (7, 42), tb_125),
  (yX9_cycles, cX9_cycles, 5, (some .int), 9, 4, (6, 36), tb_126),
  (yX9_run, cX9_run, 5, (some .int), 9, 5, (6, 36), tb_127),
  (yX9_comes, cX9_comes, 4, (some .int), 9, 4, (7, 42), tb_128),
  (yX9_plain, cX9_plain, 4, (some .int), 9, 4, (3, 18), tb_129),
  (yX9_gate, cX9_gate, 7, (some .boolean), 9, 5, (7, 42), tb_130),
  (yX9_code, cX9_code, 4, (some .int), 9, 3, (3, 18), tb_131),
  (yX9_peel, cX9_peel, 6, (some .int), 9, 4, (5, 30), tb_132),
  (yX9_turning, cX9_turning, 4, (some .int), 9, 2, (3, 18), tb_133),
  (yX9_rotary, cX9_rotary, 4, (some .int), 9, 4, (6, 36), tb_134),
  (yX9_name, cX9_name, 7, (some .int), 9, 6, (8, 48), tb_135),
  (yX9_rate, cX9_rate, 2, (some .int), 9, 2, (1, 6), tb_136),
  (yX9_critical, cX9_critical, 1, (some .int), 9, 1, (1, 6), tb_137),
  (yX9_fold, cX9_fold, 2, (some .int), 9, 2, (2, 12), tb_138),
  (yX9_bestFold, cX9_bestFold, 5, (some .int), 9, 1, (1, 6), tb_139),
  (yX9_faster, cX9_faster, 2, (some .int), 9, 2, (3, 18), tb_140),
  (yX9_without, cX9_without, 2, (some .int), 9, 2, (2, 12), tb_141),
  (yX9_idle, cX9_idle, 3, (some .int), 9, 3, (4, 24), tb_142),
  (yX9_bare, cX9_bare, 4, (some .int), 9, 4, (4, 24), tb_143),
  (yX9_who, cX9_who, 4, (some .int), 9, 4, (6, 36), tb_144),
  (yX9_holes, cX9_holes, 3, (some .int), 9, 3, (5, 30), tb_145),
  (yX9_late, cX9_late, 5, (some .int), 9, 5, (6, 36), tb_146),
  (yX9_pays, cX9_pays, 5, (some .int), 9, 2, (3, 18), tb_147),
  (yX9_more, cX9_more, 2, (some .int), 9, 2, (2, 12), tb_148),
  (yX9_squeeze, cX9_squeeze, 4, (some .int), 9, 2, (2, 12), tb_149),
  (yX9_count, cX9_count, 2, (some .int), 9, 2, (0, 0), tb_150),
  (yX9_append, cX9_append, 6, (some .int), 9, 6, (1, 6), tb_151),
  (yX9_foldBound, cX9_foldBound, 2, (some .int), 9, 2, (0, 0), tb_152),
  (yX9_refresh, cX9_refresh, 2, none, 9, 1, (0, 0), tb_153),
  (yX9_chartOf, cX9_chartOf, 3, (some (.object "OverlapMill$Chart")), 9, 2, (0, 0), tb_154),
  (yX9_fittingChart, cX9_fittingChart, 3, (some (.object "OverlapMill$Chart")), 9, 2, (3, 18), tb_155),
  (yX9_requireSound, cX9_requireSound, 1, none, 9, 1, (1, 6), tb_156),
  (yX9_requireRounds, cX9_requireRounds, 2, none, 9, 2, (3, 18), tb_157),
  (yX9_requireOp, cX9_requireOp, 2, none, 9, 2, (1, 6), tb_158),
  (yX9_requireUnit, cX9_requireUnit, 2, none, 9, 2, (1, 6), tb_159)]
noncomputable def MT_4 : List PM := [(yX9_requireKind, cX9_requireKind, 2, none, 9, 2, (1, 6), tb_160),
  (yX9_requireNeed, cX9_requireNeed, 2, none, 9, 2, (1, 6), tb_161),
  (yX9_requireNoStore, cX9_requireNoStore, 2, none, 9, 2, (1, 6), tb_162),
  (yX9_requireWhat, cX9_requireWhat, 2, none, 9, 2, (1, 6), tb_163),
  (yX9_requireStep, cX9_requireStep, 1, none, 9, 1, (1, 6), tb_164),
  (yX9_requireSlot, cX9_requireSlot, 2, none, 9, 2, (1, 6), tb_165),
  (yX9_requireTurns, cX9_requireTurns, 1, none, 9, 1, (1, 6), tb_166),
  (yX9_requireCell, cX9_requireCell, 2, none, 9, 2, (1, 6), tb_167),
  (yX9_isSource, cX9_isSource, 2, (some .boolean), 9, 2, (0, 0), tb_168),
  (yX9_isRowPlace, cX9_isRowPlace, 2, (some .boolean), 9, 2, (0, 0), tb_169),
  (yX9_roundUp, cX9_roundUp, 2, (some .int), 9, 2, (0, 0), tb_170),
  (yX10_init, cX10_init, 2, none, 10, 1, (60, 3000), tb_171),
  (yX10_thrown, cX10_thrown, 1, (some .int), 10, 1, (0, 0), tb_172),
  (yX10_isIn, cX10_isIn, 3, (some .boolean), 10, 3, (0, 0), tb_173),
  (yX10_greater, cX10_greater, 2, (some .int), 10, 2, (0, 0), tb_174),
  (yX10_lesser, cX10_lesser, 2, (some .int), 10, 2, (0, 0), tb_175),
  (yX10_up, cX10_up, 2, (some .int), 10, 2, (0, 0), tb_176),
  (yX10_rest, cX10_rest, 2, (some .int), 10, 2, (0, 0), tb_177),
  (yX10_bits, cX10_bits, 3, (some .int), 10, 1, (0, 0), tb_178),
  (yX10_isSource, cX10_isSource, 2, (some .boolean), 10, 2, (0, 0), tb_179),
  (yX10_isRow, cX10_isRow, 2, (some .boolean), 10, 2, (0, 0), tb_180),
  (yX10_adds, cX10_adds, 6, (some .int), 10, 6, (0, 0), tb_181),
  (yX10_reckon, cX10_reckon, 6, (some .int), 10, 6, (0, 0), tb_182),
  (yX10_load, cX10_load, 3, (some .int), 10, 3, (0, 0), tb_183),
  (yX10_store, cX10_store, 5, (some .int), 10, 5, (0, 0), tb_184),
  (yX10_drop, cX10_drop, 1, (some .int), 10, 1, (0, 0), tb_185),
  (yX10_isOp, cX10_isOp, 2, (some .boolean), 10, 2, (0, 0), tb_186),
  (yX10_first, cX10_first, 4, (some .int), 10, 3, (0, 0), tb_187),
  (yX10_kind, cX10_kind, 5, (some .int), 10, 5, (0, 0), tb_188),
  (yX10_unit, cX10_unit, 4, (some .int), 10, 3, (0, 0), tb_189),
  (yX10_op, cX10_op, 3, (some .int), 10, 3, (0, 0), tb_190),
  (yX10_unitAt, cX10_unitAt, 2, (some .int), 10, 2, (0, 0), tb_191),
  (yX10_latencyAt, cX10_latencyAt, 2, (some .int), 10, 2, (0, 0), tb_192),
  (yX10_busyAt, cX10_busyAt, 2, (some .int), 10, 2, (0, 0), tb_193),
  (yX10_sources, cX10_sources, 2, (some .int), 10, 2, (0, 0), tb_194),
  (yX10_source, cX10_source, 3, (some .int), 10, 3, (0, 0), tb_195),
  (yX10_sourceBy, cX10_sourceBy, 3, (some .int), 10, 3, (0, 0), tb_196),
  (yX10_rowOf, cX10_rowOf, 2, (some .int), 10, 2, (0, 0), tb_197),
  (yX10_placeOf, cX10_placeOf, 2, (some .int), 10, 2, (0, 0), tb_198),
  (yX10_sound, cX10_sound, 4, (some .boolean), 10, 1, (0, 0), tb_199)]
noncomputable def MT_5 : List PM := [(yX10_isSound, cX10_isSound, 1, (some .boolean), 10, 1, (0, 0), tb_200),
  (yX10_isBehind, cX10_isBehind, 6, (some .boolean), 10, 6, (0, 0), tb_201),
  (yX10_comesNeed, cX10_comesNeed, 6, none, 10, 5, (0, 0), tb_202),
  (yX10_isOfRow, cX10_isOfRow, 2, (some .boolean), 10, 2, (0, 0), tb_203),
  (yX10_laysNeeds, cX10_laysNeeds, 6, none, 10, 1, (0, 0), tb_204),
  (yX10_need, cX10_need, 3, (some .int), 10, 3, (0, 0), tb_205),
  (yX10_laysWays, cX10_laysWays, 7, none, 10, 2, (0, 0), tb_206),
  (yX10_isRound, cX10_isRound, 2, (some .boolean), 10, 1, (0, 0), tb_207),
  (yX10_rounds, cX10_rounds, 2, (some .int), 10, 1, (0, 0), tb_208),
  (yX10_usesOf, cX10_usesOf, 4, (some .int), 10, 2, (0, 0), tb_209),
  (yX10_byUnits, cX10_byUnits, 3, (some .int), 10, 1, (0, 0), tb_210),
  (yX10_bound, cX10_bound, 1, (some .int), 10, 1, (0, 0), tb_211),
  (yX10_isStep, cX10_isStep, 1, (some .boolean), 10, 1, (0, 0), tb_212),
  (yX10_isLess, cX10_isLess, 2, (some .boolean), 10, 2, (0, 0), tb_213),
  (yX10_far, cX10_far, 4, (some .int), 10, 4, (0, 0), tb_214),
  (yX10_heightOf, cX10_heightOf, 4, (some .int), 10, 2, (0, 0), tb_215),
  (yX10_height, cX10_height, 3, (some .int), 10, 3, (0, 0), tb_216),
  (yX10_uses, cX10_uses, 2, (some .int), 10, 2, (0, 0), tb_217),
  (yX10_puts, cX10_puts, 6, none, 10, 5, (0, 0), tb_218),
  (yX10_isTooMuch, cX10_isTooMuch, 4, (some .boolean), 10, 3, (0, 0), tb_219),
  (yX10_empties, cX10_empties, 2, none, 10, 1, (0, 0), tb_220),
  (yX10_canBe, cX10_canBe, 8, (some .boolean), 10, 3, (0, 0), tb_221),
  (yX10_findsSlots, cX10_findsSlots, 3, (some .boolean), 10, 2, (0, 0), tb_222),
  (yX10_laysTimes, cX10_laysTimes, 5, none, 10, 2, (0, 0), tb_223),
  (yX10_fitsBy, cX10_fitsBy, 2, (some .boolean), 10, 2, (0, 0), tb_224),
  (yX10_fits, cX10_fits, 2, (some .boolean), 10, 2, (0, 0), tb_225),
  (yX10_least, cX10_least, 2, (some .int), 10, 1, (0, 0), tb_226),
  (yX10_time, cX10_time, 3, (some .int), 10, 3, (0, 0), tb_227),
  (yX10_ring, cX10_ring, 4, (some .int), 10, 4, (0, 0), tb_228),
  (yX10_standsAlone, cX10_standsAlone, 4, (some .boolean), 10, 3, (0, 0), tb_229),
  (yX10_highest, cX10_highest, 3, (some .int), 10, 1, (0, 0), tb_230),
  (yX10_early, cX10_early, 5, (some .int), 10, 3, (0, 0), tb_231),
  (yX10_hasRoom, cX10_hasRoom, 5, (some .boolean), 10, 4, (0, 0), tb_232),
  (yX10_goes, cX10_goes, 3, none, 10, 3, (0, 0), tb_233),
  (yX10_usesSlot, cX10_usesSlot, 5, (some .boolean), 10, 4, (0, 0), tb_234),
  (yX10_collide, cX10_collide, 5, (some .boolean), 10, 4, (0, 0), tb_235),
  (yX10_isKept, cX10_isKept, 3, (some .boolean), 10, 3, (0, 0), tb_236),
  (yX10_comesQuick, cX10_comesQuick, 8, none, 10, 3, (0, 0), tb_237),
  (yX10_goesQuick, cX10_goesQuick, 3, (some .boolean), 10, 2, (0, 0), tb_238),
  (yX10_isQuick, cX10_isQuick, 2, (some .boolean), 10, 2, (0, 0), tb_239)]
noncomputable def MT_6 : List PM := [(yX10_quick, cX10_quick, 3, (some .int), 10, 3, (0, 0), tb_240),
  (yX10_moves, cX10_moves, 2, (some .int), 10, 2, (0, 0), tb_241),
  (yX10_quickest, cX10_quickest, 2, (some .int), 10, 1, (0, 0), tb_242),
  (yX10_span, cX10_span, 3, (some .int), 10, 1, (0, 0), tb_243),
  (yX10_stages, cX10_stages, 4, (some .int), 10, 2, (0, 0), tb_244),
  (yX10_begins, cX10_begins, 2, (some .int), 10, 2, (0, 0), tb_245),
  (yX10_lifeOf, cX10_lifeOf, 6, (some .int), 10, 3, (0, 0), tb_246),
  (yX10_copiesOf, cX10_copiesOf, 3, (some .int), 10, 3, (0, 0), tb_247),
  (yX10_aliveAt, cX10_aliveAt, 6, (some .int), 10, 3, (0, 0), tb_248),
  (yX10_names, cX10_names, 4, (some .int), 10, 2, (0, 0), tb_249),
  (yX10_unroll, cX10_unroll, 4, (some .int), 10, 2, (0, 0), tb_250),
  (yX10_pairedOf, cX10_pairedOf, 5, (some .int), 10, 3, (0, 0), tb_251),
  (yX10_looseOf, cX10_looseOf, 5, (some .int), 10, 3, (0, 0), tb_252),
  (yX10_fullest, cX10_fullest, 4, (some .int), 10, 2, (0, 0), tb_253),
  (yX10_plan, cX10_plan, 5, (some .int), 10, 3, (0, 0), tb_254),
  (yX10_life, cX10_life, 4, (some .int), 10, 4, (0, 0), tb_255),
  (yX10_alive, cX10_alive, 3, (some .int), 10, 3, (0, 0), tb_256),
  (yX10_areTurns, cX10_areTurns, 1, (some .boolean), 10, 1, (0, 0), tb_257),
  (yX10_wrongFlat, cX10_wrongFlat, 3, (some .int), 10, 3, (0, 0), tb_258),
  (yX10_flat, cX10_flat, 6, (some .int), 10, 5, (0, 0), tb_259),
  (yX10_cyclesOf, cX10_cyclesOf, 3, (some .int), 10, 3, (0, 0), tb_260),
  (yX10_headOf, cX10_headOf, 3, (some .int), 10, 3, (0, 0), tb_261),
  (yX10_ringOf, cX10_ringOf, 3, (some .int), 10, 3, (0, 0), tb_262),
  (yX10_cycles, cX10_cycles, 7, (some .int), 10, 4, (0, 0), tb_263),
  (yX10_fillsRows, cX10_fillsRows, 2, none, 10, 1, (0, 0), tb_264),
  (yX10_does, cX10_does, 3, (some .int), 10, 3, (0, 0), tb_265),
  (yX10_nameOf, cX10_nameOf, 4, (some .int), 10, 4, (0, 0), tb_266),
  (yX10_looksAt, cX10_looksAt, 5, (some .int), 10, 4, (0, 0), tb_267),
  (yX10_reckons, cX10_reckons, 3, (some .int), 10, 3, (0, 0), tb_268),
  (yX10_delivers, cX10_delivers, 4, none, 10, 3, (0, 0), tb_269),
  (yX10_turnAt, cX10_turnAt, 5, (some .int), 10, 4, (0, 0), tb_270),
  (yX10_runs, cX10_runs, 6, none, 10, 4, (0, 0), tb_271),
  (yX10_isCell, cX10_isCell, 2, (some .boolean), 10, 2, (0, 0), tb_272),
  (yX10_run, cX10_run, 5, (some .int), 10, 5, (0, 0), tb_273),
  (yX10_comes, cX10_comes, 5, (some .int), 10, 4, (0, 0), tb_274),
  (yX10_name, cX10_name, 8, (some .int), 10, 6, (0, 0), tb_275),
  (yX10_plainRuns, cX10_plainRuns, 5, none, 10, 2, (0, 0), tb_276),
  (yX10_plainLook, cX10_plainLook, 6, (some .int), 10, 4, (0, 0), tb_277),
  (yX10_plainOf, cX10_plainOf, 3, (some .int), 10, 3, (0, 0), tb_278),
  (yX10_plain, cX10_plain, 4, (some .int), 10, 4, (0, 0), tb_279)]
noncomputable def MT_7 : List PM := [(yX10_latencies, cX10_latencies, 3, (some .int), 10, 1, (0, 0), tb_280),
  (yX10_gate, cX10_gate, 6, (some .boolean), 10, 5, (0, 0), tb_281),
  (yX10_code, cX10_code, 3, (some .int), 10, 3, (0, 0), tb_282),
  (yX10_peelOf, cX10_peelOf, 3, (some .int), 10, 3, (0, 0), tb_283),
  (yX10_peel, cX10_peel, 5, (some .int), 10, 4, (0, 0), tb_284),
  (yX10_pays, cX10_pays, 3, (some .int), 10, 2, (0, 0), tb_285),
  (yX10_meet, cX10_meet, 7, (some .boolean), 10, 5, (0, 0), tb_286),
  (yX10_clash, cX10_clash, 7, (some .boolean), 10, 5, (0, 0), tb_287),
  (yX10_fitsFile, cX10_fitsFile, 5, (some .int), 10, 3, (0, 0), tb_288),
  (yX10_isFree, cX10_isFree, 6, (some .boolean), 10, 5, (0, 0), tb_289),
  (yX10_turning, cX10_turning, 3, (some .int), 10, 2, (0, 0), tb_290),
  (yX10_rotary, cX10_rotary, 4, (some .int), 10, 4, (0, 0), tb_291),
  (yX10_comesRing, cX10_comesRing, 8, none, 10, 4, (0, 0), tb_292),
  (yX10_ringsFrom, cX10_ringsFrom, 7, none, 10, 2, (0, 0), tb_293),
  (yX10_tellsRing, cX10_tellsRing, 7, none, 10, 3, (0, 0), tb_294),
  (yX10_laysRate, cX10_laysRate, 2, none, 10, 1, (0, 0), tb_295),
  (yX10_rate, cX10_rate, 2, (some .int), 10, 2, (0, 0), tb_296),
  (yX10_critical, cX10_critical, 1, (some .int), 10, 1, (0, 0), tb_297),
  (yX10_foldOf, cX10_foldOf, 4, (some .int), 10, 2, (0, 0), tb_298),
  (yX10_fold, cX10_fold, 2, (some .int), 10, 2, (0, 0), tb_299),
  (yX10_bestFold, cX10_bestFold, 3, (some .int), 10, 1, (0, 0), tb_300),
  (yX10_faster, cX10_faster, 3, (some .int), 10, 2, (0, 0), tb_301),
  (yX10_without, cX10_without, 3, (some .int), 10, 2, (0, 0), tb_302),
  (yX10_idle, cX10_idle, 3, (some .int), 10, 3, (0, 0), tb_303),
  (yX10_more, cX10_more, 3, (some .int), 10, 2, (0, 0), tb_304),
  (yX10_squeeze, cX10_squeeze, 3, (some .int), 10, 2, (0, 0), tb_305),
  (yX10_laysBare, cX10_laysBare, 5, none, 10, 2, (0, 0), tb_306),
  (yX10_bare, cX10_bare, 4, (some .int), 10, 4, (0, 0), tb_307),
  (yX10_who, cX10_who, 7, (some .int), 10, 4, (0, 0), tb_308),
  (yX10_begin, cX10_begin, 5, (some .boolean), 10, 4, (0, 0), tb_309),
  (yX10_holes, cX10_holes, 5, (some .int), 10, 3, (0, 0), tb_310),
  (yX10_thereAt, cX10_thereAt, 5, (some .int), 10, 4, (0, 0), tb_311),
  (yX10_late, cX10_late, 11, (some .int), 10, 5, (0, 0), tb_312),
  (yX10_ofNeeds, cX10_ofNeeds, 3, (some .int), 10, 2, (0, 0), tb_313),
  (yX10_count, cX10_count, 2, (some .int), 10, 2, (0, 0), tb_314),
  (yJ6_bitCount_0f7a4, cJ6_bitCount_0f7a4, 1, (some .int), 12, 1, (0, 0), tb_315),
  (yJ9_floorDiv_7cf53, cJ9_floorDiv_7cf53, 3, (some .int), 13, 2, (0, 0), tb_316),
  (yJ9_floorMod_7cf53, cJ9_floorMod_7cf53, 3, (some .int), 13, 2, (0, 0), tb_317),
  (yJ9_max_7cf53, cJ9_max_7cf53, 2, (some .int), 13, 2, (0, 0), tb_318),
  (yJ9_min_7cf53, cJ9_min_7cf53, 2, (some .int), 13, 2, (0, 0), tb_319)]
noncomputable def MT_8 : List PM := [(yJ7_fill_53178, cJ7_fill_53178, 4, none, 14, 2, (0, 0), tb_320),
  (yL_reckon, cL_reckon, 8, (some .int), 11, 7, (2, 12), tb_321),
  (yL_load, cL_load, 5, (some .int), 11, 4, (2, 12), tb_322),
  (yL_store, cL_store, 7, (some .int), 11, 6, (2, 12), tb_323),
  (yL_drop, cL_drop, 3, (some .int), 11, 2, (1, 6), tb_324),
  (yL_first, cL_first, 5, (some .int), 11, 4, (2, 12), tb_325),
  (yL_kind, cL_kind, 6, (some .int), 11, 5, (2, 12), tb_326),
  (yL_unit, cL_unit, 5, (some .int), 11, 4, (2, 12), tb_327),
  (yL_op, cL_op, 5, (some .int), 11, 4, (2, 12), tb_328),
  (yL_need, cL_need, 5, (some .int), 11, 4, (3, 18), tb_329),
  (yL_far, cL_far, 6, (some .int), 11, 5, (5, 30), tb_330),
  (yL_height, cL_height, 5, (some .int), 11, 4, (4, 24), tb_331),
  (yL_uses, cL_uses, 4, (some .int), 11, 3, (1, 6), tb_332),
  (yL_fits, cL_fits, 4, (some .int), 11, 3, (2, 12), tb_333),
  (yL_least, cL_least, 3, (some .int), 11, 2, (1, 6), tb_334),
  (yL_time, cL_time, 5, (some .int), 11, 4, (4, 24), tb_335),
  (yL_ring, cL_ring, 6, (some .int), 11, 5, (6, 36), tb_336),
  (yL_quick, cL_quick, 5, (some .int), 11, 4, (4, 24), tb_337),
  (yL_moves, cL_moves, 4, (some .int), 11, 3, (3, 18), tb_338),
  (yL_quickest, cL_quickest, 3, (some .int), 11, 2, (1, 6), tb_339),
  (yL_plan, cL_plan, 5, (some .int), 11, 4, (4, 24), tb_340),
  (yL_life, cL_life, 6, (some .int), 11, 5, (5, 30), tb_341),
  (yL_alive, cL_alive, 5, (some .int), 11, 4, (5, 30), tb_342),
  (yL_flat, cL_flat, 7, (some .int), 11, 6, (7, 42), tb_343),
  (yL_cycles, cL_cycles, 6, (some .int), 11, 5, (6, 36), tb_344),
  (yL_run, cL_run, 7, (some .int), 11, 6, (6, 36), tb_345),
  (yL_comes, cL_comes, 6, (some .int), 11, 5, (7, 42), tb_346),
  (yL_plain, cL_plain, 6, (some .int), 11, 5, (3, 18), tb_347),
  (yL_gate, cL_gate, 7, (some .int), 11, 6, (7, 42), tb_348),
  (yL_code, cL_code, 5, (some .int), 11, 4, (3, 18), tb_349),
  (yL_peel, cL_peel, 6, (some .int), 11, 5, (5, 30), tb_350),
  (yL_turning, cL_turning, 4, (some .int), 11, 3, (3, 18), tb_351),
  (yL_rotary, cL_rotary, 6, (some .int), 11, 5, (6, 36), tb_352),
  (yL_name, cL_name, 8, (some .int), 11, 7, (8, 48), tb_353),
  (yL_rate, cL_rate, 4, (some .int), 11, 3, (1, 6), tb_354),
  (yL_critical, cL_critical, 3, (some .int), 11, 2, (1, 6), tb_355),
  (yL_fold, cL_fold, 4, (some .int), 11, 3, (2, 12), tb_356),
  (yL_bestFold, cL_bestFold, 3, (some .int), 11, 2, (1, 6), tb_357),
  (yL_faster, cL_faster, 4, (some .int), 11, 3, (3, 18), tb_358),
  (yL_without, cL_without, 4, (some .int), 11, 3, (2, 12), tb_359)]
noncomputable def MT_9 : List PM := [(yL_idle, cL_idle, 5, (some .int), 11, 4, (4, 24), tb_360),
  (yL_bare, cL_bare, 6, (some .int), 11, 5, (4, 24), tb_361),
  (yL_who, cL_who, 6, (some .int), 11, 5, (6, 36), tb_362),
  (yL_holes, cL_holes, 5, (some .int), 11, 4, (5, 30), tb_363),
  (yL_late, cL_late, 7, (some .int), 11, 6, (6, 36), tb_364),
  (yL_pays, cL_pays, 4, (some .int), 11, 3, (3, 18), tb_365),
  (yL_more, cL_more, 4, (some .int), 11, 3, (2, 12), tb_366),
  (yL_squeeze, cL_squeeze, 4, (some .int), 11, 3, (2, 12), tb_367),
  (yL_law, cL_law, 7, (some .boolean), 11, 1, (0, 0), tb_368)]
noncomputable def MT : List PM := MT_0 ++ (MT_1 ++ (MT_2 ++ (MT_3 ++ (MT_4 ++ (MT_5 ++ (MT_6 ++ (MT_7 ++ (MT_8 ++ (MT_9)))))))))
/-- fields: of class, number in the pool, class, field, 1: of a nest mate -/
def FLs : List (Nat × Nat × Nat × Nat × Nat) := [(0, 9, 0, 1, 0), (0, 15, 0, 2, 0), (0, 18, 0, 3, 0), (0, 21, 0, 4, 0), (0, 24, 0, 5, 0), (0, 27, 0, 6, 0), (0, 30, 0, 7, 0), (0, 33, 0, 0, 0), (1, 9, 1, 3, 0), (1, 15, 1, 8, 0), (1, 19, 1, 9, 0), (1, 22, 1, 10, 0), (1, 25, 1, 11, 0), (1, 28, 1, 12, 0), (1, 31, 1, 13, 0), (1, 34, 0, 0, 1), (1, 39, 1, 2, 0), (1, 50, 1, 4, 0), (1, 53, 1, 5, 0), (1, 76, 7, 0, 1), (1, 79, 7, 2, 1), (1, 82, 7, 1, 1), (1, 85, 7, 4, 1), (1, 88, 7, 3, 1), (1, 109, 1, 6, 0), (1, 112, 1, 7, 0), (1, 115, 0, 1, 1), (2, 9, 2, 4, 0), (2, 15, 2, 5, 0), (2, 18, 2, 6, 0), (2, 21, 2, 7, 0), (2, 24, 2, 0, 0), (2, 28, 2, 1, 0), (2, 32, 2, 2, 0), (2, 35, 2, 3, 0), (2, 38, 0, 0, 1), (2, 84, 7, 0, 1), (2, 87, 7, 1, 1), (2, 90, 7, 2, 1), (2, 93, 7, 4, 1), (2, 96, 7, 3, 1), (2, 112, 0, 7, 1), (3, 11, 3, 0, 0), (3, 15, 3, 1, 0), (3, 19, 3, 2, 0), (3, 34, 1, 2, 1), (3, 62, 1, 9, 1), (3, 65, 1, 3, 1), (3, 71, 0, 1, 1), (4, 11, 4, 0, 0), (4, 16, 4, 1, 0), (4, 20, 0, 0, 1), (4, 30, 0, 1, 1), (4, 59, 0, 3, 1), (5, 9, 5, 2, 0), (5, 15, 5, 1, 0), (5, 19, 0, 0, 1), (5, 24, 5, 0, 0), (5, 32, 7, 0, 1), (5, 35, 7, 1, 1), (5, 38, 7, 2, 1), (5, 41, 7, 4, 1), (5, 44, 7, 3, 1), (6, 9, 6, 5, 0), (6, 15, 6, 6, 0), (6, 18, 6, 7, 0), (6, 21, 6, 8, 0), (6, 24, 6, 9, 0), (6, 27, 6, 10, 0), (6, 30, 6, 11, 0), (6, 33, 6, 12, 0), (6, 36, 6, 13, 0), (6, 39, 6, 14, 0), (6, 42, 6, 15, 0), (6, 45, 6, 16, 0), (6, 48, 6, 17, 0), (6, 51, 6, 18, 0), (6, 54, 6, 19, 0), (6, 70, 6, 0, 0), (6, 74, 6, 3, 0), (6, 97, 6, 4, 0), (6, 103, 6, 1, 0), (6, 106, 0, 0, 1), (6, 109, 6, 2, 0), (6, 112, 0, 7, 1), (7, 11, 7, 1, 0), (7, 15, 7, 2, 0), (7, 18, 7, 3, 0), (7, 21, 7, 4, 0), (7, 24, 7, 6, 0), (7, 28, 7, 5, 0), (7, 35, 7, 0, 0), (7, 38, 0, 0, 1), (7, 66, 0, 1, 1), (7, 83, 7, 7, 0), (8, 9, 8, 0, 0), (8, 15, 1, 2, 1), (8, 21, 1, 11, 1), (8, 28, 1, 3, 1), (8, 35, 1, 10, 1), (9, 12, 9, 0, 0), (9, 19, 9, 1, 0), (9, 23, 9, 2, 0), (9, 29, 9, 3, 0), (9, 36, 9, 4, 0), (9, 42, 9, 5, 0), (9, 50, 9, 6, 0), (9, 57, 9, 7, 0), (9, 64, 9, 8, 0), (9, 71, 9, 9, 0), (9, 75, 9, 11, 0), (9, 101, 0, 0, 1), (9, 116, 0, 3, 1), (9, 125, 0, 4, 1), (9, 128, 0, 5, 1), (9, 131, 0, 6, 1), (9, 139, 0, 7, 1), (9, 146, 0, 1, 1), (9, 149, 0, 2, 1), (9, 155, 9, 10, 0), (9, 164, 7, 1, 1), (9, 167, 7, 2, 1), (9, 170, 7, 3, 1), (9, 173, 7, 4, 1), (9, 179, 5, 2, 1), (9, 197, 1, 1, 1), (9, 203, 1, 9, 1), (9, 217, 2, 1, 1), (9, 220, 2, 4, 1), (9, 221, 2, 2, 1), (9, 238, 1, 4, 1), (9, 241, 1, 5, 1), (9, 244, 1, 6, 1), (9, 247, 1, 7, 1), (9, 262, 1, 8, 1), (9, 265, 1, 11, 1), (9, 268, 1, 12, 1), (9, 271, 1, 13, 1), (9, 303, 4, 0, 1), (9, 327, 8, 0, 1), (9, 336, 7, 6, 1), (9, 339, 7, 5, 1), (9, 342, 7, 7, 1), (9, 386, 7, 0, 1), (9, 400, 5, 1, 1), (9, 403, 2, 0, 1), (9, 404, 1, 0, 1), (9, 415, 6, 5, 1), (10, 7, 10, 2, 0), (10, 13, 10, 3, 0), (10, 16, 10, 4, 0), (10, 19, 10, 5, 0), (10, 22, 10, 6, 0), (10, 25, 10, 7, 0), (10, 28, 10, 8, 0), (10, 31, 10, 9, 0), (10, 34, 10, 10, 0), (10, 37, 10, 11, 0), (10, 40, 10, 13, 0), (10, 43, 10, 14, 0), (10, 46, 10, 15, 0), (10, 49, 10, 16, 0), (10, 52, 10, 17, 0), (10, 55, 10, 18, 0), (10, 59, 10, 19, 0), (10, 62, 10, 20, 0), (10, 65, 10, 21, 0), (10, 68, 10, 22, 0), (10, 71, 10, 23, 0), (10, 74, 10, 24, 0), (10, 77, 10, 26, 0), (10, 80, 10, 27, 0), (10, 83, 10, 28, 0), (10, 86, 10, 29, 0), (10, 89, 10, 30, 0), (10, 92, 10, 34, 0), (10, 95, 10, 35, 0), (10, 98, 10, 36, 0), (10, 101, 10, 0, 0), (10, 108, 10, 1, 0), (10, 141, 10, 12, 0), (10, 257, 10, 25, 0), (10, 378, 10, 32, 0), (10, 381, 10, 31, 0), (10, 384, 10, 33, 0)]
def MLs : List (Nat × Nat × Nat × Nat) := [(0, 3, 0, 6), (0, 37, 5, 0), (0, 41, 6, 0), (0, 45, 7, 0), (0, 48, 11, 0), (0, 52, 3, 0), (0, 55, 4, 0), (0, 58, 315, 2), (0, 63, 2, 0), (0, 66, 12, 0), (0, 69, 170, 3), (0, 72, 318, 2), (1, 3, 0, 6), (1, 40, 0, 7), (1, 46, 17, 0), (1, 56, 2, 1), (1, 60, 318, 2), (1, 66, 21, 0), (1, 69, 18, 0), (1, 73, 19, 0), (1, 91, 170, 3), (1, 94, 320, 2), (1, 100, 5, 1), (1, 103, 6, 1), (1, 106, 7, 1), (1, 118, 317, 2), (1, 121, 22, 0), (1, 124, 319, 2), (1, 127, 4, 1), (1, 130, 3, 1), (1, 133, 25, 0), (1, 137, 29, 0), (1, 140, 30, 0), (1, 143, 34, 0), (1, 147, 28, 0), (2, 3, 0, 6), (2, 43, 61, 1), (2, 49, 3, 1), (2, 52, 41, 0), (2, 56, 43, 0), (2, 60, 38, 0), (2, 63, 39, 0), (2, 67, 40, 0), (2, 71, 318, 2), (2, 77, 45, 0), (2, 80, 48, 0), (2, 99, 320, 2), (2, 105, 4, 1), (2, 108, 42, 0), (2, 115, 44, 0), (2, 119, 46, 0), (2, 122, 47, 0), (3, 3, 0, 6), (3, 22, 29, 1), (3, 28, 319, 2), (3, 37, 28, 1), (3, 41, 51, 0), (3, 45, 318, 2), (3, 48, 5, 1), (3, 53, 6, 1), (3, 56, 7, 1), (3, 59, 52, 0), (3, 68, 2, 1), (3, 74, 9, 1), (4, 3, 0, 6), (4, 26, 55, 0), (4, 33, 8, 1), (4, 37, 9, 1), (4, 40, 56, 0), (4, 44, 319, 2), (4, 50, 6, 1), (4, 53, 7, 1), (4, 56, 57, 0), (5, 3, 0, 6), (5, 26, 320, 2), (5, 47, 318, 2), (5, 53, 60, 0), (5, 57, 62, 0), (5, 61, 2, 1), (5, 64, 319, 2), (6, 3, 0, 6), (6, 57, 67, 0), (6, 61, 320, 2), (6, 67, 70, 0), (6, 77, 79, 0), (6, 81, 73, 0), (6, 85, 80, 0), (6, 89, 69, 0), (6, 93, 72, 0), (6, 100, 76, 0), (6, 113, 12, 1), (6, 116, 3, 1), (6, 119, 4, 1), (6, 122, 68, 0), (6, 125, 0, 7), (6, 132, 71, 0), (6, 135, 74, 0), (6, 139, 75, 0), (6, 142, 315, 2), (6, 147, 78, 0), (6, 151, 77, 0), (6, 154, 317, 2), (6, 159, 81, 0), (6, 162, 82, 0), (6, 165, 83, 0), (6, 168, 318, 2), (7, 3, 0, 6), (7, 31, 170, 3), (7, 41, 5, 1), (7, 45, 6, 1), (7, 48, 7, 1), (7, 51, 87, 2), (7, 55, 89, 0), (7, 59, 88, 0), (7, 63, 2, 1), (7, 69, 8, 1), (7, 72, 9, 1), (7, 75, 90, 0), (7, 79, 91, 0), (7, 86, 94, 0), (7, 89, 96, 2), (7, 92, 95, 0), (7, 96, 319, 2), (8, 3, 0, 6), (8, 24, 99, 0), (8, 31, 100, 0), (8, 38, 170, 3), (8, 42, 316, 2), (8, 47, 317, 2), (9, 3, 0, 6), (9, 11, 0, 5), (9, 18, 84, 5), (9, 28, 58, 5), (9, 35, 64, 5), (9, 46, 15, 5), (9, 49, 36, 5), (9, 56, 53, 5), (9, 63, 97, 5), (9, 70, 49, 5), (9, 79, 168, 2), (9, 90, 151, 0), (9, 94, 169, 2), (9, 110, 158, 0), (9, 120, 160, 0), (9, 134, 159, 0), (9, 142, 163, 2), (9, 152, 153, 0), (9, 158, 156, 0), (9, 161, 161, 0), (9, 176, 157, 0), (9, 183, 61, 1), (9, 187, 12, 1), (9, 190, 164, 2), (9, 193, 154, 0), (9, 200, 155, 0), (9, 206, 165, 2), (9, 209, 26, 1), (9, 213, 37, 1), (9, 224, 85, 1), (9, 228, 318, 2), (9, 234, 59, 1), (9, 250, 20, 1), (9, 253, 23, 1), (9, 256, 22, 1), (9, 259, 21, 1), (9, 274, 24, 1), (9, 278, 166, 2), (9, 283, 28, 1), (9, 287, 29, 1), (9, 290, 30, 1), (9, 293, 31, 1), (9, 296, 167, 2), (9, 299, 54, 1), (9, 307, 162, 0), (9, 310, 57, 1), (9, 315, 32, 1), (9, 318, 13, 1), (9, 321, 98, 1), (9, 332, 35, 1), (9, 347, 152, 0), (9, 352, 86, 1), (9, 355, 93, 1), (9, 358, 14, 1), (9, 361, 92, 1), (9, 365, 63, 1), (9, 369, 62, 1), (9, 372, 27, 1), (9, 375, 33, 1), (9, 380, 50, 1), (9, 389, 1, 1), (9, 393, 170, 2), (9, 396, 10, 1), (9, 407, 65, 1), (9, 411, 66, 1), (9, 416, 16, 1), (9, 450, 316, 2), (10, 1, 0, 6), (10, 104, 173, 2), (10, 111, 179, 2), (10, 115, 181, 0), (10, 119, 180, 2), (10, 122, 186, 0), (10, 126, 194, 0), (10, 130, 195, 0), (10, 134, 196, 0), (10, 137, 199, 0), (10, 144, 201, 0), (10, 148, 192, 0), (10, 151, 202, 0), (10, 155, 203, 0), (10, 158, 197, 0), (10, 161, 198, 0), (10, 164, 204, 0), (10, 167, 174, 2), (10, 170, 175, 2), (10, 173, 206, 0), (10, 177, 207, 0), (10, 180, 191, 0), (10, 183, 193, 0), (10, 186, 178, 2), (10, 189, 209, 0), (10, 192, 176, 2), (10, 195, 208, 0), (10, 199, 210, 0), (10, 202, 212, 2), (10, 205, 213, 0), (10, 208, 215, 0), (10, 211, 177, 2), (10, 214, 220, 0), (10, 217, 218, 0), (10, 220, 219, 0), (10, 223, 221, 0), (10, 226, 222, 0), (10, 229, 223, 0), (10, 232, 224, 0), (10, 235, 234, 0), (10, 238, 231, 0), (10, 241, 232, 0), (10, 244, 235, 0), (10, 247, 233, 0), (10, 251, 236, 0), (10, 254, 229, 0), (10, 260, 230, 0), (10, 263, 237, 0), (10, 266, 238, 0), (10, 269, 239, 0), (10, 272, 245, 0), (10, 275, 246, 0), (10, 278, 247, 0), (10, 281, 250, 0), (10, 284, 248, 0), (10, 287, 251, 0), (10, 290, 243, 0), (10, 293, 244, 0), (10, 296, 249, 0), (10, 299, 253, 0), (10, 302, 252, 0), (10, 305, 257, 2), (10, 308, 260, 0), (10, 311, 261, 0), (10, 314, 258, 0), (10, 317, 262, 0), (10, 320, 266, 0), (10, 324, 267, 0), (10, 327, 265, 2), (10, 330, 264, 0), (10, 333, 270, 2), (10, 337, 269, 0), (10, 340, 268, 0), (10, 343, 272, 2), (10, 346, 271, 0), (10, 350, 278, 0), (10, 353, 277, 0), (10, 356, 276, 0), (10, 359, 283, 0), (10, 362, 280, 0), (10, 365, 286, 0), (10, 369, 289, 0), (10, 372, 287, 0), (10, 375, 288, 0), (10, 387, 294, 0), (10, 390, 292, 0), (10, 393, 293, 0), (10, 396, 295, 0), (10, 399, 298, 0), (10, 402, 211, 0), (10, 405, 306, 0), (10, 408, 309, 0), (10, 411, 311, 0), (10, 414, 313, 0), (11, 7, 102, 0), (11, 17, 103, 0), (11, 21, 104, 0), (11, 25, 105, 0), (11, 29, 106, 0), (11, 34, 107, 0), (11, 38, 108, 0), (11, 41, 109, 0), (11, 46, 111, 0), (11, 49, 112, 0), (11, 53, 113, 0), (11, 56, 114, 0), (11, 60, 115, 0), (11, 64, 116, 0), (11, 67, 117, 0), (11, 70, 118, 0), (11, 73, 119, 0), (11, 76, 120, 0), (11, 79, 121, 0), (11, 82, 122, 0), (11, 85, 123, 0), (11, 88, 124, 0), (11, 91, 125, 0), (11, 94, 126, 0), (11, 97, 127, 0), (11, 100, 128, 0), (11, 103, 129, 0), (11, 106, 130, 0), (11, 110, 131, 0), (11, 114, 132, 0), (11, 118, 133, 0), (11, 121, 134, 0), (11, 124, 135, 0), (11, 127, 136, 0), (11, 131, 137, 0), (11, 134, 138, 0), (11, 137, 139, 0), (11, 140, 140, 0), (11, 143, 141, 0), (11, 146, 142, 0), (11, 149, 143, 0), (11, 152, 144, 0), (11, 155, 145, 0), (11, 158, 146, 0), (11, 161, 147, 0), (11, 164, 148, 0), (11, 167, 149, 0), (11, 170, 101, 4), (11, 173, 171, 4), (11, 174, 321, 8), (11, 179, 182, 0), (11, 180, 172, 0), (11, 183, 322, 8), (11, 186, 183, 0), (11, 187, 323, 8), (11, 190, 184, 0), (11, 191, 324, 8), (11, 194, 185, 0), (11, 195, 325, 8), (11, 197, 187, 0), (11, 198, 326, 8), (11, 201, 188, 0), (11, 203, 327, 8), (11, 205, 189, 0), (11, 206, 328, 8), (11, 208, 190, 0), (11, 209, 110, 0), (11, 213, 200, 0), (11, 214, 329, 8), (11, 216, 205, 0), (11, 217, 330, 8), (11, 220, 214, 0), (11, 221, 331, 8), (11, 223, 216, 0), (11, 224, 332, 8), (11, 227, 217, 0), (11, 228, 333, 8), (11, 230, 225, 0), (11, 231, 334, 8), (11, 233, 226, 0), (11, 234, 335, 8), (11, 236, 227, 0), (11, 237, 336, 8), (11, 239, 228, 0), (11, 240, 337, 8), (11, 242, 240, 0), (11, 243, 338, 8), (11, 245, 241, 0), (11, 246, 339, 8), (11, 248, 242, 0), (11, 249, 340, 8), (11, 251, 254, 0), (11, 252, 341, 8), (11, 254, 255, 0), (11, 255, 342, 8), (11, 257, 256, 0), (11, 258, 343, 8), (11, 260, 259, 0), (11, 261, 344, 8), (11, 263, 263, 0), (11, 264, 345, 8), (11, 266, 273, 0), (11, 267, 346, 8), (11, 269, 274, 0), (11, 270, 347, 8), (11, 272, 279, 0), (11, 273, 348, 8), (11, 275, 281, 0), (11, 276, 349, 8), (11, 279, 282, 0), (11, 280, 350, 8), (11, 283, 284, 0), (11, 284, 351, 8), (11, 286, 290, 0), (11, 287, 352, 8), (11, 289, 291, 0), (11, 290, 353, 8), (11, 292, 275, 0), (11, 293, 354, 8), (11, 296, 296, 0), (11, 297, 355, 8), (11, 299, 297, 0), (11, 300, 356, 8), (11, 302, 299, 0), (11, 303, 357, 8), (11, 305, 300, 0), (11, 306, 358, 8), (11, 308, 301, 0), (11, 309, 359, 8), (11, 311, 302, 0), (11, 312, 360, 8), (11, 314, 303, 0), (11, 315, 361, 8), (11, 317, 307, 0), (11, 318, 362, 8), (11, 320, 308, 0), (11, 321, 363, 8), (11, 323, 310, 0), (11, 324, 364, 8), (11, 326, 312, 0), (11, 327, 365, 8), (11, 329, 285, 0), (11, 330, 366, 8), (11, 332, 304, 0), (11, 333, 367, 8), (11, 335, 305, 0), (11, 336, 150, 0), (11, 339, 314, 0)]
def KLs : List (Nat × Nat × Int32) := [(5, 25, -100000), (6, 131, -100000), (9, 182, -100000), (12, 265, 1431655765), (12, 266, 858993459), (12, 267, 252645135)]
def CLs : List (Nat × Nat × Nat) := [(4, 9, 91), (9, 9, 0), (9, 16, 7), (9, 26, 5), (9, 33, 6), (9, 40, 90), (9, 40, 1), (9, 47, 2), (9, 54, 4), (9, 61, 8), (9, 68, 3), (11, 8, 9), (11, 171, 10)]
/-- throws: of class, number of the class in the pool, exception, 1: ldc_w, number of the text, of the constructor -/
def XLs : List (Nat × Nat × Nat × Nat × Nat × Nat) := [(9, 83, 0, 0, 85, 87), (9, 83, 0, 0, 97, 87), (9, 83, 0, 0, 99, 87), (9, 105, 1, 0, 107, 109), (9, 83, 0, 0, 114, 87), (9, 83, 0, 0, 123, 87), (9, 83, 0, 0, 137, 87), (9, 83, 0, 1, 281, 87), (9, 83, 0, 1, 313, 87), (9, 83, 0, 1, 325, 87), (9, 83, 0, 1, 330, 87), (9, 83, 0, 1, 345, 87), (9, 105, 1, 1, 350, 109), (9, 83, 0, 1, 378, 87), (9, 83, 0, 1, 384, 87), (9, 105, 1, 1, 387, 109), (9, 105, 1, 1, 420, 109), (9, 105, 1, 1, 422, 109), (9, 105, 1, 1, 424, 109), (9, 426, 2, 1, 428, 430), (9, 426, 2, 1, 431, 430), (9, 426, 2, 1, 433, 430), (9, 426, 2, 1, 435, 430), (9, 83, 0, 1, 437, 87), (9, 439, 3, 1, 441, 443), (9, 83, 0, 1, 444, 87), (9, 83, 0, 1, 446, 87), (9, 83, 0, 1, 448, 87)]
/-- tables of exceptions: method; from, to, which exception, what is returned then; where the row goes, its class in the pool -/
def HDq : List (Nat × List ((Nat × Nat × Nat × Int) × Nat × Nat)) := [(321, [((0, 16, 0, 1), 19, 13), ((0, 16, 1, 2), 23, 15)]), (322, [((0, 10, 0, 1), 13, 13), ((0, 10, 1, 2), 17, 15)]), (323, [((0, 14, 0, 1), 17, 13), ((0, 14, 1, 2), 21, 15)]), (324, [((0, 8, 1, 1), 11, 15)]), (325, [((0, 10, 2, 1), 13, 32), ((0, 10, 0, 2), 17, 13)]), (326, [((0, 9, 2, 1), 12, 32), ((0, 9, 0, 2), 16, 13)]), (327, [((0, 10, 2, 1), 13, 32), ((0, 10, 0, 2), 17, 13)]), (328, [((0, 10, 2, 1), 13, 32), ((0, 10, 3, 2), 17, 44)]), (329, [((0, 10, 1, 1), 13, 15), ((0, 10, 2, 2), 17, 32), ((0, 10, 3, 3), 21, 44)]), (330, [((0, 12, 2, 1), 15, 32), ((0, 12, 0, 2), 19, 13), ((0, 12, 1, 3), 23, 15)]), (331, [((0, 10, 2, 1), 13, 32), ((0, 10, 0, 2), 17, 13), ((0, 10, 1, 3), 21, 15)]), (332, [((0, 9, 2, 1), 12, 32)]), (333, [((0, 16, 0, 1), 19, 13), ((0, 16, 1, 2), 22, 15)]), (334, [((0, 8, 1, 1), 11, 15)]), (335, [((0, 10, 2, 1), 13, 32), ((0, 10, 0, 2), 17, 13), ((0, 10, 1, 3), 21, 15)]), (336, [((0, 12, 2, 1), 15, 32), ((0, 12, 0, 2), 19, 13), ((0, 12, 1, 3), 23, 15)]), (337, [((0, 10, 2, 1), 13, 32), ((0, 10, 0, 2), 17, 13), ((0, 10, 1, 3), 21, 15)]), (338, [((0, 9, 0, 1), 12, 13), ((0, 9, 1, 2), 15, 15)]), (339, [((0, 8, 1, 1), 11, 15)]), (340, [((0, 10, 3, 1), 13, 44), ((0, 10, 0, 2), 17, 13), ((0, 10, 1, 3), 21, 15)]), (341, [((0, 12, 2, 1), 15, 32), ((0, 12, 3, 2), 19, 44), ((0, 12, 0, 3), 23, 13), ((0, 12, 1, 4), 27, 15)]), (342, [((0, 10, 0, 1), 13, 13), ((0, 10, 1, 2), 17, 15)]), (343, [((0, 14, 2, 1), 17, 32), ((0, 14, 0, 2), 21, 13), ((0, 14, 1, 3), 25, 15)]), (344, [((0, 12, 3, 1), 15, 44), ((0, 12, 0, 2), 19, 13), ((0, 12, 1, 3), 23, 15)]), (345, [((0, 14, 0, 1), 17, 13), ((0, 14, 1, 2), 21, 15)]), (346, [((0, 12, 2, 1), 15, 32), ((0, 12, 0, 2), 19, 13), ((0, 12, 1, 3), 23, 15)]), (347, [((0, 12, 0, 1), 15, 13), ((0, 12, 1, 2), 19, 15)]), (348, [((0, 21, 2, 1), 24, 32), ((0, 21, 0, 2), 28, 13), ((0, 21, 1, 3), 32, 15)]), (349, [((0, 10, 0, 1), 13, 13), ((0, 10, 1, 2), 17, 15)]), (350, [((0, 12, 0, 1), 15, 13), ((0, 12, 1, 2), 19, 15)]), (351, [((0, 9, 0, 1), 12, 13), ((0, 9, 1, 2), 15, 15)]), (352, [((0, 12, 2, 1), 15, 32), ((0, 12, 0, 2), 19, 13), ((0, 12, 1, 3), 23, 15)]), (353, [((0, 16, 2, 1), 19, 32), ((0, 16, 0, 2), 23, 13), ((0, 16, 1, 3), 27, 15)]), (354, [((0, 9, 1, 1), 12, 15)]), (355, [((0, 8, 1, 1), 11, 15)]), (356, [((0, 9, 0, 1), 12, 13), ((0, 9, 1, 2), 15, 15)]), (357, [((0, 8, 1, 1), 11, 15)]), (358, [((0, 9, 2, 1), 12, 32), ((0, 9, 1, 2), 15, 15)]), (359, [((0, 9, 1, 1), 12, 15), ((0, 9, 2, 2), 15, 32)]), (360, [((0, 10, 2, 1), 13, 32), ((0, 10, 0, 2), 17, 13), ((0, 10, 1, 3), 21, 15)]), (361, [((0, 12, 2, 1), 15, 32), ((0, 12, 0, 2), 19, 13), ((0, 12, 1, 3), 23, 15)]), (362, [((0, 12, 2, 1), 15, 32), ((0, 12, 0, 2), 19, 13), ((0, 12, 1, 3), 23, 15)]), (363, [((0, 10, 0, 1), 13, 13), ((0, 10, 1, 2), 17, 15)]), (364, [((0, 14, 0, 1), 17, 13), ((0, 14, 1, 2), 21, 15)]), (365, [((0, 9, 0, 1), 12, 13), ((0, 9, 1, 2), 15, 15)]), (366, [((0, 9, 2, 1), 12, 32), ((0, 9, 1, 2), 15, 15)]), (367, [((0, 9, 0, 1), 12, 13), ((0, 9, 1, 2), 15, 15)])]
def hdOf (μ : Nat) : List (Nat × Nat × Nat × Int) := match HDq.find? (fun q => q.1 == μ) with | some q => q.2.map Prod.fst | none => []
end
section
/-! pm: the machine as a pure thing. A heap is a list of cells; a reference is a place in that list. What a run comes to is said by a predicate (weakest precondition), step by step; Ex n: with at most n calls open. -/
abbrev PE : Type := (Nat × vp_A) ⊕ (Nat × List Value)
abbrev PH : Type := List PE
abbrev LV : Type := List (Nat × Value)
abbrev Rs : Type := Option Value ⊕ Nat
abbrev Kt : Type := Nat → LV → List Value → PH → Nat → Nat → Prop
def px_g (lv : LV) (i : Nat) : Option Value := (lv.find? (fun q => q.1 == i)).map (fun q => q.2)
def px_s1 (lv : LV) (i : Nat) (v : Value) : LV := (i, v) :: lv.filter (fun q => !(q.1 == i) && !(q.1 + 1 == i && q.2.category == 2))
def px_s2 (lv : LV) (i : Nat) (v : Value) : LV := (i, v) :: lv.filter (fun q => !(q.1 == i) && (!(q.1 == i + 1) && !(q.1 + 1 == i && q.2.category == 2)))
def ftyX (ci : Nat) : Nat → FieldType := match ci with
  | 0 => tyX0
  | 1 => tyX1
  | 2 => tyX2
  | 3 => tyX3
  | 4 => tyX4
  | 5 => tyX5
  | 6 => tyX6
  | 7 => tyX7
  | 8 => tyX8
  | 9 => tyX9
  | _ => tyX10
def fnum (ci : Nat) : Nat := match vwCl[ci]? with
  | some r => r.2.2
  | none => 0
def dflt (ci : Nat) : List Value := (List.range (fnum ci)).map (fun j => defaultValue (ftyX ci j))
/-- the stack's top as numbers -/
def on1 (st : List Value) (f : Int32 → List Value → Prop) : Prop := match st with
  | .int x :: r => f x r
  | _ => False
def on2 (st : List Value) (f : Int32 → Int32 → List Value → Prop) : Prop := match st with
  | .int y :: .int x :: r => f x y r
  | _ => False
def onL2 (st : List Value) (f : Int64 → Int64 → List Value → Prop) : Prop := match st with
  | .long y :: .long x :: r => f x y r
  | _ => False
def onLI (st : List Value) (f : Int64 → Int32 → List Value → Prop) : Prop := match st with
  | .int y :: .long x :: r => f x y r
  | _ => False
def onR (st : List Value) (f : Nat → List Value → Prop) : Prop := match st with
  | .ref a :: r => f a r
  | _ => False
def jmp (pc : Nat) (off : Int) (f : Nat → Prop) : Prop := 0 ≤ (pc : Int) + off ∧ f ((pc : Int) + off).toNat
def ccI (c : ClassFile.Cond) (x y : Int32) : Prop := match c with
  | .eq => x = y
  | .ne => ¬ x = y
  | .lt => x < y
  | .ge => y ≤ x
  | .gt => y < x
  | .le => x ≤ y
def brn (c : Prop) (t f : Prop) : Prop := (c → t) ∧ (¬ c → f)
def p_iald (S : Nat × (Nat → Int32)) (h : PH) (st : List Value) (k : List Value → Prop) : Prop := match st with
  | .int i :: .ref a :: r => (match h[a]? with
    | some (.inl (0, n, .inl g)) => vp_in i n ∧ k (.int (g i.toNatClampNeg) :: r)
    | _ => False)
  | .int i :: .retAddr _ :: r => vp_in i S.1 ∧ k (.int (S.2 i.toNatClampNeg) :: r)
  | _ => False
def p_iast (h : PH) (st : List Value) (k : List Value → PH → Prop) : Prop := match st with
  | .int x :: .int i :: .ref a :: r => (match h[a]? with
    | some (.inl (0, n, .inl g)) => vp_in i n ∧ k r (h.set a (.inl (0, n, .inl (upd g i.toNatClampNeg x))))
    | _ => False)
  | _ => False
def p_lald (h : PH) (st : List Value) (k : List Value → Prop) : Prop := match st with
  | .int i :: .ref a :: r => (match h[a]? with
    | some (.inl (1, n, .inr (.inl g))) => vp_in i n ∧ k (.long (g i.toNatClampNeg) :: r)
    | _ => False)
  | _ => False
def p_last (h : PH) (st : List Value) (k : List Value → PH → Prop) : Prop := match st with
  | .long x :: .int i :: .ref a :: r => (match h[a]? with
    | some (.inl (1, n, .inr (.inl g))) => vp_in i n ∧ k r (h.set a (.inl (1, n, .inr (.inl (vp_updL g i.toNatClampNeg x)))))
    | _ => False)
  | _ => False
def p_aald (h : PH) (st : List Value) (k : List Value → Prop) : Prop := match st with
  | .int i :: .ref a :: r => (match h[a]? with
    | some (.inl (t, n, .inr (.inr (.inr (.inr g))))) => (t = 2 ∨ t = 3) ∧ vp_in i n ∧ ∃ q, g i.toNatClampNeg = some q ∧ k (.ref q :: r)
    | _ => False)
  | _ => False
def p_aast (h : PH) (st : List Value) (k : List Value → PH → Prop) : Prop := match st with
  | .ref v :: .int i :: .ref a :: r => (match h[a]?, h[v]? with
    | some (.inl (2, n, .inr (.inr (.inr (.inr g))))), some (.inr (1, _)) => vp_in i n ∧ k r (h.set a (.inl (2, n, .inr (.inr (.inr (.inr (va_up g i.toNatClampNeg (some v))))))))
    | _, _ => False)
  | _ => False
def p_alen (S : Nat × (Nat → Int32)) (h : PH) (st : List Value) (k : List Value → Prop) : Prop := match st with
  | .ref a :: r => (match h[a]? with
    | some (.inl (t, x)) => t < 4 ∧ k (.int (Int32.ofNat x.1) :: r)
    | _ => False)
  | .retAddr _ :: r => k (.int (Int32.ofNat S.1) :: r)
  | _ => False
def p_get (h : PH) (ci f : Nat) (st : List Value) (k : List Value → Prop) : Prop := match st with
  | .ref a :: r => (match h[a]? with
    | some (.inr (cj, fs)) => cj = ci ∧ f < fnum ci ∧ ∃ v, fs[f]? = some v ∧ k (v :: r)
    | _ => False)
  | _ => False
def p_put (h : PH) (ci f : Nat) (st : List Value) (k : List Value → PH → Prop) : Prop := match st with
  | v :: .ref a :: r => (match h[a]? with
    | some (.inr (cj, fs)) => cj = ci ∧ f < fnum ci ∧ f < fs.length ∧ narrow (ftyX ci f) v = v ∧ fits (ftyX ci f) v = true ∧ k r (h.set a (.inr (cj, fs.set f v)))
    | _ => False)
  | _ => False
/-- System.arraycopy of ints -/
def p_copy (h : PH) (st : List Value) (k : List Value → PH → Prop) : Prop := match st with
  | .int n :: .int dp :: .ref a1 :: .int sp :: .ref a0 :: r => (match h[a0]?, h[a1]? with
    | some (.inl (0, n0, .inl f)), some (.inl (0, n1, .inl g)) => ¬ sp < 0 ∧ ¬ dp < 0 ∧ ¬ n < 0 ∧ sp.toNatClampNeg + n.toNatClampNeg ≤ n0 ∧ dp.toNatClampNeg + n.toNatClampNeg ≤ n1 ∧ k r (h.set a1 (.inl (0, n1, .inl (va_cpy f g sp.toNatClampNeg dp.toNatClampNeg n.toNatClampNeg))))
    | _, _ => False)
  | _ => False
def p_new2 (h : PH) (st : List Value) (k : List Value → PH → Nat → Nat → Prop) : Prop := match st with
  | .int m :: .int n :: r => ¬ n < 0 ∧ ¬ m < 0 ∧ n.toNatClampNeg ≤ 1000 ∧ m.toNatClampNeg ≤ 1000 ∧
      k (.ref h.length :: r) ((h ++ [.inl (3, n.toNatClampNeg, .inr (.inr (.inr (.inr (fun i => if i < n.toNatClampNeg then some (h.length + 1 + i) else none)))))]) ++ List.replicate n.toNatClampNeg (.inl (0, m.toNatClampNeg, .inl (fun _ => 0)))) (1 + n.toNatClampNeg) (n.toNatClampNeg + n.toNatClampNeg * m.toNatClampNeg)
  | _ => False
/-- caught at a call: the rows of the table, with the number that is returned then -/
def p_catch (hd : List (Nat × Nat × Nat × Int)) (pc e : Nat) : Option Int := (hd.find? (fun q => decide (q.1 ≤ pc) && decide (pc < q.2.1) && q.2.2.1 == e)).map (fun q => q.2.2.2)
/-- what comes back from a call -/
def p_back (M : PM) (hd : List (Nat × Nat × Nat × Int)) (Q : Rs → PH → Prop) (K : Kt) (pc : Nat) (lv : LV) (rest : List Value) (c s : Nat) : Rs → PH → Prop := fun r h => match r with
  | .inl v => K (pc + 3) lv (v.toList ++ rest) h c s
  | .inr e => match p_catch hd pc e with
    | some z => Q (.inl (some (.int (Int32.ofInt z)))) h
    | none => Q (.inr e) h
def p_call (C : Nat → List Value → PH → (Rs → PH → Prop) → Prop) (M : PM) (hd : List (Nat × Nat × Nat × Int)) (Q : Rs → PH → Prop) (K : Kt) (pc μ : Nat) (virt : Bool) (lv : LV) (st : List Value) (h : PH) (c s : Nat) : Prop := match MT[μ]? with
  | none => False
  | some N => N.2.2.2.2.2.1 ≤ st.length ∧ ((st.drop N.2.2.2.2.2.1).map Value.category).sum ≤ 8 ∧ c + N.2.2.2.2.2.2.1.1 ≤ M.2.2.2.2.2.2.1.1 ∧ s + N.2.2.2.2.2.2.1.2 ≤ M.2.2.2.2.2.2.1.2 ∧
      (virt = true → ∃ a fs, (st.take N.2.2.2.2.2.1).getLast? = some (.ref a) ∧ h[a]? = some (.inr (N.2.2.2.2.1, fs))) ∧
      C μ (st.take N.2.2.2.2.2.1).reverse h (p_back M hd Q K pc lv (st.drop N.2.2.2.2.2.1) (c + N.2.2.2.2.2.2.1.1) (s + N.2.2.2.2.2.2.1.2))
def pmI (C : Nat → List Value → PH → (Rs → PH → Prop) → Prop) (S : Nat × (Nat → Int32)) (M : PM) (hd : List (Nat × Nat × Nat × Int)) (Q : Rs → PH → Prop) (K : Kt) (te : TE) (lv : LV) (st : List Value) (h : PH) (c s : Nat) : Prop :=
  match te.2.1 with
  | .iconst z => K (te.1 + 1) lv (.int (Int32.ofInt z) :: st) h c s
  | .bipush z => K (te.1 + 2) lv (.int (Int8.ofInt z).toInt32 :: st) h c s
  | .sipush z => K (te.1 + 3) lv (.int (Int16.ofInt z).toInt32 :: st) h c s
  | .lconst n => K (te.1 + 1) lv (.long (Int64.ofNat n) :: st) h c s
  | .ldc _ => ∃ q, KLs[te.2.2.1]? = some q ∧ te.2.2.2 = 0 ∧ K (te.1 + 2) lv (.int q.2.2 :: st) h c s
  | .ldc_w _ => ∃ q, KLs[te.2.2.1]? = some q ∧ te.2.2.2 = 0 ∧ K (te.1 + 3) lv (.int q.2.2 :: st) h c s
  | .iload i => ∃ x, px_g lv i = some (.int x) ∧ K (te.1 + 2) lv (.int x :: st) h c s
  | .iload_n i => ∃ x, px_g lv i = some (.int x) ∧ K (te.1 + 1) lv (.int x :: st) h c s
  | .lload i => ∃ x, px_g lv i = some (.long x) ∧ K (te.1 + 2) lv (.long x :: st) h c s
  | .aload i => ∃ v, px_g lv i = some v ∧ (∃ a, v = .ref a ∨ v = .retAddr a) ∧ K (te.1 + 2) lv (v :: st) h c s
  | .aload_n i => ∃ v, px_g lv i = some v ∧ (∃ a, v = .ref a ∨ v = .retAddr a) ∧ K (te.1 + 1) lv (v :: st) h c s
  | .istore i => i < M.2.2.1 ∧ on1 st fun x r => K (te.1 + 2) (px_s1 lv i (.int x)) r h c s
  | .istore_n i => (i : Nat) < M.2.2.1 ∧ on1 st fun x r => K (te.1 + 1) (px_s1 lv i (.int x)) r h c s
  | .lstore i => i + 1 < M.2.2.1 ∧ ∃ x r, st = .long x :: r ∧ K (te.1 + 2) (px_s2 lv i (.long x)) r h c s
  | .astore i => i < M.2.2.1 ∧ onR st fun x r => K (te.1 + 2) (px_s1 lv i (.ref x)) r h c s
  | .astore_n i => (i : Nat) < M.2.2.1 ∧ onR st fun x r => K (te.1 + 1) (px_s1 lv i (.ref x)) r h c s
  | .iinc i z => i < M.2.2.1 ∧ ∃ x, px_g lv i = some (.int x) ∧ K (te.1 + 3) (px_s1 lv i (.int (x + Int32.ofInt z))) st h c s
  | .iadd => on2 st fun x y r => K (te.1 + 1) lv (.int (x + y) :: r) h c s
  | .isub => on2 st fun x y r => K (te.1 + 1) lv (.int (x - y) :: r) h c s
  | .imul => on2 st fun x y r => K (te.1 + 1) lv (.int (x * y) :: r) h c s
  | .idiv => on2 st fun x y r => ¬ y = 0 ∧ K (te.1 + 1) lv (.int (x / y) :: r) h c s
  | .irem => on2 st fun x y r => ¬ y = 0 ∧ K (te.1 + 1) lv (.int (x - x / y * y) :: r) h c s
  | .ineg => on1 st fun x r => K (te.1 + 1) lv (.int (-x) :: r) h c s
  | .ishl => on2 st fun x y r => K (te.1 + 1) lv (.int (x <<< (y &&& 31)) :: r) h c s
  | .ishr => on2 st fun x y r => K (te.1 + 1) lv (.int (x >>> (y &&& 31)) :: r) h c s
  | .iushr => on2 st fun x y r => K (te.1 + 1) lv (.int (x.toUInt32 >>> (y.toUInt32 &&& Int32.toUInt32 31)).toInt32 :: r) h c s
  | .iand => on2 st fun x y r => K (te.1 + 1) lv (.int (x &&& y) :: r) h c s
  | .ior => on2 st fun x y r => K (te.1 + 1) lv (.int (x ||| y) :: r) h c s
  | .ixor => on2 st fun x y r => K (te.1 + 1) lv (.int (x ^^^ y) :: r) h c s
  | .i2l => on1 st fun x r => K (te.1 + 1) lv (.long x.toInt64 :: r) h c s
  | .lcmp => onL2 st fun x y r => K (te.1 + 1) lv (.int (lg_cmp x y) :: r) h c s
  | .lshl => onLI st fun x y r => K (te.1 + 1) lv (.long (x <<< (y.toInt64 &&& 63)) :: r) h c s
  | .lor => onL2 st fun x y r => K (te.1 + 1) lv (.long (x ||| y) :: r) h c s
  | .land => onL2 st fun x y r => K (te.1 + 1) lv (.long (x &&& y) :: r) h c s
  | .dup => ∃ v r, st = v :: r ∧ v.category = 1 ∧ K (te.1 + 1) lv (v :: v :: r) h c s
  | .dup2 => ∃ v w r, st = v :: w :: r ∧ v.category = 1 ∧ w.category = 1 ∧ K (te.1 + 1) lv (v :: w :: v :: w :: r) h c s
  | .pop => ∃ v r, st = v :: r ∧ v.category = 1 ∧ K (te.1 + 1) lv r h c s
  | .goto z => jmp te.1 z fun t => K t lv st h c s
  | .ifCond cc z => on1 st fun x r => jmp te.1 z fun t => brn (ccI cc x 0) (K t lv r h c s) (K (te.1 + 3) lv r h c s)
  | .if_icmp cc z => on2 st fun x y r => jmp te.1 z fun t => brn (ccI cc x y) (K t lv r h c s) (K (te.1 + 3) lv r h c s)
  | .tableswitch d lo hi offs => on1 st fun x r => (x.toInt < lo ∨ hi < x.toInt → jmp te.1 d fun t => K t lv r h c s) ∧ (¬ x.toInt < lo → ¬ hi < x.toInt → ∃ off, offs[(x.toInt - lo).toNat]? = some off ∧ jmp te.1 off fun t => K t lv r h c s)
  | .iaload => p_iald S h st fun st => K (te.1 + 1) lv st h c s
  | .iastore => p_iast h st fun st h => K (te.1 + 1) lv st h c s
  | .laload => p_lald h st fun st => K (te.1 + 1) lv st h c s
  | .lastore => p_last h st fun st h => K (te.1 + 1) lv st h c s
  | .aaload => p_aald h st fun st => K (te.1 + 1) lv st h c s
  | .aastore => p_aast h st fun st h => K (te.1 + 1) lv st h c s
  | .arraylength => p_alen S h st fun st => K (te.1 + 1) lv st h c s
  | .getfield _ => p_get h te.2.2.1 te.2.2.2 st fun st => K (te.1 + 3) lv st h c s
  | .putfield _ => p_put h te.2.2.1 te.2.2.2 st fun st h => K (te.1 + 3) lv st h c s
  | .newarray t => on1 st fun x r => ¬ x < 0 ∧ x.toNatClampNeg ≤ 10000 ∧ c + 1 ≤ M.2.2.2.2.2.2.1.1 ∧ s + x.toNatClampNeg ≤ M.2.2.2.2.2.2.1.2 ∧
      ((t = .int ∧ K (te.1 + 2) lv (.ref h.length :: r) (h ++ [.inl (0, x.toNatClampNeg, .inl (fun _ => 0))]) (c + 1) (s + x.toNatClampNeg)) ∨ (t = .long ∧ K (te.1 + 2) lv (.ref h.length :: r) (h ++ [.inl (1, x.toNatClampNeg, .inr (.inl (fun _ => 0)))]) (c + 1) (s + x.toNatClampNeg)))
  | .anewarray _ => on1 st fun x r => ¬ x < 0 ∧ x.toNatClampNeg ≤ 10000 ∧ c + 1 ≤ M.2.2.2.2.2.2.1.1 ∧ s + x.toNatClampNeg ≤ M.2.2.2.2.2.2.1.2 ∧ K (te.1 + 3) lv (.ref h.length :: r) (h ++ [.inl (2, x.toNatClampNeg, .inr (.inr (.inr (.inr (fun _ => none)))))]) (c + 1) (s + x.toNatClampNeg)
  | .multianewarray _ _ => p_new2 h st fun st h dc ds => c + dc ≤ M.2.2.2.2.2.2.1.1 ∧ s + ds ≤ M.2.2.2.2.2.2.1.2 ∧ K (te.1 + 4) lv st h (c + dc) (s + ds)
  | .new _ => (te.2.2.2 = 0 ∧ c + 1 ≤ M.2.2.2.2.2.2.1.1 ∧ s + fnum te.2.2.1 ≤ M.2.2.2.2.2.2.1.2 ∧ K (te.1 + 3) lv (.ref h.length :: st) (h ++ [.inr (te.2.2.1, dflt te.2.2.1)]) (c + 1) (s + fnum te.2.2.1)) ∨
      (te.2.2.2 = 1 ∧ hd = [] ∧ c + 1 ≤ M.2.2.2.2.2.2.1.1 ∧ s + 6 ≤ M.2.2.2.2.2.2.1.2 ∧ (st.map Value.category).sum ≤ 8 ∧ ∃ x, XLs[te.2.2.1]? = some x ∧ Q (.inr x.2.2.1) h)
  | .invokevirtual _ => p_call C M hd Q K te.1 te.2.2.1 true lv st h c s
  | .invokestatic _ => (te.2.2.2 = 7 ∧ p_copy h st fun st h => (st.map Value.category).sum ≤ 8 ∧ K (te.1 + 3) lv st h c s) ∨ (te.2.2.2 ≠ 7 ∧ p_call C M hd Q K te.1 te.2.2.1 false lv st h c s)
  | .invokespecial _ => (te.2.2.2 = 6 ∧ onR st fun _ r => (r.map Value.category).sum ≤ 8 ∧ K (te.1 + 3) lv r h c s) ∨ ((te.2.2.2 = 4 ∨ te.2.2.2 = 5) ∧ p_call C M hd Q K te.1 te.2.2.1 true lv st h c s)
  | .ireturn => ∃ x, st = [.int x] ∧ (∃ t, M.2.2.2.1 = some t ∧ narrow t (.int x) = .int x) ∧ Q (.inl (some (.int x))) h
  | .lreturn => ∃ x, st = [.long x] ∧ M.2.2.2.1 = some .long ∧ Q (.inl (some (.long x))) h
  | .areturn => ∃ a, st = [.ref a] ∧ (∃ t, M.2.2.2.1 = some (.object t)) ∧ Q (.inl (some (.ref a))) h
  | .return_ => st = [] ∧ M.2.2.2.1 = none ∧ Q (.inl none) h
  | _ => False
/-- k steps of a body, from a place on -/
def pmB (C : Nat → List Value → PH → (Rs → PH → Prop) → Prop) (S : Nat × (Nat → Int32)) (M : PM) (hd : List (Nat × Nat × Nat × Int)) (Q : Rs → PH → Prop) : Nat → Nat → LV → List Value → PH → Nat → Nat → Prop
  | 0, _, _, _, _, _, _ => False
  | k + 1, pc, lv, st, h, c, s => match M.2.2.2.2.2.2.2.find? (fun e => e.1 == pc) with
    | none => False
    | some te => pmI C S M hd Q (fun pc lv st h c s => pmB C S M hd Q k pc lv st h c s) te lv st h c s
/-- at most n calls open: method μ comes, from args and h, to an end with Q -/
def Ex (S : Nat × (Nat → Int32)) : Nat → Nat → List Value → PH → (Rs → PH → Prop) → Prop
  | 0, _, _, _, _ => False
  | n + 1, μ, args, h, Q => ∃ M, MT[μ]? = some M ∧ ∃ k, pmB (Ex S n) S M (hdOf μ) Q k 0 (lv_args 0 args) [] h 0 0
end

/-! what the pure machine says holds of the machine: one body, instruction by instruction -/
def pTy (cy : Nat → ClassId) : List (ClassId × FieldType) := [(cy 0, .int), (cy 1, .long), (cy 2, .object "OverlapMill$Chart"), (cy 3, .array .int)]
theorem va_AOA.moved {ty : FieldType} {u U : State} (hvm : u.vm.Alike U.vm) (h : va_AOA ty u) : va_AOA ty U := by
  have h1 := Cond.arrayOver_setVmC (args := #[]) (s := u) hvm (.array ty)
  have h2 : (Cond.arrayOver (.array ty)).before #[] (u.setVm U.vm) = true := h1.trans h
  exact h2
theorem nw_warm {w : Cond} (hw : nwOK w = true) {s U : State} (hW : s.WarmedH U.vm) (h : va_Nw w s) : va_Nw w U := by
  cases w <;> first | exact va_Nw.warmF hW h | exact va_Nw.warmM hW h | exact va_Nw.warmD hW h | exact va_Nw.warmC hW h | (exact absurd hw (by simp [nwOK]))
def XK (D : va_G) (cy : Nat → ClassId) (A : Nat → Prop) (b : Option Nat) (S : Nat × (Nat → Int32)) (U : State) (H : Heap) : Prop :=
  va_K D vwCl (pTy cy) U ∧ (∀ w ∈ lw_tbl, nwOK w = true → va_Nw w U) ∧ va_AO "OverlapMill$Chart" U ∧ va_AOA .int U ∧
  (vx_Zq Bundle.tN "UNASSIGNED_STACK" Bundle.steD A U H ∧ vx_Zq Bundle.tN "SUPPRESSED_SENTINEL" Bundle.listD A U H) ∧ (∀ x ∈ XLs, ∃ (tx : String) (a : Nat), vk_R RX9 x.2.2.2.2.1 tx a U) ∧ (∀ a, b = some a → va_X a S.1 S.2 U H ∧ a < H.size ∧ ¬ A a) ∧ (∀ (x y : Nat) (E F : String), xnm[x]? = some E → xnm[y]? = some F → x ≠ y → va_Nc E F U)
theorem XK.go {D : va_G} {cy : Nat → ClassId} {A B : Nat → Prop} {b : Option Nat} {S : Nat × (Nat → Int32)} {s U : State} {H0 H : Heap} (h : XK D cy A b S s H0) (hW : s.WarmedH U.vm) (hz : H0.size ≤ H.size) (hk : ∀ q : Nat, q < H0.size → ¬ A q → H[q]? = H0[q]?) (hB : ∀ q, B q → A q) : XK D cy B b S U H := by
  obtain ⟨h1, h2, h3, h4, ⟨h5, h6⟩, h7, h8, h9⟩ := h
  refine ⟨h1.moved hW.alike, fun w hw hn => nw_warm hn hW (h2 w hw hn), h3.moved hW.alike, h4.moved hW.alike, ⟨((h5.kept hk).moved hW.alike).narrow hB, ((h6.kept hk).moved hW.alike).narrow hB⟩, fun x hx => ?_, fun a ha => ?_, fun x y E F e1 e2 e3 => (h9 x y E F e1 e2 e3).moved hW.alike⟩
  · obtain ⟨tx, a, h9⟩ := h7 x hx
    exact ⟨tx, a, h9.warm hW⟩
  · obtain ⟨⟨scr, g1, g2, g3, g4, g5⟩, g6, g7⟩ := h8 a ha
    exact ⟨⟨scr, (hk a g6 g7).trans g1, State.isArrayOf_alike hW.alike g2, g3, g4, g5⟩, Nat.lt_of_lt_of_le g6 hz, fun q => g7 (hB _ q)⟩
def INV (D : va_G) (cy : Nat → ClassId) (A : Nat → Prop) (b : Option Nat) (s : State) (ws0 : va_W) (h : PH) (ws : va_W) (H : Heap) (locs : List Loc) : Prop :=
  ext (ws0.map Prod.fst) (ws.map Prod.fst) ∧ A2 (rE cy (ws.map Prod.fst) b) h (ws.map Prod.snd) ∧ va_P D vwCl ws H ∧ va_D A ws ∧ va_S A s.heap H locs
def GD (p : Program) (l : Launch) (e : Env) (R : Room) (s : State) (m : MethodId) (args : Array Value) (below : List Frame) (meth : Method) (c : Code) (D : va_G) (cy : Nat → ClassId) (A : Nat → Prop) (b : Option Nat) (M : PM) (ws0 : va_W) (Z : State → Prop)
    (pc : Nat) (lv : LV) (st : List Value) (h : PH) (cells slots : Nat) : Prop :=
  ∀ (ls : Array Slot) (lv' : LV) (st' : List Value) (ws : va_W) (H : Heap) (locs : List Loc), lv_has ls (pL M) lv' → A2 (rL (ws.map Prod.fst) b) lv lv' → A2 (rv (ws.map Prod.fst) b) st st' → INV D cy A b s ws0 h ws H locs → cells ≤ pC M → slots ≤ pS M →
    W p l e R s m args below meth c H locs cells slots Z (F0 m pc ls st')
def CX (p : Program) (l : Launch) (R : Room) (s : State) (m : MethodId) (args : Array Value) (meth : Method) (c : Code) (D : va_G) (cy : Nat → ClassId) (A : Nat → Prop) (b : Option Nat) (S : Nat × (Nat → Int32)) (M : PM) (n : Nat) : Prop :=
  p.tables.exec = Jvm.exec ∧ c.code = pB M ∧ c.maxLocals = pL M ∧ s.vm.findClass (cnm.getD (pO M) "") = some m.cls ∧ (∀ w ∈ TBL, w.before args s = true) ∧ XK D cy A b S s s.heap ∧ (∀ q, s.heap.size ≤ q → A q) ∧ (pK M = 2 → meth.name = "<init>") ∧ pC M ≤ R.cells ∧ pS M ≤ R.slots ∧ n + 9 ≤ R.frames ∧ 40 * n + 240 ≤ R.locals ∧ l.stackTraces = false
/-- room of a body with n calls below it -/
abbrev rmN (n : Nat) (M : PM) : Room := { frames := n + 8, cells := pC M, slots := pS M, locals := 40 * n + 200 }
noncomputable def wsN (μ : Nat) (N : PM) : List Cond := (if pK N = 3 then Cond.codeWith (pY N) (pB N) (pL N) (pR N) (hhOf μ) else codeOf N) :: TBL
def PO (D : va_G) (cy : Nat → ClassId) (b : Option Nat) (ws : va_W) (sz : Nat) (ws' : va_W) (h' : PH) (H : Heap) : Prop := ext (ws.map Prod.fst) (ws'.map Prod.fst) ∧ A2 (rE cy (ws'.map Prod.fst) b) h' (ws'.map Prod.snd) ∧ va_P D vwCl ws' H ∧ va_D (va_A ws sz) ws'
def QcP (D : va_G) (cy : Nat → ClassId) (b : Option Nat) (ws : va_W) (sz : Nat) (Q : Rs → PH → Prop) : Array Value → State → Outcome → State → Prop := fun _ st oc t =>
  (∃ (v v' : Option Value) (h' : PH) (ws' : va_W), oc = .returned v' ∧ Q (.inl v) h' ∧ rO (ws'.map Prod.fst) b v v' ∧ PO D cy b ws sz ws' h' t.heap) ∧ va_F (va_A ws sz) st t
def XcP (D : va_G) (cy : Nat → ClassId) (b : Option Nat) (ws : va_W) (sz : Nat) (Q : Rs → PH → Prop) : String → State → State → Prop := fun E st t =>
  (∃ (x : Nat) (h' : PH) (ws' : va_W), xnm[x]? = some E ∧ Q (.inr x) h' ∧ PO D cy b ws sz ws' h' t.heap) ∧ va_F (va_A ws sz) st t
def PcP (D : va_G) (cy : Nat → ClassId) (b : Option Nat) (S : Nat × (Nat → Int32)) (ws : va_W) (sz : Nat) : State → Prop := fun U => U.heap.size = sz ∧ va_P D vwCl ws U.heap ∧ va_D (fun _ => True) ws ∧ XK D cy (va_A ws sz) b S U U.heap
def CT (l : Launch) (D : va_G) (cy : Nat → ClassId) (b : Option Nat) (S : Nat × (Nat → Int32)) (n μ : Nat) (N : PM) (av : List Value) (h : PH) (Q : Rs → PH → Prop) : Prop := ∀ (av' : List Value) (ws : va_W) (sz : Nat), A2 (rv (ws.map Prod.fst) b) av av' → A2 (rE cy (ws.map Prod.fst) b) h (ws.map Prod.snd) →
  vx_Met l (pY N) (wsN μ N) (rmN n N) (va_Pc av' (PcP D cy b S ws sz)) (QcP D cy b ws sz Q) (XcP D cy b ws sz Q) (pC N) (pS N) (va_A ws sz)
theorem PcP.blind {D : va_G} {cy : Nat → ClassId} {b : Option Nat} {S : Nat × (Nat → Int32)} {ws : va_W} {sz : Nat} {av : List Value} : FrameBlind (va_Pc av (PcP D cy b S ws sz)) := by
  intro a U g mk h
  obtain ⟨h0, h1, h2, h3, h4⟩ := h
  exact ⟨h0, h1, h2, h3, XK.go (s := U) (U := U.calling g mk a) h4 (State.WarmedH.refl U) (Nat.le_refl _) (fun _ _ _ => rfl) (fun _ q => q)⟩
section SND
variable {p : Program} {l : Launch} {e : Env} {R : Room} {s : State} {m : MethodId} {args : Array Value} {below : List Frame} {meth : Method} {c : Code} {D : va_G} {cy : Nat → ClassId} {A : Nat → Prop} {b : Option Nat} {S : Nat × (Nat → Int32)} {M : PM} {ws0 : va_W} {Z : State → Prop} {n : Nat}
/-- a cell of the picture, in the world -/
theorem INV.at {h : PH} {ws : va_W} {H : Heap} {locs : List Loc} (hI : INV D cy A b s ws0 h ws H locs) {i a : Nat} {x : PE} (ha : (ws.map Prod.fst)[i]? = some a) (hx : h[i]? = some x) : ∃ y, ws[i]? = some (a, y) ∧ rE cy (ws.map Prod.fst) b x y := by
  obtain ⟨y, hy, hr⟩ := hI.2.1.get hx
  rw [List.getElem?_map, Option.map_eq_some_iff] at ha hy
  obtain ⟨q, h1, h2⟩ := ha
  obtain ⟨q', h3, h4⟩ := hy
  cases h1.symm.trans h3
  exact ⟨y, by rw [h1, ← h2, ← h4], hr⟩
theorem fst_set {ws : va_W} {i a : Nat} {y y' : va_E} (h : ws[i]? = some (a, y)) : (ws.set i (a, y')).map Prod.fst = ws.map Prod.fst := by
  rw [List.map_set]
  apply List.ext_getElem?
  intro j
  by_cases hj : i = j
  · subst hj
    have hl : i < ws.length := (List.getElem?_eq_some_iff.mp h).1
    rw [List.getElem?_set_self (by simpa using hl), List.getElem?_map, h]
    rfl
  · rw [List.getElem?_set_ne hj]
theorem INV.set {h : PH} {ws : va_W} {H H1 : Heap} {locs locs1 : List Loc} (hI : INV D cy A b s ws0 h ws H locs) {i a : Nat} {y y' : va_E} {x' : PE} (hw : ws[i]? = some (a, y)) (hr : rE cy (ws.map Prod.fst) b x' y') (h1 : va_P D vwCl (ws.set i (a, y')) H1) (h2 : va_D A (ws.set i (a, y'))) (h3 : va_S A s.heap H1 locs1) :
    INV D cy A b s ws0 (h.set i x') (ws.set i (a, y')) H1 locs1 := by
  refine ⟨by rw [fst_set hw]; exact hI.1, ?_, h1, h2, h3⟩
  rw [fst_set hw, List.map_set]
  exact hI.2.1.set hr
theorem ext_app (ρ σ : List Nat) : ext ρ (ρ ++ σ) := fun i a h => by
  rw [List.getElem?_append_left ((List.getElem?_eq_some_iff.mp h).1)]
  exact h
theorem INV.push {h : PH} {ws : va_W} {H H1 : Heap} {locs locs1 : List Loc} (hI : INV D cy A b s ws0 h ws H locs) {q : Nat} {y : va_E} {x : PE} (hr : rE cy ((ws ++ [(q, y)]).map Prod.fst) b x y) (h1 : va_P D vwCl (ws ++ [(q, y)]) H1) (h2 : va_D A (ws ++ [(q, y)])) (h3 : va_S A s.heap H1 locs1) :
    INV D cy A b s ws0 (h ++ [x]) (ws ++ [(q, y)]) H1 locs1 ∧ ext (ws.map Prod.fst) ((ws ++ [(q, y)]).map Prod.fst) ∧ ((ws ++ [(q, y)]).map Prod.fst)[h.length]? = some q := by
  have hx : ext (ws.map Prod.fst) ((ws ++ [(q, y)]).map Prod.fst) := by rw [List.map_append]; exact ext_app _ _
  refine ⟨⟨fun i a ha => hx i a (hI.1 i a ha), ?_, h1, h2, h3⟩, hx, ?_⟩
  · rw [List.map_append (f := Prod.snd)]
    exact A2.app (A2.one hr) (hI.2.1.mono (rE.mono hx))
  · have hl := hI.2.1.len
    rw [List.length_map] at hl
    rw [← hl, List.map_append, List.getElem?_append_right (by simp)]
    simp
/-- a call, out of its run -/
theorem px_run {H : Heap} {locs : List Loc} {cells slots mc ms pc : Nat} {ls : Array Slot} {st0 rest : List Value} {ws : va_W} {Q' : Rs → PH → Prop} {a : Array Value}
    (hr : vx_Run p l e R s m args below meth c H locs cells slots mc ms (F0 m pc ls st0) rest (QcP D cy b ws H.size Q' a) (XcP D cy b ws H.size Q') (va_A ws H.size)) (hS : va_S A s.heap H locs) (hA : ∀ q, va_A ws H.size q → A q)
    (kx : ∀ (E : String) (ce : Cell) (q9 : Addr) (x : Nat) (h' : PH) (ws' : va_W) (H1 : Heap) (locs1 : List Loc), xnm[x]? = some E → Q' (.inr x) h' → PO D cy b ws H.size ws' h' H1 → va_S A s.heap H1 locs1 → H1[q9]? = some ce → ce.vm = .none → s.vm.findClass E = some ce.cls → vx_W p l e R s m args below meth c H1 locs1 (cells + mc) (slots + ms) Z (F0 m pc ls rest) q9)
    (kk : ∀ (v v' : Option Value) (h' : PH) (ws' : va_W) (H1 : Heap) (locs1 : List Loc), Q' (.inl v) h' → rO (ws'.map Prod.fst) b v v' → PO D cy b ws H.size ws' h' H1 → va_S A s.heap H1 locs1 → W p l e R s m args below meth c H1 locs1 (cells + mc) (slots + ms) Z (F0 m (pc + 3) ls (v'.toList ++ rest))) : W p l e R s m args below meth c H locs cells slots Z (F0 m pc ls st0) := by
  intro T hT X
  rcases hr T hT X with ⟨v, st₀, t, T', L, h0, X', hL, e1, e2, ⟨⟨v1, v2, h', ws', hv, hp, ho, hb⟩, hF⟩, st⟩ | ⟨q, st₀, t, T', L, E, ce, h0, X', hL, e1, e2, ⟨⟨x, h', ws', hxe, hp, hb⟩, hF⟩, hce, hcv, hcl, st⟩
  · cases hv
    obtain ⟨k1, k2, k3⟩ := vx_keep h0 e1 hS (fun q _ hq => hA q hq) hA hL hF
    obtain ⟨t2, a1, b1⟩ := kk v1 v h' ws' T'.heap (locs ++ L) hp ho (by rw [e1]; exact hb) k3 T' rfl X'
    exact ⟨t2, st t2 a1, b1⟩
  · obtain ⟨k1, k2, k3⟩ := vx_keep h0 e1 hS (fun q _ hq => hA q hq) hA hL hF
    obtain ⟨t2, a1, b1⟩ := kx E ce q x h' ws' T'.heap (locs ++ L) hxe hp (by rw [e1]; exact hb) k3 (by rw [e1]; exact hce) hcv hcl T' rfl X'
    exact ⟨t2, st.trans a1, b1⟩
end SND

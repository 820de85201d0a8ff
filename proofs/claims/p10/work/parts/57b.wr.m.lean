section
/-! laid by wip/hand/lw.py: what the law calls the class by, where no op is changed -/
theorem cls_call {S : Nat × (Nat → Int32)} {n μ : Nat} {args : List WV} {h : PH} {es : Nat → Prop} (ha : ∀ v ∈ args, vOK v) (hL : LR h) (spec : ∀ mem, ClS mem → CQI (Ex S n) μ args mem (fun _ m' => ClS m' ∧ Frm pNb mem m') (fun e m' => es e ∧ ClS m' ∧ Frm pNb mem m')) : Ex S n μ (args.map wv) h (fun r h' => LR h' ∧ ((∃ y, r = .inl (some (.int y))) ∨ ∃ e, es e ∧ r = .inr e)) := by
  obtain ⟨m, g, hM, hc, hr, hb⟩ := hL
  refine Ex.mono S n _ _ _ _ _ ?_ (callQM ha hM (spec m hc))
  rintro r h' (⟨y, m', rfl, hy, hL', hK⟩ | ⟨e, m', rfl, hL', hE⟩)
  · exact ⟨LR.cls hL' hr hb hK.1 hK.2, Or.inl ⟨_, rfl⟩⟩
  · exact ⟨LR.cls hL' hr hb hE.2.1 hE.2.2, Or.inr ⟨e, hE.1, rfl⟩⟩
theorem ref_call {S : Nat × (Nat → Int32)} {n μ : Nat} {args : List WV} {h : PH} (ha : ∀ v ∈ args, vOK v) (hL : LR h) (spec : ∀ mem, RefOK mem → CWI (Ex S n) μ args mem (fun _ m' => RefOK m' ∧ FrQ mem m')) : Ex S n μ (args.map wv) h (fun r h' => LR h' ∧ ∃ y, r = .inl (some (.int y))) := by
  obtain ⟨m, g, hM, hc, hr, hb⟩ := hL
  refine Ex.mono S n _ _ _ _ _ ?_ (callQM ha hM ((spec m hr).q (E := fun _ _ => False) (Ex.mono S n)))
  rintro r h' (⟨y, m', rfl, hy, hL', hK⟩ | ⟨e, m', rfl, hL', hE⟩)
  · exact ⟨LR.refq hL' hc hb hK.1 hK.2, _, rfl⟩
  · exact False.elim hE
theorem LR.obj {h : PH} (hL : LR h) {A ci : Nat} {fs : List (Option Nat)} (hA : shA A = some (.inr (ci, fs))) : ∃ gs, h[A]? = some (.inr (ci, gs)) := by
  obtain ⟨m, g, hM, -⟩ := hL
  exact hM.obj hA
theorem g_64 {S : Nat × (Nat → Int32)} {n : Nat} {h : PH} {Q : Rs → PH → Prop} {x0 x1 : Int32} (hL : LR h) (H : ∀ r h', LR h' → Q (.inl (some (.int r))) h') : Ex S (n + 18) 64 [.ref 0, .int x0, .int x1, .ref 173] h Q := by
  obtain ⟨m, g, hM, hc, hr, hb⟩ := hL
  refine gx_64 (K := fun _ m' => ClS m' ∧ Frm pNb m m') (E := fun e m' => (e = 2 ∨ e = 3) ∧ ClS m' ∧ Frm pNb m m') hM (f_65 hc (fun r m' a b => ⟨a, b⟩) (fun e m' q a b => ⟨q, a, b⟩)) (fun y h' m' g' _ hL' _ hK => H _ _ (LR.cls hL' hr hb hK.1 hK.2)) (fun e h' m' hL' hE => ?_)
  have hq := LR.cls hL' hr hb hE.2.1 hE.2.2
  exact hE.1.imp (fun q => ⟨q, H _ _ hq⟩) (fun q => ⟨q, H _ _ hq⟩)
theorem g_67 {S : Nat × (Nat → Int32)} {n : Nat} {h : PH} {Q : Rs → PH → Prop} {x0 x1 : Int32} (hL : LR h) (H : ∀ r h', LR h' → Q (.inl (some (.int r))) h') : Ex S (n + 18) 67 [.ref 0, .int x0, .int x1, .ref 173] h Q := by
  obtain ⟨m, g, hM, hc, hr, hb⟩ := hL
  refine gx_67 (K := fun _ m' => ClS m' ∧ Frm pNb m m') (E := fun e m' => (e = 1 ∨ e = 2 ∨ e = 3) ∧ ClS m' ∧ Frm pNb m m') hM (f_68 hc (fun r m' a b => ⟨a, b⟩) (fun e m' q a b => ⟨q, a, b⟩)) (fun y h' m' g' _ hL' _ hK => H _ _ (LR.cls hL' hr hb hK.1 hK.2)) (fun e h' m' hL' hE => ?_)
  have hq := LR.cls hL' hr hb hE.2.1 hE.2.2
  rcases hE.1 with q | q | q
  · exact Or.inl ⟨q, H _ _ hq⟩
  · exact Or.inr (Or.inl ⟨q, H _ _ hq⟩)
  · exact Or.inr (Or.inr (⟨q, H _ _ hq⟩))
theorem g_71 {S : Nat × (Nat → Int32)} {n : Nat} {h : PH} {Q : Rs → PH → Prop} {x0 x1 x2 : Int32} (hL : LR h) (H : ∀ r h', LR h' → Q (.inl (some (.int r))) h') : Ex S (n + 18) 71 [.ref 0, .int x0, .int x1, .int x2, .ref 173] h Q := by
  obtain ⟨m, g, hM, hc, hr, hb⟩ := hL
  refine gx_71 (K := fun _ m' => ClS m' ∧ Frm pNb m m') (E := fun e m' => (e = 2 ∨ e = 0 ∨ e = 1) ∧ ClS m' ∧ Frm pNb m m') hM (f_72 hc (fun r m' a b => ⟨a, b⟩) (fun e m' q a b => ⟨q, a, b⟩)) (fun y h' m' g' _ hL' _ hK => H _ _ (LR.cls hL' hr hb hK.1 hK.2)) (fun e h' m' hL' hE => ?_)
  have hq := LR.cls hL' hr hb hE.2.1 hE.2.2
  rcases hE.1 with q | q | q
  · exact Or.inl ⟨q, H _ _ hq⟩
  · exact Or.inr (Or.inl ⟨q, H _ _ hq⟩)
  · exact Or.inr (Or.inr (⟨q, H _ _ hq⟩))
theorem g_78 {S : Nat × (Nat → Int32)} {n : Nat} {h : PH} {Q : Rs → PH → Prop} {x0 x1 : Int32} (hL : LR h) (H : ∀ r h', LR h' → Q (.inl (some (.int r))) h') : Ex S (n + 18) 78 [.ref 0, .int x0, .int x1, .ref 173] h Q := by
  obtain ⟨m, g, hM, hc, hr, hb⟩ := hL
  refine gx_78 (K := fun _ m' => ClS m' ∧ Frm pNb m m') (E := fun e m' => (e = 2 ∨ e = 0 ∨ e = 1) ∧ ClS m' ∧ Frm pNb m m') hM (f_79 hc (fun r m' a b => ⟨a, b⟩) (fun e m' q a b => ⟨q, a, b⟩)) (fun y h' m' g' _ hL' _ hK => H _ _ (LR.cls hL' hr hb hK.1 hK.2)) (fun e h' m' hL' hE => ?_)
  have hq := LR.cls hL' hr hb hE.2.1 hE.2.2
  rcases hE.1 with q | q | q
  · exact Or.inl ⟨q, H _ _ hq⟩
  · exact Or.inr (Or.inl ⟨q, H _ _ hq⟩)
  · exact Or.inr (Or.inr (⟨q, H _ _ hq⟩))
theorem g_81 {S : Nat × (Nat → Int32)} {n : Nat} {h : PH} {Q : Rs → PH → Prop} {x0 : Int32} (hL : LR h) (H : ∀ r h', LR h' → Q (.inl (some (.int r))) h') : Ex S (n + 18) 81 [.ref 0, .int x0, .ref 173] h Q := by
  obtain ⟨m, g, hM, hc, hr, hb⟩ := hL
  refine gx_81 (K := fun _ m' => ClS m' ∧ Frm pNb m m') (E := fun e m' => (e = 2) ∧ ClS m' ∧ Frm pNb m m') hM (f_82 hc (fun r m' a b => ⟨a, b⟩) (fun e m' q a b => ⟨q, a, b⟩)) (fun y h' m' g' _ hL' _ hK => H _ _ (LR.cls hL' hr hb hK.1 hK.2)) (fun e h' m' hL' hE => ?_)
  have hq := LR.cls hL' hr hb hE.2.1 hE.2.2
  exact ⟨hE.1, H _ _ hq⟩
theorem g_83 {S : Nat × (Nat → Int32)} {n : Nat} {h : PH} {Q : Rs → PH → Prop} {x0 : Int32} (hL : LR h) (H : ∀ r h', LR h' → Q (.inl (some (.int r))) h') : Ex S (n + 18) 83 [.ref 0, .int x0, .ref 173] h Q := by
  obtain ⟨m, g, hM, hc, hr, hb⟩ := hL
  refine gx_83 (K := fun _ m' => ClS m' ∧ Frm pNb m m') (E := fun e m' => (e = 0 ∨ e = 1) ∧ ClS m' ∧ Frm pNb m m') hM (f_84 hc (fun r m' a b => ⟨a, b⟩) (fun e m' q a b => ⟨q, a, b⟩)) (fun y h' m' g' _ hL' _ hK => H _ _ (LR.cls hL' hr hb hK.1 hK.2)) (fun e h' m' hL' hE => ?_)
  have hq := LR.cls hL' hr hb hE.2.1 hE.2.2
  exact hE.1.imp (fun q => ⟨q, H _ _ hq⟩) (fun q => ⟨q, H _ _ hq⟩)
theorem g_111 {S : Nat × (Nat → Int32)} {n : Nat} {h : PH} {Q : Rs → PH → Prop} (hL : LR h) (H : ∀ r h', LR h' → Q (.inl (some (.int r))) h') : Ex S (n + 18) 111 [.ref 0, .ref 173] h Q := by
  obtain ⟨m, g, hM, hc, hr, hb⟩ := hL
  refine gx_111 (K := fun _ m' => ClS m' ∧ Frm pNb m m') (E := fun e m' => (e = 1) ∧ ClS m' ∧ Frm pNb m m') hM (f_112 hc (fun r m' a b => ⟨a, b⟩) (fun e m' q a b => ⟨q, a, b⟩)) (fun y h' m' g' _ hL' _ hK => H _ _ (LR.cls hL' hr hb hK.1 hK.2)) (fun e h' m' hL' hE => ?_)
  have hq := LR.cls hL' hr hb hE.2.1 hE.2.2
  exact ⟨hE.1, H _ _ hq⟩
theorem g_113 {S : Nat × (Nat → Int32)} {n : Nat} {h : PH} {Q : Rs → PH → Prop} {x0 x1 : Int32} (hL : LR h) (H : ∀ r h', LR h' → Q (.inl (some (.int r))) h') : Ex S (n + 18) 113 [.ref 0, .int x0, .int x1, .ref 173] h Q := by
  obtain ⟨m, g, hM, hc, hr, hb⟩ := hL
  refine gx_113 (K := fun _ m' => ClS m' ∧ Frm pNb m m') (E := fun e m' => (e = 2 ∨ e = 0 ∨ e = 1) ∧ ClS m' ∧ Frm pNb m m') hM (f_114 hc (fun r m' a b => ⟨a, b⟩) (fun e m' q a b => ⟨q, a, b⟩)) (fun y h' m' g' _ hL' _ hK => H _ _ (LR.cls hL' hr hb hK.1 hK.2)) (fun e h' m' hL' hE => ?_)
  have hq := LR.cls hL' hr hb hE.2.1 hE.2.2
  rcases hE.1 with q | q | q
  · exact Or.inl ⟨q, H _ _ hq⟩
  · exact Or.inr (Or.inl ⟨q, H _ _ hq⟩)
  · exact Or.inr (Or.inr (⟨q, H _ _ hq⟩))
theorem g_116 {S : Nat × (Nat → Int32)} {n : Nat} {h : PH} {Q : Rs → PH → Prop} {x0 x1 x2 : Int32} (hL : LR h) (H : ∀ r h', LR h' → Q (.inl (some (.int r))) h') : Ex S (n + 18) 116 [.ref 0, .int x0, .int x1, .int x2, .ref 173] h Q := by
  obtain ⟨m, g, hM, hc, hr, hb⟩ := hL
  refine gx_116 (K := fun _ m' => ClS m' ∧ Frm pNb m m') (E := fun e m' => (e = 2 ∨ e = 0 ∨ e = 1) ∧ ClS m' ∧ Frm pNb m m') hM (f_117 hc (fun r m' a b => ⟨a, b⟩) (fun e m' q a b => ⟨q, a, b⟩)) (fun y h' m' g' _ hL' _ hK => H _ _ (LR.cls hL' hr hb hK.1 hK.2)) (fun e h' m' hL' hE => ?_)
  have hq := LR.cls hL' hr hb hE.2.1 hE.2.2
  rcases hE.1 with q | q | q
  · exact Or.inl ⟨q, H _ _ hq⟩
  · exact Or.inr (Or.inl ⟨q, H _ _ hq⟩)
  · exact Or.inr (Or.inr (⟨q, H _ _ hq⟩))
theorem g_121 {S : Nat × (Nat → Int32)} {n : Nat} {h : PH} {Q : Rs → PH → Prop} {x0 x1 : Int32} (hL : LR h) (H : ∀ r h', LR h' → Q (.inl (some (.int r))) h') : Ex S (n + 18) 121 [.ref 0, .int x0, .int x1, .ref 173] h Q := by
  obtain ⟨m, g, hM, hc, hr, hb⟩ := hL
  refine gx_121 (K := fun _ m' => ClS m' ∧ Frm pNb m m') (E := fun e m' => (e = 2 ∨ e = 0 ∨ e = 1) ∧ ClS m' ∧ Frm pNb m m') hM (f_122 hc (fun r m' a b => ⟨a, b⟩) (fun e m' q a b => ⟨q, a, b⟩)) (fun y h' m' g' _ hL' _ hK => H _ _ (LR.cls hL' hr hb hK.1 hK.2)) (fun e h' m' hL' hE => ?_)
  have hq := LR.cls hL' hr hb hE.2.1 hE.2.2
  rcases hE.1 with q | q | q
  · exact Or.inl ⟨q, H _ _ hq⟩
  · exact Or.inr (Or.inl ⟨q, H _ _ hq⟩)
  · exact Or.inr (Or.inr (⟨q, H _ _ hq⟩))
theorem g_135 {S : Nat × (Nat → Int32)} {n : Nat} {h : PH} {Q : Rs → PH → Prop} {x0 : Int32} (hL : LR h) (H : ∀ r h', LR h' → Q (.inl (some (.int r))) h') : Ex S (n + 18) 135 [.ref 0, .int x0, .ref 173] h Q := by
  obtain ⟨m, g, hM, hc, hr, hb⟩ := hL
  refine gx_135 (K := fun _ m' => ClS m' ∧ Frm pNb m m') (E := fun e m' => (e = 0 ∨ e = 1) ∧ ClS m' ∧ Frm pNb m m') hM (f_136 hc (fun r m' a b => ⟨a, b⟩) (fun e m' q a b => ⟨q, a, b⟩)) (fun y h' m' g' _ hL' _ hK => H _ _ (LR.cls hL' hr hb hK.1 hK.2)) (fun e h' m' hL' hE => ?_)
  have hq := LR.cls hL' hr hb hE.2.1 hE.2.2
  exact hE.1.imp (fun q => ⟨q, H _ _ hq⟩) (fun q => ⟨q, H _ _ hq⟩)
theorem g_137 {S : Nat × (Nat → Int32)} {n : Nat} {h : PH} {Q : Rs → PH → Prop} (hL : LR h) (H : ∀ r h', LR h' → Q (.inl (some (.int r))) h') : Ex S (n + 18) 137 [.ref 0, .ref 173] h Q := by
  obtain ⟨m, g, hM, hc, hr, hb⟩ := hL
  refine gx_137 (K := fun _ m' => ClS m' ∧ Frm pNb m m') (E := fun e m' => (e = 1) ∧ ClS m' ∧ Frm pNb m m') hM (f_138 hc (fun r m' a b => ⟨a, b⟩) (fun e m' q a b => ⟨q, a, b⟩)) (fun y h' m' g' _ hL' _ hK => H _ _ (LR.cls hL' hr hb hK.1 hK.2)) (fun e h' m' hL' hE => ?_)
  have hq := LR.cls hL' hr hb hE.2.1 hE.2.2
  exact ⟨hE.1, H _ _ hq⟩
theorem g_139 {S : Nat × (Nat → Int32)} {n : Nat} {h : PH} {Q : Rs → PH → Prop} {x0 x1 : Int32} (hL : LR h) (H : ∀ r h', LR h' → Q (.inl (some (.int r))) h') : Ex S (n + 18) 139 [.ref 0, .int x0, .int x1, .ref 173] h Q := by
  obtain ⟨m, g, hM, hc, hr, hb⟩ := hL
  refine gx_139 (K := fun _ m' => ClS m' ∧ Frm pNb m m') (E := fun e m' => (e = 3 ∨ e = 0 ∨ e = 1) ∧ ClS m' ∧ Frm pNb m m') hM (f_140 hc (fun r m' a b => ⟨a, b⟩) (fun e m' q a b => ⟨q, a, b⟩)) (fun y h' m' g' _ hL' _ hK => H _ _ (LR.cls hL' hr hb hK.1 hK.2)) (fun e h' m' hL' hE => ?_)
  have hq := LR.cls hL' hr hb hE.2.1 hE.2.2
  rcases hE.1 with q | q | q
  · exact Or.inl ⟨q, H _ _ hq⟩
  · exact Or.inr (Or.inl ⟨q, H _ _ hq⟩)
  · exact Or.inr (Or.inr (⟨q, H _ _ hq⟩))
theorem g_144 {S : Nat × (Nat → Int32)} {n : Nat} {h : PH} {Q : Rs → PH → Prop} {x0 x1 x2 : Int32} (hL : LR h) (H : ∀ r h', LR h' → Q (.inl (some (.int r))) h') : Ex S (n + 18) 144 [.ref 0, .int x0, .int x1, .int x2, .ref 173] h Q := by
  obtain ⟨m, g, hM, hc, hr, hb⟩ := hL
  refine gx_144 (K := fun _ m' => ClS m' ∧ Frm pNb m m') (E := fun e m' => (e = 2 ∨ e = 3 ∨ e = 0 ∨ e = 1) ∧ ClS m' ∧ Frm pNb m m') hM (f_145 hc (fun r m' a b => ⟨a, b⟩) (fun e m' q a b => ⟨q, a, b⟩)) (fun y h' m' g' _ hL' _ hK => H _ _ (LR.cls hL' hr hb hK.1 hK.2)) (fun e h' m' hL' hE => ?_)
  have hq := LR.cls hL' hr hb hE.2.1 hE.2.2
  rcases hE.1 with q | q | q | q
  · exact Or.inl ⟨q, H _ _ hq⟩
  · exact Or.inr (Or.inl ⟨q, H _ _ hq⟩)
  · exact Or.inr (Or.inr (Or.inl ⟨q, H _ _ hq⟩))
  · exact Or.inr (Or.inr (Or.inr (⟨q, H _ _ hq⟩)))
theorem g_147 {S : Nat × (Nat → Int32)} {n : Nat} {h : PH} {Q : Rs → PH → Prop} {x0 x1 : Int32} (hL : LR h) (H : ∀ r h', LR h' → Q (.inl (some (.int r))) h') : Ex S (n + 18) 147 [.ref 0, .int x0, .int x1, .ref 173] h Q := by
  obtain ⟨m, g, hM, hc, hr, hb⟩ := hL
  refine gx_147 (K := fun _ m' => ClS m' ∧ Frm pNb m m') (E := fun e m' => (e = 0 ∨ e = 1) ∧ ClS m' ∧ Frm pNb m m') hM (f_148 hc (fun r m' a b => ⟨a, b⟩) (fun e m' q a b => ⟨q, a, b⟩)) (fun y h' m' g' _ hL' _ hK => H _ _ (LR.cls hL' hr hb hK.1 hK.2)) (fun e h' m' hL' hE => ?_)
  have hq := LR.cls hL' hr hb hE.2.1 hE.2.2
  exact hE.1.imp (fun q => ⟨q, H _ _ hq⟩) (fun q => ⟨q, H _ _ hq⟩)
theorem g_149 {S : Nat × (Nat → Int32)} {n : Nat} {h : PH} {Q : Rs → PH → Prop} {x0 x1 x2 x3 : Int32} (hL : LR h) (H : ∀ r h', LR h' → Q (.inl (some (.int r))) h') : Ex S (n + 18) 149 [.ref 0, .int x0, .int x1, .int x2, .int x3, .ref 173] h Q := by
  obtain ⟨m, g, hM, hc, hr, hb⟩ := hL
  refine gx_149 (K := fun _ m' => ClS m' ∧ Frm pNb m m') (E := fun e m' => (e = 2 ∨ e = 0 ∨ e = 1) ∧ ClS m' ∧ Frm pNb m m') hM (f_150 hc (fun r m' a b => ⟨a, b⟩) (fun e m' q a b => ⟨q, a, b⟩)) (fun y h' m' g' _ hL' _ hK => H _ _ (LR.cls hL' hr hb hK.1 hK.2)) (fun e h' m' hL' hE => ?_)
  have hq := LR.cls hL' hr hb hE.2.1 hE.2.2
  rcases hE.1 with q | q | q
  · exact Or.inl ⟨q, H _ _ hq⟩
  · exact Or.inr (Or.inl ⟨q, H _ _ hq⟩)
  · exact Or.inr (Or.inr (⟨q, H _ _ hq⟩))
theorem g_153 {S : Nat × (Nat → Int32)} {n : Nat} {h : PH} {Q : Rs → PH → Prop} {x0 x1 x2 : Int32} (hL : LR h) (H : ∀ r h', LR h' → Q (.inl (some (.int r))) h') : Ex S (n + 18) 153 [.ref 0, .int x0, .int x1, .int x2, .ref 173] h Q := by
  obtain ⟨m, g, hM, hc, hr, hb⟩ := hL
  refine gx_153 (K := fun _ m' => ClS m' ∧ Frm pNb m m') (E := fun e m' => (e = 3 ∨ e = 0 ∨ e = 1) ∧ ClS m' ∧ Frm pNb m m') hM (f_154 hc (fun r m' a b => ⟨a, b⟩) (fun e m' q a b => ⟨q, a, b⟩)) (fun y h' m' g' _ hL' _ hK => H _ _ (LR.cls hL' hr hb hK.1 hK.2)) (fun e h' m' hL' hE => ?_)
  have hq := LR.cls hL' hr hb hE.2.1 hE.2.2
  rcases hE.1 with q | q | q
  · exact Or.inl ⟨q, H _ _ hq⟩
  · exact Or.inr (Or.inl ⟨q, H _ _ hq⟩)
  · exact Or.inr (Or.inr (⟨q, H _ _ hq⟩))
theorem g_158 {S : Nat × (Nat → Int32)} {n : Nat} {h : PH} {Q : Rs → PH → Prop} {x0 x1 x2 x3 : Int32} (hL : LR h) (H : ∀ r h', LR h' → Q (.inl (some (.int r))) h') : Ex S (n + 18) 158 [.ref 0, .int x0, .int x1, .int x2, .int x3, .ref 173] h Q := by
  obtain ⟨m, g, hM, hc, hr, hb⟩ := hL
  refine gx_158 (K := fun _ m' => ClS m' ∧ Frm pNb m m') (E := fun e m' => (e = 0 ∨ e = 1) ∧ ClS m' ∧ Frm pNb m m') hM (f_159 hc (fun r m' a b => ⟨a, b⟩) (fun e m' q a b => ⟨q, a, b⟩)) (fun y h' m' g' _ hL' _ hK => H _ _ (LR.cls hL' hr hb hK.1 hK.2)) (fun e h' m' hL' hE => ?_)
  have hq := LR.cls hL' hr hb hE.2.1 hE.2.2
  exact hE.1.imp (fun q => ⟨q, H _ _ hq⟩) (fun q => ⟨q, H _ _ hq⟩)
theorem g_165 {S : Nat × (Nat → Int32)} {n : Nat} {h : PH} {Q : Rs → PH → Prop} {x0 x1 x2 : Int32} (hL : LR h) (H : ∀ r h', LR h' → Q (.inl (some (.int r))) h') : Ex S (n + 18) 165 [.ref 0, .int x0, .int x1, .int x2, .ref 173] h Q := by
  obtain ⟨m, g, hM, hc, hr, hb⟩ := hL
  refine gx_165 (K := fun _ m' => ClS m' ∧ Frm pNb m m') (E := fun e m' => (e = 2 ∨ e = 0 ∨ e = 1) ∧ ClS m' ∧ Frm pNb m m') hM (f_166 hc (fun r m' a b => ⟨a, b⟩) (fun e m' q a b => ⟨q, a, b⟩)) (fun y h' m' g' _ hL' _ hK => H _ _ (LR.cls hL' hr hb hK.1 hK.2)) (fun e h' m' hL' hE => ?_)
  have hq := LR.cls hL' hr hb hE.2.1 hE.2.2
  rcases hE.1 with q | q | q
  · exact Or.inl ⟨q, H _ _ hq⟩
  · exact Or.inr (Or.inl ⟨q, H _ _ hq⟩)
  · exact Or.inr (Or.inr (⟨q, H _ _ hq⟩))
theorem g_168 {S : Nat × (Nat → Int32)} {n : Nat} {h : PH} {Q : Rs → PH → Prop} {x0 x1 x2 : Int32} (hL : LR h) (H : ∀ r h', LR h' → Q (.inl (some (.int r))) h') : Ex S (n + 18) 168 [.ref 0, .int x0, .int x1, .int x2, .ref 173] h Q := by
  obtain ⟨m, g, hM, hc, hr, hb⟩ := hL
  refine gx_168 (K := fun _ m' => ClS m' ∧ Frm pNb m m') (E := fun e m' => (e = 0 ∨ e = 1) ∧ ClS m' ∧ Frm pNb m m') hM (f_169 hc (fun r m' a b => ⟨a, b⟩) (fun e m' q a b => ⟨q, a, b⟩)) (fun y h' m' g' _ hL' _ hK => H _ _ (LR.cls hL' hr hb hK.1 hK.2)) (fun e h' m' hL' hE => ?_)
  have hq := LR.cls hL' hr hb hE.2.1 hE.2.2
  exact hE.1.imp (fun q => ⟨q, H _ _ hq⟩) (fun q => ⟨q, H _ _ hq⟩)
theorem g_170 {S : Nat × (Nat → Int32)} {n : Nat} {h : PH} {Q : Rs → PH → Prop} {x0 x1 x2 x3 : Int32} (hL : LR h) (H : ∀ r h', LR h' → Q (.inl (some (.int r))) h') : Ex S (n + 18) 170 [.ref 0, .int x0, .int x1, .int x2, .int x3, .ref 173] h Q := by
  obtain ⟨m, g, hM, hc, hr, hb⟩ := hL
  refine gx_170 (K := fun _ m' => ClS m' ∧ Frm pNb m m') (E := fun e m' => (e = 2 ∨ e = 0 ∨ e = 1) ∧ ClS m' ∧ Frm pNb m m') hM (f_171 hc (fun r m' a b => ⟨a, b⟩) (fun e m' q a b => ⟨q, a, b⟩)) (fun y h' m' g' _ hL' _ hK => H _ _ (LR.cls hL' hr hb hK.1 hK.2)) (fun e h' m' hL' hE => ?_)
  have hq := LR.cls hL' hr hb hE.2.1 hE.2.2
  rcases hE.1 with q | q | q
  · exact Or.inl ⟨q, H _ _ hq⟩
  · exact Or.inr (Or.inl ⟨q, H _ _ hq⟩)
  · exact Or.inr (Or.inr (⟨q, H _ _ hq⟩))
theorem g_172 {S : Nat × (Nat → Int32)} {n : Nat} {h : PH} {Q : Rs → PH → Prop} {x0 x1 : Int32} (hL : LR h) (H : ∀ r h', LR h' → Q (.inl (some (.int r))) h') : Ex S (n + 18) 172 [.ref 0, .int x0, .int x1, .ref 173] h Q := by
  obtain ⟨m, g, hM, hc, hr, hb⟩ := hL
  refine gx_172 (K := fun _ m' => ClS m' ∧ Frm pNb m m') (E := fun e m' => (e = 0 ∨ e = 1) ∧ ClS m' ∧ Frm pNb m m') hM (f_173 hc (fun r m' a b => ⟨a, b⟩) (fun e m' q a b => ⟨q, a, b⟩)) (fun y h' m' g' _ hL' _ hK => H _ _ (LR.cls hL' hr hb hK.1 hK.2)) (fun e h' m' hL' hE => ?_)
  have hq := LR.cls hL' hr hb hE.2.1 hE.2.2
  exact hE.1.imp (fun q => ⟨q, H _ _ hq⟩) (fun q => ⟨q, H _ _ hq⟩)
theorem g_174 {S : Nat × (Nat → Int32)} {n : Nat} {h : PH} {Q : Rs → PH → Prop} {x0 x1 x2 : Int32} (hL : LR h) (H : ∀ r h', LR h' → Q (.inl (some (.int r))) h') : Ex S (n + 18) 174 [.ref 0, .int x0, .int x1, .int x2, .ref 173] h Q := by
  obtain ⟨m, g, hM, hc, hr, hb⟩ := hL
  refine gx_174 (K := fun _ m' => ClS m' ∧ Frm pNb m m') (E := fun e m' => (e = 0 ∨ e = 1) ∧ ClS m' ∧ Frm pNb m m') hM (f_175 hc (fun r m' a b => ⟨a, b⟩) (fun e m' q a b => ⟨q, a, b⟩)) (fun y h' m' g' _ hL' _ hK => H _ _ (LR.cls hL' hr hb hK.1 hK.2)) (fun e h' m' hL' hE => ?_)
  have hq := LR.cls hL' hr hb hE.2.1 hE.2.2
  exact hE.1.imp (fun q => ⟨q, H _ _ hq⟩) (fun q => ⟨q, H _ _ hq⟩)
theorem g_177 {S : Nat × (Nat → Int32)} {n : Nat} {h : PH} {Q : Rs → PH → Prop} {x0 : Int32} (hL : LR h) (H : ∀ r h', LR h' → Q (.inl (some (.int r))) h') : Ex S (n + 18) 177 [.ref 0, .int x0, .ref 173] h Q := by
  obtain ⟨m, g, hM, hc, hr, hb⟩ := hL
  refine gx_177 (K := fun _ m' => ClS m' ∧ Frm pNb m m') (E := fun e m' => (e = 0 ∨ e = 1) ∧ ClS m' ∧ Frm pNb m m') hM (f_178 hc (fun r m' a b => ⟨a, b⟩) (fun e m' q a b => ⟨q, a, b⟩)) (fun y h' m' g' _ hL' _ hK => H _ _ (LR.cls hL' hr hb hK.1 hK.2)) (fun e h' m' hL' hE => ?_)
  have hq := LR.cls hL' hr hb hE.2.1 hE.2.2
  exact hE.1.imp (fun q => ⟨q, H _ _ hq⟩) (fun q => ⟨q, H _ _ hq⟩)
theorem g_182 {S : Nat × (Nat → Int32)} {n : Nat} {h : PH} {Q : Rs → PH → Prop} {x0 x1 x2 : Int32} (hL : LR h) (H : ∀ r h', LR h' → Q (.inl (some (.int r))) h') : Ex S (n + 18) 182 [.ref 0, .int x0, .int x1, .int x2, .ref 173] h Q := by
  obtain ⟨m, g, hM, hc, hr, hb⟩ := hL
  refine gx_182 (K := fun _ m' => ClS m' ∧ Frm pNb m m') (E := fun e m' => (e = 2 ∨ e = 0 ∨ e = 1) ∧ ClS m' ∧ Frm pNb m m') hM (f_183 hc (fun r m' a b => ⟨a, b⟩) (fun e m' q a b => ⟨q, a, b⟩)) (fun y h' m' g' _ hL' _ hK => H _ _ (LR.cls hL' hr hb hK.1 hK.2)) (fun e h' m' hL' hE => ?_)
  have hq := LR.cls hL' hr hb hE.2.1 hE.2.2
  rcases hE.1 with q | q | q
  · exact Or.inl ⟨q, H _ _ hq⟩
  · exact Or.inr (Or.inl ⟨q, H _ _ hq⟩)
  · exact Or.inr (Or.inr (⟨q, H _ _ hq⟩))
theorem g_184 {S : Nat × (Nat → Int32)} {n : Nat} {h : PH} {Q : Rs → PH → Prop} {x0 x1 x2 x3 x4 : Int32} (hL : LR h) (H : ∀ r h', LR h' → Q (.inl (some (.int r))) h') : Ex S (n + 18) 184 [.ref 0, .int x0, .int x1, .int x2, .int x3, .int x4, .ref 173] h Q := by
  obtain ⟨m, g, hM, hc, hr, hb⟩ := hL
  refine gx_184 (K := fun _ m' => ClS m' ∧ Frm pNb m m') (E := fun e m' => (e = 2 ∨ e = 0 ∨ e = 1) ∧ ClS m' ∧ Frm pNb m m') hM (f_185 hc (fun r m' a b => ⟨a, b⟩) (fun e m' q a b => ⟨q, a, b⟩)) (fun y h' m' g' _ hL' _ hK => H _ _ (LR.cls hL' hr hb hK.1 hK.2)) (fun e h' m' hL' hE => ?_)
  have hq := LR.cls hL' hr hb hE.2.1 hE.2.2
  rcases hE.1 with q | q | q
  · exact Or.inl ⟨q, H _ _ hq⟩
  · exact Or.inr (Or.inl ⟨q, H _ _ hq⟩)
  · exact Or.inr (Or.inr (⟨q, H _ _ hq⟩))
theorem g_187 {S : Nat × (Nat → Int32)} {n : Nat} {h : PH} {Q : Rs → PH → Prop} {x0 : Int32} (hL : LR h) (H : ∀ r h', LR h' → Q (.inl (some (.int r))) h') : Ex S (n + 18) 187 [.ref 0, .int x0, .ref 173] h Q := by
  obtain ⟨m, g, hM, hc, hr, hb⟩ := hL
  refine gx_187 (K := fun _ m' => ClS m' ∧ Frm pNb m m') (E := fun e m' => (e = 1) ∧ ClS m' ∧ Frm pNb m m') hM (f_188 hc (fun r m' a b => ⟨a, b⟩) (fun e m' q a b => ⟨q, a, b⟩)) (fun y h' m' g' _ hL' _ hK => H _ _ (LR.cls hL' hr hb hK.1 hK.2)) (fun e h' m' hL' hE => ?_)
  have hq := LR.cls hL' hr hb hE.2.1 hE.2.2
  exact ⟨hE.1, H _ _ hq⟩
theorem g_189 {S : Nat × (Nat → Int32)} {n : Nat} {h : PH} {Q : Rs → PH → Prop} (hL : LR h) (H : ∀ r h', LR h' → Q (.inl (some (.int r))) h') : Ex S (n + 18) 189 [.ref 0, .ref 173] h Q := by
  obtain ⟨m, g, hM, hc, hr, hb⟩ := hL
  refine gx_189 (K := fun _ m' => ClS m' ∧ Frm pNb m m') (E := fun e m' => (e = 1) ∧ ClS m' ∧ Frm pNb m m') hM (f_190 hc (fun r m' a b => ⟨a, b⟩) (fun e m' q a b => ⟨q, a, b⟩)) (fun y h' m' g' _ hL' _ hK => H _ _ (LR.cls hL' hr hb hK.1 hK.2)) (fun e h' m' hL' hE => ?_)
  have hq := LR.cls hL' hr hb hE.2.1 hE.2.2
  exact ⟨hE.1, H _ _ hq⟩
theorem g_191 {S : Nat × (Nat → Int32)} {n : Nat} {h : PH} {Q : Rs → PH → Prop} {x0 : Int32} (hL : LR h) (H : ∀ r h', LR h' → Q (.inl (some (.int r))) h') : Ex S (n + 18) 191 [.ref 0, .int x0, .ref 173] h Q := by
  obtain ⟨m, g, hM, hc, hr, hb⟩ := hL
  refine gx_191 (K := fun _ m' => ClS m' ∧ Frm pNb m m') (E := fun e m' => (e = 0 ∨ e = 1) ∧ ClS m' ∧ Frm pNb m m') hM (f_192 hc (fun r m' a b => ⟨a, b⟩) (fun e m' q a b => ⟨q, a, b⟩)) (fun y h' m' g' _ hL' _ hK => H _ _ (LR.cls hL' hr hb hK.1 hK.2)) (fun e h' m' hL' hE => ?_)
  have hq := LR.cls hL' hr hb hE.2.1 hE.2.2
  exact hE.1.imp (fun q => ⟨q, H _ _ hq⟩) (fun q => ⟨q, H _ _ hq⟩)
theorem g_193 {S : Nat × (Nat → Int32)} {n : Nat} {h : PH} {Q : Rs → PH → Prop} (hL : LR h) (H : ∀ r h', LR h' → Q (.inl (some (.int r))) h') : Ex S (n + 18) 193 [.ref 0, .ref 173] h Q := by
  obtain ⟨m, g, hM, hc, hr, hb⟩ := hL
  refine gx_193 (K := fun _ m' => ClS m' ∧ Frm pNb m m') (E := fun e m' => (e = 1) ∧ ClS m' ∧ Frm pNb m m') hM (f_194 hc (fun r m' a b => ⟨a, b⟩) (fun e m' q a b => ⟨q, a, b⟩)) (fun y h' m' g' _ hL' _ hK => H _ _ (LR.cls hL' hr hb hK.1 hK.2)) (fun e h' m' hL' hE => ?_)
  have hq := LR.cls hL' hr hb hE.2.1 hE.2.2
  exact ⟨hE.1, H _ _ hq⟩
theorem g_195 {S : Nat × (Nat → Int32)} {n : Nat} {h : PH} {Q : Rs → PH → Prop} {x0 : Int32} (hL : LR h) (H : ∀ r h', LR h' → Q (.inl (some (.int r))) h') : Ex S (n + 18) 195 [.ref 0, .int x0, .ref 173] h Q := by
  obtain ⟨m, g, hM, hc, hr, hb⟩ := hL
  refine gx_195 (K := fun _ m' => ClS m' ∧ Frm pNb m m') (E := fun e m' => (e = 2 ∨ e = 1) ∧ ClS m' ∧ Frm pNb m m') hM (f_196 hc (fun r m' a b => ⟨a, b⟩) (fun e m' q a b => ⟨q, a, b⟩)) (fun y h' m' g' _ hL' _ hK => H _ _ (LR.cls hL' hr hb hK.1 hK.2)) (fun e h' m' hL' hE => ?_)
  have hq := LR.cls hL' hr hb hE.2.1 hE.2.2
  exact hE.1.imp (fun q => ⟨q, H _ _ hq⟩) (fun q => ⟨q, H _ _ hq⟩)
theorem g_197 {S : Nat × (Nat → Int32)} {n : Nat} {h : PH} {Q : Rs → PH → Prop} {x0 : Int32} (hL : LR h) (H : ∀ r h', LR h' → Q (.inl (some (.int r))) h') : Ex S (n + 18) 197 [.ref 0, .int x0, .ref 173] h Q := by
  obtain ⟨m, g, hM, hc, hr, hb⟩ := hL
  refine gx_197 (K := fun _ m' => ClS m' ∧ Frm pNb m m') (E := fun e m' => (e = 1 ∨ e = 2) ∧ ClS m' ∧ Frm pNb m m') hM (f_198 hc (fun r m' a b => ⟨a, b⟩) (fun e m' q a b => ⟨q, a, b⟩)) (fun y h' m' g' _ hL' _ hK => H _ _ (LR.cls hL' hr hb hK.1 hK.2)) (fun e h' m' hL' hE => ?_)
  have hq := LR.cls hL' hr hb hE.2.1 hE.2.2
  exact hE.1.imp (fun q => ⟨q, H _ _ hq⟩) (fun q => ⟨q, H _ _ hq⟩)
theorem g_200 {S : Nat × (Nat → Int32)} {n : Nat} {h : PH} {Q : Rs → PH → Prop} {x0 x1 : Int32} (hL : LR h) (H : ∀ r h', LR h' → Q (.inl (some (.int r))) h') : Ex S (n + 18) 200 [.ref 0, .int x0, .int x1, .ref 173] h Q := by
  obtain ⟨m, g, hM, hc, hr, hb⟩ := hL
  refine gx_200 (K := fun _ m' => ClS m' ∧ Frm pNb m m') (E := fun e m' => (e = 2 ∨ e = 0 ∨ e = 1) ∧ ClS m' ∧ Frm pNb m m') hM (f_201 hc (fun r m' a b => ⟨a, b⟩) (fun e m' q a b => ⟨q, a, b⟩)) (fun y h' m' g' _ hL' _ hK => H _ _ (LR.cls hL' hr hb hK.1 hK.2)) (fun e h' m' hL' hE => ?_)
  have hq := LR.cls hL' hr hb hE.2.1 hE.2.2
  rcases hE.1 with q | q | q
  · exact Or.inl ⟨q, H _ _ hq⟩
  · exact Or.inr (Or.inl ⟨q, H _ _ hq⟩)
  · exact Or.inr (Or.inr (⟨q, H _ _ hq⟩))
theorem g_202 {S : Nat × (Nat → Int32)} {n : Nat} {h : PH} {Q : Rs → PH → Prop} {x0 x1 x2 : Int32} (hL : LR h) (H : ∀ r h', LR h' → Q (.inl (some (.int r))) h') : Ex S (n + 18) 202 [.ref 0, .int x0, .int x1, .int x2, .ref 173] h Q := by
  obtain ⟨m, g, hM, hc, hr, hb⟩ := hL
  refine gx_202 (K := fun _ m' => ClS m' ∧ Frm pNb m m') (E := fun e m' => (e = 2 ∨ e = 0 ∨ e = 1) ∧ ClS m' ∧ Frm pNb m m') hM (f_203 hc (fun r m' a b => ⟨a, b⟩) (fun e m' q a b => ⟨q, a, b⟩)) (fun y h' m' g' _ hL' _ hK => H _ _ (LR.cls hL' hr hb hK.1 hK.2)) (fun e h' m' hL' hE => ?_)
  have hq := LR.cls hL' hr hb hE.2.1 hE.2.2
  rcases hE.1 with q | q | q
  · exact Or.inl ⟨q, H _ _ hq⟩
  · exact Or.inr (Or.inl ⟨q, H _ _ hq⟩)
  · exact Or.inr (Or.inr (⟨q, H _ _ hq⟩))
theorem g_206 {S : Nat × (Nat → Int32)} {n : Nat} {h : PH} {Q : Rs → PH → Prop} {x0 x1 x2 : Int32} (hL : LR h) (H : ∀ r h', LR h' → Q (.inl (some (.int r))) h') : Ex S (n + 18) 206 [.ref 0, .int x0, .int x1, .int x2, .ref 173] h Q := by
  obtain ⟨m, g, hM, hc, hr, hb⟩ := hL
  refine gx_206 (K := fun _ m' => ClS m' ∧ Frm pNb m m') (E := fun e m' => (e = 2 ∨ e = 0 ∨ e = 1) ∧ ClS m' ∧ Frm pNb m m') hM (f_207 hc (fun r m' a b => ⟨a, b⟩) (fun e m' q a b => ⟨q, a, b⟩)) (fun y h' m' g' _ hL' _ hK => H _ _ (LR.cls hL' hr hb hK.1 hK.2)) (fun e h' m' hL' hE => ?_)
  have hq := LR.cls hL' hr hb hE.2.1 hE.2.2
  rcases hE.1 with q | q | q
  · exact Or.inl ⟨q, H _ _ hq⟩
  · exact Or.inr (Or.inl ⟨q, H _ _ hq⟩)
  · exact Or.inr (Or.inr (⟨q, H _ _ hq⟩))
theorem g_209 {S : Nat × (Nat → Int32)} {n : Nat} {h : PH} {Q : Rs → PH → Prop} {x0 x1 : Int32} (hL : LR h) (H : ∀ r h', LR h' → Q (.inl (some (.int r))) h') : Ex S (n + 18) 209 [.ref 0, .int x0, .int x1, .ref 173] h Q := by
  obtain ⟨m, g, hM, hc, hr, hb⟩ := hL
  refine gx_209 (K := fun _ m' => ClS m' ∧ Frm pNb m m') (E := fun e m' => (e = 0 ∨ e = 1) ∧ ClS m' ∧ Frm pNb m m') hM (f_210 hc (fun r m' a b => ⟨a, b⟩) (fun e m' q a b => ⟨q, a, b⟩)) (fun y h' m' g' _ hL' _ hK => H _ _ (LR.cls hL' hr hb hK.1 hK.2)) (fun e h' m' hL' hE => ?_)
  have hq := LR.cls hL' hr hb hE.2.1 hE.2.2
  exact hE.1.imp (fun q => ⟨q, H _ _ hq⟩) (fun q => ⟨q, H _ _ hq⟩)
theorem g_213 {S : Nat × (Nat → Int32)} {n : Nat} {h : PH} {Q : Rs → PH → Prop} {x0 x1 x2 x3 : Int32} (hL : LR h) (H : ∀ r h', LR h' → Q (.inl (some (.int r))) h') : Ex S (n + 18) 213 [.ref 0, .int x0, .int x1, .int x2, .int x3, .ref 173] h Q := by
  obtain ⟨m, g, hM, hc, hr, hb⟩ := hL
  refine gx_213 (K := fun _ m' => ClS m' ∧ Frm pNb m m') (E := fun e m' => (e = 0 ∨ e = 1) ∧ ClS m' ∧ Frm pNb m m') hM (f_214 hc (fun r m' a b => ⟨a, b⟩) (fun e m' q a b => ⟨q, a, b⟩)) (fun y h' m' g' _ hL' _ hK => H _ _ (LR.cls hL' hr hb hK.1 hK.2)) (fun e h' m' hL' hE => ?_)
  have hq := LR.cls hL' hr hb hE.2.1 hE.2.2
  exact hE.1.imp (fun q => ⟨q, H _ _ hq⟩) (fun q => ⟨q, H _ _ hq⟩)
theorem g_218 {S : Nat × (Nat → Int32)} {n : Nat} {h : PH} {Q : Rs → PH → Prop} {x0 : Int32} (hL : LR h) (H : ∀ r h', LR h' → Q (.inl (some (.int r))) h') : Ex S (n + 18) 218 [.ref 0, .int x0, .ref 173] h Q := by
  obtain ⟨m, g, hM, hc, hr, hb⟩ := hL
  refine gx_218 (K := fun _ m' => ClS m' ∧ Frm pNb m m') (E := fun e m' => (e = 0 ∨ e = 1) ∧ ClS m' ∧ Frm pNb m m') hM (f_219 hc (fun r m' a b => ⟨a, b⟩) (fun e m' q a b => ⟨q, a, b⟩)) (fun y h' m' g' _ hL' _ hK => H _ _ (LR.cls hL' hr hb hK.1 hK.2)) (fun e h' m' hL' hE => ?_)
  have hq := LR.cls hL' hr hb hE.2.1 hE.2.2
  exact hE.1.imp (fun q => ⟨q, H _ _ hq⟩) (fun q => ⟨q, H _ _ hq⟩)
theorem g_220 {S : Nat × (Nat → Int32)} {n : Nat} {h : PH} {Q : Rs → PH → Prop} {x0 : Int32} (hL : LR h) (H : ∀ r h', LR h' → Q (.inl (some (.int r))) h') : Ex S (n + 18) 220 [.ref 0, .int x0, .ref 173] h Q := by
  obtain ⟨m, g, hM, hc, hr, hb⟩ := hL
  refine gx_220 (K := fun _ m' => ClS m' ∧ Frm pNb m m') (E := fun e m' => (e = 2 ∨ e = 1) ∧ ClS m' ∧ Frm pNb m m') hM (f_221 hc (fun r m' a b => ⟨a, b⟩) (fun e m' q a b => ⟨q, a, b⟩)) (fun y h' m' g' _ hL' _ hK => H _ _ (LR.cls hL' hr hb hK.1 hK.2)) (fun e h' m' hL' hE => ?_)
  have hq := LR.cls hL' hr hb hE.2.1 hE.2.2
  exact hE.1.imp (fun q => ⟨q, H _ _ hq⟩) (fun q => ⟨q, H _ _ hq⟩)
theorem g_222 {S : Nat × (Nat → Int32)} {n : Nat} {h : PH} {Q : Rs → PH → Prop} {x0 : Int32} (hL : LR h) (H : ∀ r h', LR h' → Q (.inl (some (.int r))) h') : Ex S (n + 18) 222 [.ref 0, .int x0, .ref 173] h Q := by
  obtain ⟨m, g, hM, hc, hr, hb⟩ := hL
  refine gx_222 (K := fun _ m' => ClS m' ∧ Frm pNb m m') (E := fun e m' => (e = 0 ∨ e = 1) ∧ ClS m' ∧ Frm pNb m m') hM (f_223 hc (fun r m' a b => ⟨a, b⟩) (fun e m' q a b => ⟨q, a, b⟩)) (fun y h' m' g' _ hL' _ hK => H _ _ (LR.cls hL' hr hb hK.1 hK.2)) (fun e h' m' hL' hE => ?_)
  have hq := LR.cls hL' hr hb hE.2.1 hE.2.2
  exact hE.1.imp (fun q => ⟨q, H _ _ hq⟩) (fun q => ⟨q, H _ _ hq⟩)
end
section
/-! the law: its locals, its script -/
def Q1 (r : Rs) (_ : PH) : Prop := r = .inl (some (.int 1))
def LwS (lv : LV) (i : Int32) : Prop := px_g lv 0 = some (.retAddr 0) ∧ px_g lv 1 = some (.ref 0) ∧ px_g lv 2 = some (.ref 143) ∧ px_g lv 3 = some (.ref 173) ∧ px_g lv 4 = some (.int i)
theorem LwS.st {lv : LV} {i : Int32} {j : Nat} {v : Value} (hj : 4 < j) (h : LwS lv i) : LwS (px_s1 lv j v) i := ⟨pg_ne2 (by omega) h.1 (fun q => by omega), pg_ne2 (by omega) h.2.1 (fun q => by omega), pg_ne2 (by omega) h.2.2.1 (fun q => by omega), pg_ne2 (by omega) h.2.2.2.1 (fun q => by omega), pg_ne2 (by omega) h.2.2.2.2 (fun _ => rfl)⟩
theorem LwS.inc {lv : LV} {i j : Int32} (h : LwS lv i) : LwS (px_s1 lv 4 (.int j)) j := ⟨pg_ne2 (by omega) h.1 (fun q => by omega), pg_ne2 (by omega) h.2.1 (fun q => by omega), pg_ne2 (by omega) h.2.2.1 (fun q => by omega), pg_ne2 (by omega) h.2.2.2.1 (fun _ => rfl), pg_self _ _ _⟩
theorem sc_load {C : CXW} (hC : Cmono C) {S : Nat × (Nat → Int32)} {M : PM} {hd : List (Nat × Nat × Nat × Int)} {Q : Rs → PH → Prop} {pc : Nat} {lv : LV} {st : List Value} {h : PH} {c s : Nat} {i : Int32} {k : Int} (hl : LwS lv i) (t1 : (pT M).find? (fun e => e.1 == pc) = some (pc, .aload_n 0, 0, 0)) (t2 : (pT M).find? (fun e => e.1 == pc + 1) = some (pc + 1, .iload 4, 0, 0)) (t3 : (pT M).find? (fun e => e.1 == pc + 3) = some (pc + 3, .iconst k, 0, 0)) (t4 : (pT M).find? (fun e => e.1 == pc + 4) = some (pc + 4, .iadd, 0, 0)) (t5 : (pT M).find? (fun e => e.1 == pc + 5) = some (pc + 5, .iaload, 0, 0)) (hr : vp_in (i + Int32.ofInt k) S.1) (H : Vx C S M hd Q (pc + 6) lv (.int (S.2 (i + Int32.ofInt k).toNatClampNeg) :: st) h c s) : Vx C S M hd Q pc lv st h c s :=
  Vx.go hC t1 ⟨_, hl.1, ⟨0, Or.inr rfl⟩, Vx.go hC t2 ⟨_, hl.2.2.2.2, Vx.go hC t3 (Vx.go hC t4 (Vx.go hC t5 ⟨hr, H⟩))⟩⟩
theorem sc_in {S : Nat × (Nat → Int32)} {i : Int32} {k : Int} (hS : S.1 ≤ 3072) (hi : 0 ≤ i.toInt ∧ i.toInt + 5 < S.1) (hk : 0 ≤ k ∧ k ≤ 5) : vp_in (i + Int32.ofInt k) S.1 := by
  have e : (i + Int32.ofInt k).toInt = i.toInt + k := by
    rw [show i + Int32.ofInt k = Int32.ofInt (i.toInt + k) by rw [Int32.ofInt_add, Int32.ofInt_toInt]]
    exact wi (by unfold InI; omega)
  exact vp_in_iff.mpr (by rw [e]; omega)
theorem find_app {l1 l2 : List TE} {b pc : Nat} (h : l1.all (fun e => Nat.blt e.1 b) = true) (hb : Nat.ble b pc = true) : (l1 ++ l2).find? (fun e => e.1 == pc) = l2.find? (fun e => e.1 == pc) := by
  rw [List.find?_append]
  have : l1.find? (fun e => e.1 == pc) = none := by
    rw [List.find?_eq_none]
    intro x hx q
    have h1 := blt_iff.mp (List.all_eq_true.mp h x hx)
    have h2 := Nat.le_of_ble_eq_true hb
    have h3 : x.1 = pc := by simpa using q
    omega
  rw [this]
  rfl
noncomputable def tl_122 : List TE := tb_368_122
noncomputable def tl_121 : List TE := tb_368_121 ++ tl_122
noncomputable def tl_120 : List TE := tb_368_120 ++ tl_121
noncomputable def tl_119 : List TE := tb_368_119 ++ tl_120
noncomputable def tl_118 : List TE := tb_368_118 ++ tl_119
noncomputable def tl_117 : List TE := tb_368_117 ++ tl_118
noncomputable def tl_116 : List TE := tb_368_116 ++ tl_117
noncomputable def tl_115 : List TE := tb_368_115 ++ tl_116
noncomputable def tl_114 : List TE := tb_368_114 ++ tl_115
noncomputable def tl_113 : List TE := tb_368_113 ++ tl_114
noncomputable def tl_112 : List TE := tb_368_112 ++ tl_113
noncomputable def tl_111 : List TE := tb_368_111 ++ tl_112
noncomputable def tl_110 : List TE := tb_368_110 ++ tl_111
noncomputable def tl_109 : List TE := tb_368_109 ++ tl_110
noncomputable def tl_108 : List TE := tb_368_108 ++ tl_109
noncomputable def tl_107 : List TE := tb_368_107 ++ tl_108
noncomputable def tl_106 : List TE := tb_368_106 ++ tl_107
noncomputable def tl_105 : List TE := tb_368_105 ++ tl_106
noncomputable def tl_104 : List TE := tb_368_104 ++ tl_105
noncomputable def tl_103 : List TE := tb_368_103 ++ tl_104
noncomputable def tl_102 : List TE := tb_368_102 ++ tl_103
noncomputable def tl_101 : List TE := tb_368_101 ++ tl_102
noncomputable def tl_100 : List TE := tb_368_100 ++ tl_101
noncomputable def tl_99 : List TE := tb_368_99 ++ tl_100
noncomputable def tl_98 : List TE := tb_368_98 ++ tl_99
noncomputable def tl_97 : List TE := tb_368_97 ++ tl_98
noncomputable def tl_96 : List TE := tb_368_96 ++ tl_97
noncomputable def tl_95 : List TE := tb_368_95 ++ tl_96
noncomputable def tl_94 : List TE := tb_368_94 ++ tl_95
noncomputable def tl_93 : List TE := tb_368_93 ++ tl_94
noncomputable def tl_92 : List TE := tb_368_92 ++ tl_93
noncomputable def tl_91 : List TE := tb_368_91 ++ tl_92
noncomputable def tl_90 : List TE := tb_368_90 ++ tl_91
noncomputable def tl_89 : List TE := tb_368_89 ++ tl_90
noncomputable def tl_88 : List TE := tb_368_88 ++ tl_89
noncomputable def tl_87 : List TE := tb_368_87 ++ tl_88
noncomputable def tl_86 : List TE := tb_368_86 ++ tl_87
noncomputable def tl_85 : List TE := tb_368_85 ++ tl_86
noncomputable def tl_84 : List TE := tb_368_84 ++ tl_85
noncomputable def tl_83 : List TE := tb_368_83 ++ tl_84
noncomputable def tl_82 : List TE := tb_368_82 ++ tl_83
noncomputable def tl_81 : List TE := tb_368_81 ++ tl_82
noncomputable def tl_80 : List TE := tb_368_80 ++ tl_81
noncomputable def tl_79 : List TE := tb_368_79 ++ tl_80
noncomputable def tl_78 : List TE := tb_368_78 ++ tl_79
noncomputable def tl_77 : List TE := tb_368_77 ++ tl_78
noncomputable def tl_76 : List TE := tb_368_76 ++ tl_77
noncomputable def tl_75 : List TE := tb_368_75 ++ tl_76
noncomputable def tl_74 : List TE := tb_368_74 ++ tl_75
noncomputable def tl_73 : List TE := tb_368_73 ++ tl_74
noncomputable def tl_72 : List TE := tb_368_72 ++ tl_73
noncomputable def tl_71 : List TE := tb_368_71 ++ tl_72
noncomputable def tl_70 : List TE := tb_368_70 ++ tl_71
noncomputable def tl_69 : List TE := tb_368_69 ++ tl_70
noncomputable def tl_68 : List TE := tb_368_68 ++ tl_69
noncomputable def tl_67 : List TE := tb_368_67 ++ tl_68
noncomputable def tl_66 : List TE := tb_368_66 ++ tl_67
noncomputable def tl_65 : List TE := tb_368_65 ++ tl_66
noncomputable def tl_64 : List TE := tb_368_64 ++ tl_65
noncomputable def tl_63 : List TE := tb_368_63 ++ tl_64
noncomputable def tl_62 : List TE := tb_368_62 ++ tl_63
noncomputable def tl_61 : List TE := tb_368_61 ++ tl_62
noncomputable def tl_60 : List TE := tb_368_60 ++ tl_61
noncomputable def tl_59 : List TE := tb_368_59 ++ tl_60
noncomputable def tl_58 : List TE := tb_368_58 ++ tl_59
noncomputable def tl_57 : List TE := tb_368_57 ++ tl_58
noncomputable def tl_56 : List TE := tb_368_56 ++ tl_57
noncomputable def tl_55 : List TE := tb_368_55 ++ tl_56
noncomputable def tl_54 : List TE := tb_368_54 ++ tl_55
noncomputable def tl_53 : List TE := tb_368_53 ++ tl_54
noncomputable def tl_52 : List TE := tb_368_52 ++ tl_53
noncomputable def tl_51 : List TE := tb_368_51 ++ tl_52
noncomputable def tl_50 : List TE := tb_368_50 ++ tl_51
noncomputable def tl_49 : List TE := tb_368_49 ++ tl_50
noncomputable def tl_48 : List TE := tb_368_48 ++ tl_49
noncomputable def tl_47 : List TE := tb_368_47 ++ tl_48
noncomputable def tl_46 : List TE := tb_368_46 ++ tl_47
noncomputable def tl_45 : List TE := tb_368_45 ++ tl_46
noncomputable def tl_44 : List TE := tb_368_44 ++ tl_45
noncomputable def tl_43 : List TE := tb_368_43 ++ tl_44
noncomputable def tl_42 : List TE := tb_368_42 ++ tl_43
noncomputable def tl_41 : List TE := tb_368_41 ++ tl_42
noncomputable def tl_40 : List TE := tb_368_40 ++ tl_41
noncomputable def tl_39 : List TE := tb_368_39 ++ tl_40
noncomputable def tl_38 : List TE := tb_368_38 ++ tl_39
noncomputable def tl_37 : List TE := tb_368_37 ++ tl_38
noncomputable def tl_36 : List TE := tb_368_36 ++ tl_37
noncomputable def tl_35 : List TE := tb_368_35 ++ tl_36
noncomputable def tl_34 : List TE := tb_368_34 ++ tl_35
noncomputable def tl_33 : List TE := tb_368_33 ++ tl_34
noncomputable def tl_32 : List TE := tb_368_32 ++ tl_33
noncomputable def tl_31 : List TE := tb_368_31 ++ tl_32
noncomputable def tl_30 : List TE := tb_368_30 ++ tl_31
noncomputable def tl_29 : List TE := tb_368_29 ++ tl_30
noncomputable def tl_28 : List TE := tb_368_28 ++ tl_29
noncomputable def tl_27 : List TE := tb_368_27 ++ tl_28
noncomputable def tl_26 : List TE := tb_368_26 ++ tl_27
noncomputable def tl_25 : List TE := tb_368_25 ++ tl_26
noncomputable def tl_24 : List TE := tb_368_24 ++ tl_25
noncomputable def tl_23 : List TE := tb_368_23 ++ tl_24
noncomputable def tl_22 : List TE := tb_368_22 ++ tl_23
noncomputable def tl_21 : List TE := tb_368_21 ++ tl_22
noncomputable def tl_20 : List TE := tb_368_20 ++ tl_21
noncomputable def tl_19 : List TE := tb_368_19 ++ tl_20
noncomputable def tl_18 : List TE := tb_368_18 ++ tl_19
noncomputable def tl_17 : List TE := tb_368_17 ++ tl_18
noncomputable def tl_16 : List TE := tb_368_16 ++ tl_17
noncomputable def tl_15 : List TE := tb_368_15 ++ tl_16
noncomputable def tl_14 : List TE := tb_368_14 ++ tl_15
noncomputable def tl_13 : List TE := tb_368_13 ++ tl_14
noncomputable def tl_12 : List TE := tb_368_12 ++ tl_13
noncomputable def tl_11 : List TE := tb_368_11 ++ tl_12
noncomputable def tl_10 : List TE := tb_368_10 ++ tl_11
noncomputable def tl_9 : List TE := tb_368_9 ++ tl_10
noncomputable def tl_8 : List TE := tb_368_8 ++ tl_9
noncomputable def tl_7 : List TE := tb_368_7 ++ tl_8
noncomputable def tl_6 : List TE := tb_368_6 ++ tl_7
noncomputable def tl_5 : List TE := tb_368_5 ++ tl_6
noncomputable def tl_4 : List TE := tb_368_4 ++ tl_5
noncomputable def tl_3 : List TE := tb_368_3 ++ tl_4
noncomputable def tl_2 : List TE := tb_368_2 ++ tl_3
noncomputable def tl_1 : List TE := tb_368_1 ++ tl_2
noncomputable def tl_0 : List TE := tb_368_0 ++ tl_1
set_option maxRecDepth 100000 in
theorem tl_eq : pT M_368 = tl_0 := by show tb_368 = tl_0; rfl
theorem sk_0 (pc : Nat) (_ : Nat.ble 0 pc = true) : (pT M_368).find? (fun e => e.1 == pc) = tl_0.find? (fun e => e.1 == pc) := by rw [tl_eq]
set_option maxRecDepth 100000 in
theorem sk_1 (pc : Nat) (h : Nat.ble 21 pc = true) : (pT M_368).find? (fun e => e.1 == pc) = tl_1.find? (fun e => e.1 == pc) := (sk_0 pc (Nat.ble_eq_true_of_le (Nat.le_trans (Nat.le_of_ble_eq_true rfl) (Nat.le_of_ble_eq_true h)))).trans (find_app (l1 := tb_368_0) (b := 21) (by decide +kernel) h)
set_option maxRecDepth 100000 in
theorem sk_2 (pc : Nat) (h : Nat.ble 40 pc = true) : (pT M_368).find? (fun e => e.1 == pc) = tl_2.find? (fun e => e.1 == pc) := (sk_1 pc (Nat.ble_eq_true_of_le (Nat.le_trans (Nat.le_of_ble_eq_true rfl) (Nat.le_of_ble_eq_true h)))).trans (find_app (l1 := tb_368_1) (b := 40) (by decide +kernel) h)
set_option maxRecDepth 100000 in
theorem sk_3 (pc : Nat) (h : Nat.ble 265 pc = true) : (pT M_368).find? (fun e => e.1 == pc) = tl_3.find? (fun e => e.1 == pc) := (sk_2 pc (Nat.ble_eq_true_of_le (Nat.le_trans (Nat.le_of_ble_eq_true rfl) (Nat.le_of_ble_eq_true h)))).trans (find_app (l1 := tb_368_2) (b := 265) (by decide +kernel) h)
set_option maxRecDepth 100000 in
theorem sk_4 (pc : Nat) (h : Nat.ble 280 pc = true) : (pT M_368).find? (fun e => e.1 == pc) = tl_4.find? (fun e => e.1 == pc) := (sk_3 pc (Nat.ble_eq_true_of_le (Nat.le_trans (Nat.le_of_ble_eq_true rfl) (Nat.le_of_ble_eq_true h)))).trans (find_app (l1 := tb_368_3) (b := 280) (by decide +kernel) h)
set_option maxRecDepth 100000 in
theorem sk_5 (pc : Nat) (h : Nat.ble 296 pc = true) : (pT M_368).find? (fun e => e.1 == pc) = tl_5.find? (fun e => e.1 == pc) := (sk_4 pc (Nat.ble_eq_true_of_le (Nat.le_trans (Nat.le_of_ble_eq_true rfl) (Nat.le_of_ble_eq_true h)))).trans (find_app (l1 := tb_368_4) (b := 296) (by decide +kernel) h)
set_option maxRecDepth 100000 in
theorem sk_6 (pc : Nat) (h : Nat.ble 311 pc = true) : (pT M_368).find? (fun e => e.1 == pc) = tl_6.find? (fun e => e.1 == pc) := (sk_5 pc (Nat.ble_eq_true_of_le (Nat.le_trans (Nat.le_of_ble_eq_true rfl) (Nat.le_of_ble_eq_true h)))).trans (find_app (l1 := tb_368_5) (b := 311) (by decide +kernel) h)
set_option maxRecDepth 100000 in
theorem sk_7 (pc : Nat) (h : Nat.ble 329 pc = true) : (pT M_368).find? (fun e => e.1 == pc) = tl_7.find? (fun e => e.1 == pc) := (sk_6 pc (Nat.ble_eq_true_of_le (Nat.le_trans (Nat.le_of_ble_eq_true rfl) (Nat.le_of_ble_eq_true h)))).trans (find_app (l1 := tb_368_6) (b := 329) (by decide +kernel) h)
set_option maxRecDepth 100000 in
theorem sk_8 (pc : Nat) (h : Nat.ble 345 pc = true) : (pT M_368).find? (fun e => e.1 == pc) = tl_8.find? (fun e => e.1 == pc) := (sk_7 pc (Nat.ble_eq_true_of_le (Nat.le_trans (Nat.le_of_ble_eq_true rfl) (Nat.le_of_ble_eq_true h)))).trans (find_app (l1 := tb_368_7) (b := 345) (by decide +kernel) h)
set_option maxRecDepth 100000 in
theorem sk_9 (pc : Nat) (h : Nat.ble 360 pc = true) : (pT M_368).find? (fun e => e.1 == pc) = tl_9.find? (fun e => e.1 == pc) := (sk_8 pc (Nat.ble_eq_true_of_le (Nat.le_trans (Nat.le_of_ble_eq_true rfl) (Nat.le_of_ble_eq_true h)))).trans (find_app (l1 := tb_368_8) (b := 360) (by decide +kernel) h)
set_option maxRecDepth 100000 in
theorem sk_10 (pc : Nat) (h : Nat.ble 379 pc = true) : (pT M_368).find? (fun e => e.1 == pc) = tl_10.find? (fun e => e.1 == pc) := (sk_9 pc (Nat.ble_eq_true_of_le (Nat.le_trans (Nat.le_of_ble_eq_true rfl) (Nat.le_of_ble_eq_true h)))).trans (find_app (l1 := tb_368_9) (b := 379) (by decide +kernel) h)
set_option maxRecDepth 100000 in
theorem sk_11 (pc : Nat) (h : Nat.ble 393 pc = true) : (pT M_368).find? (fun e => e.1 == pc) = tl_11.find? (fun e => e.1 == pc) := (sk_10 pc (Nat.ble_eq_true_of_le (Nat.le_trans (Nat.le_of_ble_eq_true rfl) (Nat.le_of_ble_eq_true h)))).trans (find_app (l1 := tb_368_10) (b := 393) (by decide +kernel) h)
set_option maxRecDepth 100000 in
theorem sk_12 (pc : Nat) (h : Nat.ble 410 pc = true) : (pT M_368).find? (fun e => e.1 == pc) = tl_12.find? (fun e => e.1 == pc) := (sk_11 pc (Nat.ble_eq_true_of_le (Nat.le_trans (Nat.le_of_ble_eq_true rfl) (Nat.le_of_ble_eq_true h)))).trans (find_app (l1 := tb_368_11) (b := 410) (by decide +kernel) h)
set_option maxRecDepth 100000 in
theorem sk_13 (pc : Nat) (h : Nat.ble 424 pc = true) : (pT M_368).find? (fun e => e.1 == pc) = tl_13.find? (fun e => e.1 == pc) := (sk_12 pc (Nat.ble_eq_true_of_le (Nat.le_trans (Nat.le_of_ble_eq_true rfl) (Nat.le_of_ble_eq_true h)))).trans (find_app (l1 := tb_368_12) (b := 424) (by decide +kernel) h)
set_option maxRecDepth 100000 in
theorem sk_14 (pc : Nat) (h : Nat.ble 449 pc = true) : (pT M_368).find? (fun e => e.1 == pc) = tl_14.find? (fun e => e.1 == pc) := (sk_13 pc (Nat.ble_eq_true_of_le (Nat.le_trans (Nat.le_of_ble_eq_true rfl) (Nat.le_of_ble_eq_true h)))).trans (find_app (l1 := tb_368_13) (b := 449) (by decide +kernel) h)
set_option maxRecDepth 100000 in
theorem sk_15 (pc : Nat) (h : Nat.ble 465 pc = true) : (pT M_368).find? (fun e => e.1 == pc) = tl_15.find? (fun e => e.1 == pc) := (sk_14 pc (Nat.ble_eq_true_of_le (Nat.le_trans (Nat.le_of_ble_eq_true rfl) (Nat.le_of_ble_eq_true h)))).trans (find_app (l1 := tb_368_14) (b := 465) (by decide +kernel) h)
set_option maxRecDepth 100000 in
theorem sk_16 (pc : Nat) (h : Nat.ble 480 pc = true) : (pT M_368).find? (fun e => e.1 == pc) = tl_16.find? (fun e => e.1 == pc) := (sk_15 pc (Nat.ble_eq_true_of_le (Nat.le_trans (Nat.le_of_ble_eq_true rfl) (Nat.le_of_ble_eq_true h)))).trans (find_app (l1 := tb_368_15) (b := 480) (by decide +kernel) h)
set_option maxRecDepth 100000 in
theorem sk_17 (pc : Nat) (h : Nat.ble 499 pc = true) : (pT M_368).find? (fun e => e.1 == pc) = tl_17.find? (fun e => e.1 == pc) := (sk_16 pc (Nat.ble_eq_true_of_le (Nat.le_trans (Nat.le_of_ble_eq_true rfl) (Nat.le_of_ble_eq_true h)))).trans (find_app (l1 := tb_368_16) (b := 499) (by decide +kernel) h)
set_option maxRecDepth 100000 in
theorem sk_18 (pc : Nat) (h : Nat.ble 513 pc = true) : (pT M_368).find? (fun e => e.1 == pc) = tl_18.find? (fun e => e.1 == pc) := (sk_17 pc (Nat.ble_eq_true_of_le (Nat.le_trans (Nat.le_of_ble_eq_true rfl) (Nat.le_of_ble_eq_true h)))).trans (find_app (l1 := tb_368_17) (b := 513) (by decide +kernel) h)
set_option maxRecDepth 100000 in
theorem sk_19 (pc : Nat) (h : Nat.ble 530 pc = true) : (pT M_368).find? (fun e => e.1 == pc) = tl_19.find? (fun e => e.1 == pc) := (sk_18 pc (Nat.ble_eq_true_of_le (Nat.le_trans (Nat.le_of_ble_eq_true rfl) (Nat.le_of_ble_eq_true h)))).trans (find_app (l1 := tb_368_18) (b := 530) (by decide +kernel) h)
set_option maxRecDepth 100000 in
theorem sk_20 (pc : Nat) (h : Nat.ble 546 pc = true) : (pT M_368).find? (fun e => e.1 == pc) = tl_20.find? (fun e => e.1 == pc) := (sk_19 pc (Nat.ble_eq_true_of_le (Nat.le_trans (Nat.le_of_ble_eq_true rfl) (Nat.le_of_ble_eq_true h)))).trans (find_app (l1 := tb_368_19) (b := 546) (by decide +kernel) h)
set_option maxRecDepth 100000 in
theorem sk_21 (pc : Nat) (h : Nat.ble 562 pc = true) : (pT M_368).find? (fun e => e.1 == pc) = tl_21.find? (fun e => e.1 == pc) := (sk_20 pc (Nat.ble_eq_true_of_le (Nat.le_trans (Nat.le_of_ble_eq_true rfl) (Nat.le_of_ble_eq_true h)))).trans (find_app (l1 := tb_368_20) (b := 562) (by decide +kernel) h)
set_option maxRecDepth 100000 in
theorem sk_22 (pc : Nat) (h : Nat.ble 579 pc = true) : (pT M_368).find? (fun e => e.1 == pc) = tl_22.find? (fun e => e.1 == pc) := (sk_21 pc (Nat.ble_eq_true_of_le (Nat.le_trans (Nat.le_of_ble_eq_true rfl) (Nat.le_of_ble_eq_true h)))).trans (find_app (l1 := tb_368_21) (b := 579) (by decide +kernel) h)
set_option maxRecDepth 100000 in
theorem sk_23 (pc : Nat) (h : Nat.ble 597 pc = true) : (pT M_368).find? (fun e => e.1 == pc) = tl_23.find? (fun e => e.1 == pc) := (sk_22 pc (Nat.ble_eq_true_of_le (Nat.le_trans (Nat.le_of_ble_eq_true rfl) (Nat.le_of_ble_eq_true h)))).trans (find_app (l1 := tb_368_22) (b := 597) (by decide +kernel) h)
set_option maxRecDepth 100000 in
theorem sk_24 (pc : Nat) (h : Nat.ble 614 pc = true) : (pT M_368).find? (fun e => e.1 == pc) = tl_24.find? (fun e => e.1 == pc) := (sk_23 pc (Nat.ble_eq_true_of_le (Nat.le_trans (Nat.le_of_ble_eq_true rfl) (Nat.le_of_ble_eq_true h)))).trans (find_app (l1 := tb_368_23) (b := 614) (by decide +kernel) h)
set_option maxRecDepth 100000 in
theorem sk_25 (pc : Nat) (h : Nat.ble 634 pc = true) : (pT M_368).find? (fun e => e.1 == pc) = tl_25.find? (fun e => e.1 == pc) := (sk_24 pc (Nat.ble_eq_true_of_le (Nat.le_trans (Nat.le_of_ble_eq_true rfl) (Nat.le_of_ble_eq_true h)))).trans (find_app (l1 := tb_368_24) (b := 634) (by decide +kernel) h)
set_option maxRecDepth 100000 in
theorem sk_26 (pc : Nat) (h : Nat.ble 651 pc = true) : (pT M_368).find? (fun e => e.1 == pc) = tl_26.find? (fun e => e.1 == pc) := (sk_25 pc (Nat.ble_eq_true_of_le (Nat.le_trans (Nat.le_of_ble_eq_true rfl) (Nat.le_of_ble_eq_true h)))).trans (find_app (l1 := tb_368_25) (b := 651) (by decide +kernel) h)
set_option maxRecDepth 100000 in
theorem sk_27 (pc : Nat) (h : Nat.ble 668 pc = true) : (pT M_368).find? (fun e => e.1 == pc) = tl_27.find? (fun e => e.1 == pc) := (sk_26 pc (Nat.ble_eq_true_of_le (Nat.le_trans (Nat.le_of_ble_eq_true rfl) (Nat.le_of_ble_eq_true h)))).trans (find_app (l1 := tb_368_26) (b := 668) (by decide +kernel) h)
set_option maxRecDepth 100000 in
theorem sk_28 (pc : Nat) (h : Nat.ble 687 pc = true) : (pT M_368).find? (fun e => e.1 == pc) = tl_28.find? (fun e => e.1 == pc) := (sk_27 pc (Nat.ble_eq_true_of_le (Nat.le_trans (Nat.le_of_ble_eq_true rfl) (Nat.le_of_ble_eq_true h)))).trans (find_app (l1 := tb_368_27) (b := 687) (by decide +kernel) h)
set_option maxRecDepth 100000 in
theorem sk_29 (pc : Nat) (h : Nat.ble 701 pc = true) : (pT M_368).find? (fun e => e.1 == pc) = tl_29.find? (fun e => e.1 == pc) := (sk_28 pc (Nat.ble_eq_true_of_le (Nat.le_trans (Nat.le_of_ble_eq_true rfl) (Nat.le_of_ble_eq_true h)))).trans (find_app (l1 := tb_368_28) (b := 701) (by decide +kernel) h)
set_option maxRecDepth 100000 in
theorem sk_30 (pc : Nat) (h : Nat.ble 718 pc = true) : (pT M_368).find? (fun e => e.1 == pc) = tl_30.find? (fun e => e.1 == pc) := (sk_29 pc (Nat.ble_eq_true_of_le (Nat.le_trans (Nat.le_of_ble_eq_true rfl) (Nat.le_of_ble_eq_true h)))).trans (find_app (l1 := tb_368_29) (b := 718) (by decide +kernel) h)
set_option maxRecDepth 100000 in
theorem sk_31 (pc : Nat) (h : Nat.ble 736 pc = true) : (pT M_368).find? (fun e => e.1 == pc) = tl_31.find? (fun e => e.1 == pc) := (sk_30 pc (Nat.ble_eq_true_of_le (Nat.le_trans (Nat.le_of_ble_eq_true rfl) (Nat.le_of_ble_eq_true h)))).trans (find_app (l1 := tb_368_30) (b := 736) (by decide +kernel) h)
set_option maxRecDepth 100000 in
theorem sk_32 (pc : Nat) (h : Nat.ble 752 pc = true) : (pT M_368).find? (fun e => e.1 == pc) = tl_32.find? (fun e => e.1 == pc) := (sk_31 pc (Nat.ble_eq_true_of_le (Nat.le_trans (Nat.le_of_ble_eq_true rfl) (Nat.le_of_ble_eq_true h)))).trans (find_app (l1 := tb_368_31) (b := 752) (by decide +kernel) h)
set_option maxRecDepth 100000 in
theorem sk_33 (pc : Nat) (h : Nat.ble 767 pc = true) : (pT M_368).find? (fun e => e.1 == pc) = tl_33.find? (fun e => e.1 == pc) := (sk_32 pc (Nat.ble_eq_true_of_le (Nat.le_trans (Nat.le_of_ble_eq_true rfl) (Nat.le_of_ble_eq_true h)))).trans (find_app (l1 := tb_368_32) (b := 767) (by decide +kernel) h)
set_option maxRecDepth 100000 in
theorem sk_34 (pc : Nat) (h : Nat.ble 788 pc = true) : (pT M_368).find? (fun e => e.1 == pc) = tl_34.find? (fun e => e.1 == pc) := (sk_33 pc (Nat.ble_eq_true_of_le (Nat.le_trans (Nat.le_of_ble_eq_true rfl) (Nat.le_of_ble_eq_true h)))).trans (find_app (l1 := tb_368_33) (b := 788) (by decide +kernel) h)
set_option maxRecDepth 100000 in
theorem sk_35 (pc : Nat) (h : Nat.ble 807 pc = true) : (pT M_368).find? (fun e => e.1 == pc) = tl_35.find? (fun e => e.1 == pc) := (sk_34 pc (Nat.ble_eq_true_of_le (Nat.le_trans (Nat.le_of_ble_eq_true rfl) (Nat.le_of_ble_eq_true h)))).trans (find_app (l1 := tb_368_34) (b := 807) (by decide +kernel) h)
set_option maxRecDepth 100000 in
theorem sk_36 (pc : Nat) (h : Nat.ble 823 pc = true) : (pT M_368).find? (fun e => e.1 == pc) = tl_36.find? (fun e => e.1 == pc) := (sk_35 pc (Nat.ble_eq_true_of_le (Nat.le_trans (Nat.le_of_ble_eq_true rfl) (Nat.le_of_ble_eq_true h)))).trans (find_app (l1 := tb_368_35) (b := 823) (by decide +kernel) h)
set_option maxRecDepth 100000 in
theorem sk_37 (pc : Nat) (h : Nat.ble 848 pc = true) : (pT M_368).find? (fun e => e.1 == pc) = tl_37.find? (fun e => e.1 == pc) := (sk_36 pc (Nat.ble_eq_true_of_le (Nat.le_trans (Nat.le_of_ble_eq_true rfl) (Nat.le_of_ble_eq_true h)))).trans (find_app (l1 := tb_368_36) (b := 848) (by decide +kernel) h)
set_option maxRecDepth 100000 in
theorem sk_38 (pc : Nat) (h : Nat.ble 864 pc = true) : (pT M_368).find? (fun e => e.1 == pc) = tl_38.find? (fun e => e.1 == pc) := (sk_37 pc (Nat.ble_eq_true_of_le (Nat.le_trans (Nat.le_of_ble_eq_true rfl) (Nat.le_of_ble_eq_true h)))).trans (find_app (l1 := tb_368_37) (b := 864) (by decide +kernel) h)
set_option maxRecDepth 100000 in
theorem sk_39 (pc : Nat) (h : Nat.ble 879 pc = true) : (pT M_368).find? (fun e => e.1 == pc) = tl_39.find? (fun e => e.1 == pc) := (sk_38 pc (Nat.ble_eq_true_of_le (Nat.le_trans (Nat.le_of_ble_eq_true rfl) (Nat.le_of_ble_eq_true h)))).trans (find_app (l1 := tb_368_38) (b := 879) (by decide +kernel) h)
set_option maxRecDepth 100000 in
theorem sk_40 (pc : Nat) (h : Nat.ble 898 pc = true) : (pT M_368).find? (fun e => e.1 == pc) = tl_40.find? (fun e => e.1 == pc) := (sk_39 pc (Nat.ble_eq_true_of_le (Nat.le_trans (Nat.le_of_ble_eq_true rfl) (Nat.le_of_ble_eq_true h)))).trans (find_app (l1 := tb_368_39) (b := 898) (by decide +kernel) h)
set_option maxRecDepth 100000 in
theorem sk_41 (pc : Nat) (h : Nat.ble 914 pc = true) : (pT M_368).find? (fun e => e.1 == pc) = tl_41.find? (fun e => e.1 == pc) := (sk_40 pc (Nat.ble_eq_true_of_le (Nat.le_trans (Nat.le_of_ble_eq_true rfl) (Nat.le_of_ble_eq_true h)))).trans (find_app (l1 := tb_368_40) (b := 914) (by decide +kernel) h)
set_option maxRecDepth 100000 in
theorem sk_42 (pc : Nat) (h : Nat.ble 929 pc = true) : (pT M_368).find? (fun e => e.1 == pc) = tl_42.find? (fun e => e.1 == pc) := (sk_41 pc (Nat.ble_eq_true_of_le (Nat.le_trans (Nat.le_of_ble_eq_true rfl) (Nat.le_of_ble_eq_true h)))).trans (find_app (l1 := tb_368_41) (b := 929) (by decide +kernel) h)
set_option maxRecDepth 100000 in
theorem sk_43 (pc : Nat) (h : Nat.ble 947 pc = true) : (pT M_368).find? (fun e => e.1 == pc) = tl_43.find? (fun e => e.1 == pc) := (sk_42 pc (Nat.ble_eq_true_of_le (Nat.le_trans (Nat.le_of_ble_eq_true rfl) (Nat.le_of_ble_eq_true h)))).trans (find_app (l1 := tb_368_42) (b := 947) (by decide +kernel) h)
set_option maxRecDepth 100000 in
theorem sk_44 (pc : Nat) (h : Nat.ble 964 pc = true) : (pT M_368).find? (fun e => e.1 == pc) = tl_44.find? (fun e => e.1 == pc) := (sk_43 pc (Nat.ble_eq_true_of_le (Nat.le_trans (Nat.le_of_ble_eq_true rfl) (Nat.le_of_ble_eq_true h)))).trans (find_app (l1 := tb_368_43) (b := 964) (by decide +kernel) h)
set_option maxRecDepth 100000 in
theorem sk_45 (pc : Nat) (h : Nat.ble 983 pc = true) : (pT M_368).find? (fun e => e.1 == pc) = tl_45.find? (fun e => e.1 == pc) := (sk_44 pc (Nat.ble_eq_true_of_le (Nat.le_trans (Nat.le_of_ble_eq_true rfl) (Nat.le_of_ble_eq_true h)))).trans (find_app (l1 := tb_368_44) (b := 983) (by decide +kernel) h)
set_option maxRecDepth 100000 in
theorem sk_46 (pc : Nat) (h : Nat.ble 999 pc = true) : (pT M_368).find? (fun e => e.1 == pc) = tl_46.find? (fun e => e.1 == pc) := (sk_45 pc (Nat.ble_eq_true_of_le (Nat.le_trans (Nat.le_of_ble_eq_true rfl) (Nat.le_of_ble_eq_true h)))).trans (find_app (l1 := tb_368_45) (b := 999) (by decide +kernel) h)
set_option maxRecDepth 100000 in
theorem sk_47 (pc : Nat) (h : Nat.ble 1024 pc = true) : (pT M_368).find? (fun e => e.1 == pc) = tl_47.find? (fun e => e.1 == pc) := (sk_46 pc (Nat.ble_eq_true_of_le (Nat.le_trans (Nat.le_of_ble_eq_true rfl) (Nat.le_of_ble_eq_true h)))).trans (find_app (l1 := tb_368_46) (b := 1024) (by decide +kernel) h)
set_option maxRecDepth 100000 in
theorem sk_48 (pc : Nat) (h : Nat.ble 1040 pc = true) : (pT M_368).find? (fun e => e.1 == pc) = tl_48.find? (fun e => e.1 == pc) := (sk_47 pc (Nat.ble_eq_true_of_le (Nat.le_trans (Nat.le_of_ble_eq_true rfl) (Nat.le_of_ble_eq_true h)))).trans (find_app (l1 := tb_368_47) (b := 1040) (by decide +kernel) h)
set_option maxRecDepth 100000 in
theorem sk_49 (pc : Nat) (h : Nat.ble 1055 pc = true) : (pT M_368).find? (fun e => e.1 == pc) = tl_49.find? (fun e => e.1 == pc) := (sk_48 pc (Nat.ble_eq_true_of_le (Nat.le_trans (Nat.le_of_ble_eq_true rfl) (Nat.le_of_ble_eq_true h)))).trans (find_app (l1 := tb_368_48) (b := 1055) (by decide +kernel) h)
set_option maxRecDepth 100000 in
theorem sk_50 (pc : Nat) (h : Nat.ble 1074 pc = true) : (pT M_368).find? (fun e => e.1 == pc) = tl_50.find? (fun e => e.1 == pc) := (sk_49 pc (Nat.ble_eq_true_of_le (Nat.le_trans (Nat.le_of_ble_eq_true rfl) (Nat.le_of_ble_eq_true h)))).trans (find_app (l1 := tb_368_49) (b := 1074) (by decide +kernel) h)
set_option maxRecDepth 100000 in
theorem sk_51 (pc : Nat) (h : Nat.ble 1090 pc = true) : (pT M_368).find? (fun e => e.1 == pc) = tl_51.find? (fun e => e.1 == pc) := (sk_50 pc (Nat.ble_eq_true_of_le (Nat.le_trans (Nat.le_of_ble_eq_true rfl) (Nat.le_of_ble_eq_true h)))).trans (find_app (l1 := tb_368_50) (b := 1090) (by decide +kernel) h)
set_option maxRecDepth 100000 in
theorem sk_52 (pc : Nat) (h : Nat.ble 1105 pc = true) : (pT M_368).find? (fun e => e.1 == pc) = tl_52.find? (fun e => e.1 == pc) := (sk_51 pc (Nat.ble_eq_true_of_le (Nat.le_trans (Nat.le_of_ble_eq_true rfl) (Nat.le_of_ble_eq_true h)))).trans (find_app (l1 := tb_368_51) (b := 1105) (by decide +kernel) h)
set_option maxRecDepth 100000 in
theorem sk_53 (pc : Nat) (h : Nat.ble 1123 pc = true) : (pT M_368).find? (fun e => e.1 == pc) = tl_53.find? (fun e => e.1 == pc) := (sk_52 pc (Nat.ble_eq_true_of_le (Nat.le_trans (Nat.le_of_ble_eq_true rfl) (Nat.le_of_ble_eq_true h)))).trans (find_app (l1 := tb_368_52) (b := 1123) (by decide +kernel) h)
set_option maxRecDepth 100000 in
theorem sk_54 (pc : Nat) (h : Nat.ble 1140 pc = true) : (pT M_368).find? (fun e => e.1 == pc) = tl_54.find? (fun e => e.1 == pc) := (sk_53 pc (Nat.ble_eq_true_of_le (Nat.le_trans (Nat.le_of_ble_eq_true rfl) (Nat.le_of_ble_eq_true h)))).trans (find_app (l1 := tb_368_53) (b := 1140) (by decide +kernel) h)
set_option maxRecDepth 100000 in
theorem sk_55 (pc : Nat) (h : Nat.ble 1159 pc = true) : (pT M_368).find? (fun e => e.1 == pc) = tl_55.find? (fun e => e.1 == pc) := (sk_54 pc (Nat.ble_eq_true_of_le (Nat.le_trans (Nat.le_of_ble_eq_true rfl) (Nat.le_of_ble_eq_true h)))).trans (find_app (l1 := tb_368_54) (b := 1159) (by decide +kernel) h)
set_option maxRecDepth 100000 in
theorem sk_56 (pc : Nat) (h : Nat.ble 1173 pc = true) : (pT M_368).find? (fun e => e.1 == pc) = tl_56.find? (fun e => e.1 == pc) := (sk_55 pc (Nat.ble_eq_true_of_le (Nat.le_trans (Nat.le_of_ble_eq_true rfl) (Nat.le_of_ble_eq_true h)))).trans (find_app (l1 := tb_368_55) (b := 1173) (by decide +kernel) h)
set_option maxRecDepth 100000 in
theorem sk_57 (pc : Nat) (h : Nat.ble 1190 pc = true) : (pT M_368).find? (fun e => e.1 == pc) = tl_57.find? (fun e => e.1 == pc) := (sk_56 pc (Nat.ble_eq_true_of_le (Nat.le_trans (Nat.le_of_ble_eq_true rfl) (Nat.le_of_ble_eq_true h)))).trans (find_app (l1 := tb_368_56) (b := 1190) (by decide +kernel) h)
set_option maxRecDepth 100000 in
theorem sk_58 (pc : Nat) (h : Nat.ble 1204 pc = true) : (pT M_368).find? (fun e => e.1 == pc) = tl_58.find? (fun e => e.1 == pc) := (sk_57 pc (Nat.ble_eq_true_of_le (Nat.le_trans (Nat.le_of_ble_eq_true rfl) (Nat.le_of_ble_eq_true h)))).trans (find_app (l1 := tb_368_57) (b := 1204) (by decide +kernel) h)
set_option maxRecDepth 100000 in
theorem sk_59 (pc : Nat) (h : Nat.ble 1223 pc = true) : (pT M_368).find? (fun e => e.1 == pc) = tl_59.find? (fun e => e.1 == pc) := (sk_58 pc (Nat.ble_eq_true_of_le (Nat.le_trans (Nat.le_of_ble_eq_true rfl) (Nat.le_of_ble_eq_true h)))).trans (find_app (l1 := tb_368_58) (b := 1223) (by decide +kernel) h)
set_option maxRecDepth 100000 in
theorem sk_60 (pc : Nat) (h : Nat.ble 1237 pc = true) : (pT M_368).find? (fun e => e.1 == pc) = tl_60.find? (fun e => e.1 == pc) := (sk_59 pc (Nat.ble_eq_true_of_le (Nat.le_trans (Nat.le_of_ble_eq_true rfl) (Nat.le_of_ble_eq_true h)))).trans (find_app (l1 := tb_368_59) (b := 1237) (by decide +kernel) h)
set_option maxRecDepth 100000 in
theorem sk_61 (pc : Nat) (h : Nat.ble 1254 pc = true) : (pT M_368).find? (fun e => e.1 == pc) = tl_61.find? (fun e => e.1 == pc) := (sk_60 pc (Nat.ble_eq_true_of_le (Nat.le_trans (Nat.le_of_ble_eq_true rfl) (Nat.le_of_ble_eq_true h)))).trans (find_app (l1 := tb_368_60) (b := 1254) (by decide +kernel) h)
set_option maxRecDepth 100000 in
theorem sk_62 (pc : Nat) (h : Nat.ble 1272 pc = true) : (pT M_368).find? (fun e => e.1 == pc) = tl_62.find? (fun e => e.1 == pc) := (sk_61 pc (Nat.ble_eq_true_of_le (Nat.le_trans (Nat.le_of_ble_eq_true rfl) (Nat.le_of_ble_eq_true h)))).trans (find_app (l1 := tb_368_61) (b := 1272) (by decide +kernel) h)
set_option maxRecDepth 100000 in
theorem sk_63 (pc : Nat) (h : Nat.ble 1287 pc = true) : (pT M_368).find? (fun e => e.1 == pc) = tl_63.find? (fun e => e.1 == pc) := (sk_62 pc (Nat.ble_eq_true_of_le (Nat.le_trans (Nat.le_of_ble_eq_true rfl) (Nat.le_of_ble_eq_true h)))).trans (find_app (l1 := tb_368_62) (b := 1287) (by decide +kernel) h)
set_option maxRecDepth 100000 in
theorem sk_64 (pc : Nat) (h : Nat.ble 1303 pc = true) : (pT M_368).find? (fun e => e.1 == pc) = tl_64.find? (fun e => e.1 == pc) := (sk_63 pc (Nat.ble_eq_true_of_le (Nat.le_trans (Nat.le_of_ble_eq_true rfl) (Nat.le_of_ble_eq_true h)))).trans (find_app (l1 := tb_368_63) (b := 1303) (by decide +kernel) h)
set_option maxRecDepth 100000 in
theorem sk_65 (pc : Nat) (h : Nat.ble 1318 pc = true) : (pT M_368).find? (fun e => e.1 == pc) = tl_65.find? (fun e => e.1 == pc) := (sk_64 pc (Nat.ble_eq_true_of_le (Nat.le_trans (Nat.le_of_ble_eq_true rfl) (Nat.le_of_ble_eq_true h)))).trans (find_app (l1 := tb_368_64) (b := 1318) (by decide +kernel) h)
set_option maxRecDepth 100000 in
theorem sk_66 (pc : Nat) (h : Nat.ble 1336 pc = true) : (pT M_368).find? (fun e => e.1 == pc) = tl_66.find? (fun e => e.1 == pc) := (sk_65 pc (Nat.ble_eq_true_of_le (Nat.le_trans (Nat.le_of_ble_eq_true rfl) (Nat.le_of_ble_eq_true h)))).trans (find_app (l1 := tb_368_65) (b := 1336) (by decide +kernel) h)
set_option maxRecDepth 100000 in
theorem sk_67 (pc : Nat) (h : Nat.ble 1351 pc = true) : (pT M_368).find? (fun e => e.1 == pc) = tl_67.find? (fun e => e.1 == pc) := (sk_66 pc (Nat.ble_eq_true_of_le (Nat.le_trans (Nat.le_of_ble_eq_true rfl) (Nat.le_of_ble_eq_true h)))).trans (find_app (l1 := tb_368_66) (b := 1351) (by decide +kernel) h)
set_option maxRecDepth 100000 in
theorem sk_68 (pc : Nat) (h : Nat.ble 1367 pc = true) : (pT M_368).find? (fun e => e.1 == pc) = tl_68.find? (fun e => e.1 == pc) := (sk_67 pc (Nat.ble_eq_true_of_le (Nat.le_trans (Nat.le_of_ble_eq_true rfl) (Nat.le_of_ble_eq_true h)))).trans (find_app (l1 := tb_368_67) (b := 1367) (by decide +kernel) h)
set_option maxRecDepth 100000 in
theorem sk_69 (pc : Nat) (h : Nat.ble 1384 pc = true) : (pT M_368).find? (fun e => e.1 == pc) = tl_69.find? (fun e => e.1 == pc) := (sk_68 pc (Nat.ble_eq_true_of_le (Nat.le_trans (Nat.le_of_ble_eq_true rfl) (Nat.le_of_ble_eq_true h)))).trans (find_app (l1 := tb_368_68) (b := 1384) (by decide +kernel) h)
set_option maxRecDepth 100000 in
theorem sk_70 (pc : Nat) (h : Nat.ble 1400 pc = true) : (pT M_368).find? (fun e => e.1 == pc) = tl_70.find? (fun e => e.1 == pc) := (sk_69 pc (Nat.ble_eq_true_of_le (Nat.le_trans (Nat.le_of_ble_eq_true rfl) (Nat.le_of_ble_eq_true h)))).trans (find_app (l1 := tb_368_69) (b := 1400) (by decide +kernel) h)
set_option maxRecDepth 100000 in
theorem sk_71 (pc : Nat) (h : Nat.ble 1417 pc = true) : (pT M_368).find? (fun e => e.1 == pc) = tl_71.find? (fun e => e.1 == pc) := (sk_70 pc (Nat.ble_eq_true_of_le (Nat.le_trans (Nat.le_of_ble_eq_true rfl) (Nat.le_of_ble_eq_true h)))).trans (find_app (l1 := tb_368_70) (b := 1417) (by decide +kernel) h)
set_option maxRecDepth 100000 in
theorem sk_72 (pc : Nat) (h : Nat.ble 1431 pc = true) : (pT M_368).find? (fun e => e.1 == pc) = tl_72.find? (fun e => e.1 == pc) := (sk_71 pc (Nat.ble_eq_true_of_le (Nat.le_trans (Nat.le_of_ble_eq_true rfl) (Nat.le_of_ble_eq_true h)))).trans (find_app (l1 := tb_368_71) (b := 1431) (by decide +kernel) h)
set_option maxRecDepth 100000 in
theorem sk_73 (pc : Nat) (h : Nat.ble 1450 pc = true) : (pT M_368).find? (fun e => e.1 == pc) = tl_73.find? (fun e => e.1 == pc) := (sk_72 pc (Nat.ble_eq_true_of_le (Nat.le_trans (Nat.le_of_ble_eq_true rfl) (Nat.le_of_ble_eq_true h)))).trans (find_app (l1 := tb_368_72) (b := 1450) (by decide +kernel) h)
set_option maxRecDepth 100000 in
theorem sk_74 (pc : Nat) (h : Nat.ble 1464 pc = true) : (pT M_368).find? (fun e => e.1 == pc) = tl_74.find? (fun e => e.1 == pc) := (sk_73 pc (Nat.ble_eq_true_of_le (Nat.le_trans (Nat.le_of_ble_eq_true rfl) (Nat.le_of_ble_eq_true h)))).trans (find_app (l1 := tb_368_73) (b := 1464) (by decide +kernel) h)
set_option maxRecDepth 100000 in
theorem sk_75 (pc : Nat) (h : Nat.ble 1481 pc = true) : (pT M_368).find? (fun e => e.1 == pc) = tl_75.find? (fun e => e.1 == pc) := (sk_74 pc (Nat.ble_eq_true_of_le (Nat.le_trans (Nat.le_of_ble_eq_true rfl) (Nat.le_of_ble_eq_true h)))).trans (find_app (l1 := tb_368_74) (b := 1481) (by decide +kernel) h)
set_option maxRecDepth 100000 in
theorem sk_76 (pc : Nat) (h : Nat.ble 1495 pc = true) : (pT M_368).find? (fun e => e.1 == pc) = tl_76.find? (fun e => e.1 == pc) := (sk_75 pc (Nat.ble_eq_true_of_le (Nat.le_trans (Nat.le_of_ble_eq_true rfl) (Nat.le_of_ble_eq_true h)))).trans (find_app (l1 := tb_368_75) (b := 1495) (by decide +kernel) h)
set_option maxRecDepth 100000 in
theorem sk_77 (pc : Nat) (h : Nat.ble 1514 pc = true) : (pT M_368).find? (fun e => e.1 == pc) = tl_77.find? (fun e => e.1 == pc) := (sk_76 pc (Nat.ble_eq_true_of_le (Nat.le_trans (Nat.le_of_ble_eq_true rfl) (Nat.le_of_ble_eq_true h)))).trans (find_app (l1 := tb_368_76) (b := 1514) (by decide +kernel) h)
set_option maxRecDepth 100000 in
theorem sk_78 (pc : Nat) (h : Nat.ble 1534 pc = true) : (pT M_368).find? (fun e => e.1 == pc) = tl_78.find? (fun e => e.1 == pc) := (sk_77 pc (Nat.ble_eq_true_of_le (Nat.le_trans (Nat.le_of_ble_eq_true rfl) (Nat.le_of_ble_eq_true h)))).trans (find_app (l1 := tb_368_77) (b := 1534) (by decide +kernel) h)
set_option maxRecDepth 100000 in
theorem sk_79 (pc : Nat) (h : Nat.ble 1551 pc = true) : (pT M_368).find? (fun e => e.1 == pc) = tl_79.find? (fun e => e.1 == pc) := (sk_78 pc (Nat.ble_eq_true_of_le (Nat.le_trans (Nat.le_of_ble_eq_true rfl) (Nat.le_of_ble_eq_true h)))).trans (find_app (l1 := tb_368_78) (b := 1551) (by decide +kernel) h)
set_option maxRecDepth 100000 in
theorem sk_80 (pc : Nat) (h : Nat.ble 1570 pc = true) : (pT M_368).find? (fun e => e.1 == pc) = tl_80.find? (fun e => e.1 == pc) := (sk_79 pc (Nat.ble_eq_true_of_le (Nat.le_trans (Nat.le_of_ble_eq_true rfl) (Nat.le_of_ble_eq_true h)))).trans (find_app (l1 := tb_368_79) (b := 1570) (by decide +kernel) h)
set_option maxRecDepth 100000 in
theorem sk_81 (pc : Nat) (h : Nat.ble 1587 pc = true) : (pT M_368).find? (fun e => e.1 == pc) = tl_81.find? (fun e => e.1 == pc) := (sk_80 pc (Nat.ble_eq_true_of_le (Nat.le_trans (Nat.le_of_ble_eq_true rfl) (Nat.le_of_ble_eq_true h)))).trans (find_app (l1 := tb_368_80) (b := 1587) (by decide +kernel) h)
set_option maxRecDepth 100000 in
theorem sk_82 (pc : Nat) (h : Nat.ble 1604 pc = true) : (pT M_368).find? (fun e => e.1 == pc) = tl_82.find? (fun e => e.1 == pc) := (sk_81 pc (Nat.ble_eq_true_of_le (Nat.le_trans (Nat.le_of_ble_eq_true rfl) (Nat.le_of_ble_eq_true h)))).trans (find_app (l1 := tb_368_81) (b := 1604) (by decide +kernel) h)
set_option maxRecDepth 100000 in
theorem sk_83 (pc : Nat) (h : Nat.ble 1624 pc = true) : (pT M_368).find? (fun e => e.1 == pc) = tl_83.find? (fun e => e.1 == pc) := (sk_82 pc (Nat.ble_eq_true_of_le (Nat.le_trans (Nat.le_of_ble_eq_true rfl) (Nat.le_of_ble_eq_true h)))).trans (find_app (l1 := tb_368_82) (b := 1624) (by decide +kernel) h)
set_option maxRecDepth 100000 in
theorem sk_84 (pc : Nat) (h : Nat.ble 1642 pc = true) : (pT M_368).find? (fun e => e.1 == pc) = tl_84.find? (fun e => e.1 == pc) := (sk_83 pc (Nat.ble_eq_true_of_le (Nat.le_trans (Nat.le_of_ble_eq_true rfl) (Nat.le_of_ble_eq_true h)))).trans (find_app (l1 := tb_368_83) (b := 1642) (by decide +kernel) h)
set_option maxRecDepth 100000 in
theorem sk_85 (pc : Nat) (h : Nat.ble 1661 pc = true) : (pT M_368).find? (fun e => e.1 == pc) = tl_85.find? (fun e => e.1 == pc) := (sk_84 pc (Nat.ble_eq_true_of_le (Nat.le_trans (Nat.le_of_ble_eq_true rfl) (Nat.le_of_ble_eq_true h)))).trans (find_app (l1 := tb_368_84) (b := 1661) (by decide +kernel) h)
set_option maxRecDepth 100000 in
theorem sk_86 (pc : Nat) (h : Nat.ble 1675 pc = true) : (pT M_368).find? (fun e => e.1 == pc) = tl_86.find? (fun e => e.1 == pc) := (sk_85 pc (Nat.ble_eq_true_of_le (Nat.le_trans (Nat.le_of_ble_eq_true rfl) (Nat.le_of_ble_eq_true h)))).trans (find_app (l1 := tb_368_85) (b := 1675) (by decide +kernel) h)
set_option maxRecDepth 100000 in
theorem sk_87 (pc : Nat) (h : Nat.ble 1692 pc = true) : (pT M_368).find? (fun e => e.1 == pc) = tl_87.find? (fun e => e.1 == pc) := (sk_86 pc (Nat.ble_eq_true_of_le (Nat.le_trans (Nat.le_of_ble_eq_true rfl) (Nat.le_of_ble_eq_true h)))).trans (find_app (l1 := tb_368_86) (b := 1692) (by decide +kernel) h)
set_option maxRecDepth 100000 in
theorem sk_88 (pc : Nat) (h : Nat.ble 1711 pc = true) : (pT M_368).find? (fun e => e.1 == pc) = tl_88.find? (fun e => e.1 == pc) := (sk_87 pc (Nat.ble_eq_true_of_le (Nat.le_trans (Nat.le_of_ble_eq_true rfl) (Nat.le_of_ble_eq_true h)))).trans (find_app (l1 := tb_368_87) (b := 1711) (by decide +kernel) h)
set_option maxRecDepth 100000 in
theorem sk_89 (pc : Nat) (h : Nat.ble 1725 pc = true) : (pT M_368).find? (fun e => e.1 == pc) = tl_89.find? (fun e => e.1 == pc) := (sk_88 pc (Nat.ble_eq_true_of_le (Nat.le_trans (Nat.le_of_ble_eq_true rfl) (Nat.le_of_ble_eq_true h)))).trans (find_app (l1 := tb_368_88) (b := 1725) (by decide +kernel) h)
set_option maxRecDepth 100000 in
theorem sk_90 (pc : Nat) (h : Nat.ble 1739 pc = true) : (pT M_368).find? (fun e => e.1 == pc) = tl_90.find? (fun e => e.1 == pc) := (sk_89 pc (Nat.ble_eq_true_of_le (Nat.le_trans (Nat.le_of_ble_eq_true rfl) (Nat.le_of_ble_eq_true h)))).trans (find_app (l1 := tb_368_89) (b := 1739) (by decide +kernel) h)
set_option maxRecDepth 100000 in
theorem sk_91 (pc : Nat) (h : Nat.ble 1756 pc = true) : (pT M_368).find? (fun e => e.1 == pc) = tl_91.find? (fun e => e.1 == pc) := (sk_90 pc (Nat.ble_eq_true_of_le (Nat.le_trans (Nat.le_of_ble_eq_true rfl) (Nat.le_of_ble_eq_true h)))).trans (find_app (l1 := tb_368_90) (b := 1756) (by decide +kernel) h)
set_option maxRecDepth 100000 in
theorem sk_92 (pc : Nat) (h : Nat.ble 1770 pc = true) : (pT M_368).find? (fun e => e.1 == pc) = tl_92.find? (fun e => e.1 == pc) := (sk_91 pc (Nat.ble_eq_true_of_le (Nat.le_trans (Nat.le_of_ble_eq_true rfl) (Nat.le_of_ble_eq_true h)))).trans (find_app (l1 := tb_368_91) (b := 1770) (by decide +kernel) h)
set_option maxRecDepth 100000 in
theorem sk_93 (pc : Nat) (h : Nat.ble 1789 pc = true) : (pT M_368).find? (fun e => e.1 == pc) = tl_93.find? (fun e => e.1 == pc) := (sk_92 pc (Nat.ble_eq_true_of_le (Nat.le_trans (Nat.le_of_ble_eq_true rfl) (Nat.le_of_ble_eq_true h)))).trans (find_app (l1 := tb_368_92) (b := 1789) (by decide +kernel) h)
set_option maxRecDepth 100000 in
theorem sk_94 (pc : Nat) (h : Nat.ble 1809 pc = true) : (pT M_368).find? (fun e => e.1 == pc) = tl_94.find? (fun e => e.1 == pc) := (sk_93 pc (Nat.ble_eq_true_of_le (Nat.le_trans (Nat.le_of_ble_eq_true rfl) (Nat.le_of_ble_eq_true h)))).trans (find_app (l1 := tb_368_93) (b := 1809) (by decide +kernel) h)
set_option maxRecDepth 100000 in
theorem sk_95 (pc : Nat) (h : Nat.ble 1832 pc = true) : (pT M_368).find? (fun e => e.1 == pc) = tl_95.find? (fun e => e.1 == pc) := (sk_94 pc (Nat.ble_eq_true_of_le (Nat.le_trans (Nat.le_of_ble_eq_true rfl) (Nat.le_of_ble_eq_true h)))).trans (find_app (l1 := tb_368_94) (b := 1832) (by decide +kernel) h)
set_option maxRecDepth 100000 in
theorem sk_96 (pc : Nat) (h : Nat.ble 1851 pc = true) : (pT M_368).find? (fun e => e.1 == pc) = tl_96.find? (fun e => e.1 == pc) := (sk_95 pc (Nat.ble_eq_true_of_le (Nat.le_trans (Nat.le_of_ble_eq_true rfl) (Nat.le_of_ble_eq_true h)))).trans (find_app (l1 := tb_368_95) (b := 1851) (by decide +kernel) h)
set_option maxRecDepth 100000 in
theorem sk_97 (pc : Nat) (h : Nat.ble 1872 pc = true) : (pT M_368).find? (fun e => e.1 == pc) = tl_97.find? (fun e => e.1 == pc) := (sk_96 pc (Nat.ble_eq_true_of_le (Nat.le_trans (Nat.le_of_ble_eq_true rfl) (Nat.le_of_ble_eq_true h)))).trans (find_app (l1 := tb_368_96) (b := 1872) (by decide +kernel) h)
set_option maxRecDepth 100000 in
theorem sk_98 (pc : Nat) (h : Nat.ble 1893 pc = true) : (pT M_368).find? (fun e => e.1 == pc) = tl_98.find? (fun e => e.1 == pc) := (sk_97 pc (Nat.ble_eq_true_of_le (Nat.le_trans (Nat.le_of_ble_eq_true rfl) (Nat.le_of_ble_eq_true h)))).trans (find_app (l1 := tb_368_97) (b := 1893) (by decide +kernel) h)
set_option maxRecDepth 100000 in
theorem sk_99 (pc : Nat) (h : Nat.ble 1912 pc = true) : (pT M_368).find? (fun e => e.1 == pc) = tl_99.find? (fun e => e.1 == pc) := (sk_98 pc (Nat.ble_eq_true_of_le (Nat.le_trans (Nat.le_of_ble_eq_true rfl) (Nat.le_of_ble_eq_true h)))).trans (find_app (l1 := tb_368_98) (b := 1912) (by decide +kernel) h)
set_option maxRecDepth 100000 in
theorem sk_100 (pc : Nat) (h : Nat.ble 1930 pc = true) : (pT M_368).find? (fun e => e.1 == pc) = tl_100.find? (fun e => e.1 == pc) := (sk_99 pc (Nat.ble_eq_true_of_le (Nat.le_trans (Nat.le_of_ble_eq_true rfl) (Nat.le_of_ble_eq_true h)))).trans (find_app (l1 := tb_368_99) (b := 1930) (by decide +kernel) h)
set_option maxRecDepth 100000 in
theorem sk_101 (pc : Nat) (h : Nat.ble 1949 pc = true) : (pT M_368).find? (fun e => e.1 == pc) = tl_101.find? (fun e => e.1 == pc) := (sk_100 pc (Nat.ble_eq_true_of_le (Nat.le_trans (Nat.le_of_ble_eq_true rfl) (Nat.le_of_ble_eq_true h)))).trans (find_app (l1 := tb_368_100) (b := 1949) (by decide +kernel) h)
set_option maxRecDepth 100000 in
theorem sk_102 (pc : Nat) (h : Nat.ble 1966 pc = true) : (pT M_368).find? (fun e => e.1 == pc) = tl_102.find? (fun e => e.1 == pc) := (sk_101 pc (Nat.ble_eq_true_of_le (Nat.le_trans (Nat.le_of_ble_eq_true rfl) (Nat.le_of_ble_eq_true h)))).trans (find_app (l1 := tb_368_101) (b := 1966) (by decide +kernel) h)
set_option maxRecDepth 100000 in
theorem sk_103 (pc : Nat) (h : Nat.ble 1984 pc = true) : (pT M_368).find? (fun e => e.1 == pc) = tl_103.find? (fun e => e.1 == pc) := (sk_102 pc (Nat.ble_eq_true_of_le (Nat.le_trans (Nat.le_of_ble_eq_true rfl) (Nat.le_of_ble_eq_true h)))).trans (find_app (l1 := tb_368_102) (b := 1984) (by decide +kernel) h)
set_option maxRecDepth 100000 in
theorem sk_104 (pc : Nat) (h : Nat.ble 1999 pc = true) : (pT M_368).find? (fun e => e.1 == pc) = tl_104.find? (fun e => e.1 == pc) := (sk_103 pc (Nat.ble_eq_true_of_le (Nat.le_trans (Nat.le_of_ble_eq_true rfl) (Nat.le_of_ble_eq_true h)))).trans (find_app (l1 := tb_368_103) (b := 1999) (by decide +kernel) h)
set_option maxRecDepth 100000 in
theorem sk_105 (pc : Nat) (h : Nat.ble 2018 pc = true) : (pT M_368).find? (fun e => e.1 == pc) = tl_105.find? (fun e => e.1 == pc) := (sk_104 pc (Nat.ble_eq_true_of_le (Nat.le_trans (Nat.le_of_ble_eq_true rfl) (Nat.le_of_ble_eq_true h)))).trans (find_app (l1 := tb_368_104) (b := 2018) (by decide +kernel) h)
set_option maxRecDepth 100000 in
theorem sk_106 (pc : Nat) (h : Nat.ble 2033 pc = true) : (pT M_368).find? (fun e => e.1 == pc) = tl_106.find? (fun e => e.1 == pc) := (sk_105 pc (Nat.ble_eq_true_of_le (Nat.le_trans (Nat.le_of_ble_eq_true rfl) (Nat.le_of_ble_eq_true h)))).trans (find_app (l1 := tb_368_105) (b := 2033) (by decide +kernel) h)
set_option maxRecDepth 100000 in
theorem sk_107 (pc : Nat) (h : Nat.ble 2055 pc = true) : (pT M_368).find? (fun e => e.1 == pc) = tl_107.find? (fun e => e.1 == pc) := (sk_106 pc (Nat.ble_eq_true_of_le (Nat.le_trans (Nat.le_of_ble_eq_true rfl) (Nat.le_of_ble_eq_true h)))).trans (find_app (l1 := tb_368_106) (b := 2055) (by decide +kernel) h)
set_option maxRecDepth 100000 in
theorem sk_108 (pc : Nat) (h : Nat.ble 2069 pc = true) : (pT M_368).find? (fun e => e.1 == pc) = tl_108.find? (fun e => e.1 == pc) := (sk_107 pc (Nat.ble_eq_true_of_le (Nat.le_trans (Nat.le_of_ble_eq_true rfl) (Nat.le_of_ble_eq_true h)))).trans (find_app (l1 := tb_368_107) (b := 2069) (by decide +kernel) h)
set_option maxRecDepth 100000 in
theorem sk_109 (pc : Nat) (h : Nat.ble 2086 pc = true) : (pT M_368).find? (fun e => e.1 == pc) = tl_109.find? (fun e => e.1 == pc) := (sk_108 pc (Nat.ble_eq_true_of_le (Nat.le_trans (Nat.le_of_ble_eq_true rfl) (Nat.le_of_ble_eq_true h)))).trans (find_app (l1 := tb_368_108) (b := 2086) (by decide +kernel) h)
set_option maxRecDepth 100000 in
theorem sk_110 (pc : Nat) (h : Nat.ble 2104 pc = true) : (pT M_368).find? (fun e => e.1 == pc) = tl_110.find? (fun e => e.1 == pc) := (sk_109 pc (Nat.ble_eq_true_of_le (Nat.le_trans (Nat.le_of_ble_eq_true rfl) (Nat.le_of_ble_eq_true h)))).trans (find_app (l1 := tb_368_109) (b := 2104) (by decide +kernel) h)
set_option maxRecDepth 100000 in
theorem sk_111 (pc : Nat) (h : Nat.ble 2120 pc = true) : (pT M_368).find? (fun e => e.1 == pc) = tl_111.find? (fun e => e.1 == pc) := (sk_110 pc (Nat.ble_eq_true_of_le (Nat.le_trans (Nat.le_of_ble_eq_true rfl) (Nat.le_of_ble_eq_true h)))).trans (find_app (l1 := tb_368_110) (b := 2120) (by decide +kernel) h)
set_option maxRecDepth 100000 in
theorem sk_112 (pc : Nat) (h : Nat.ble 2135 pc = true) : (pT M_368).find? (fun e => e.1 == pc) = tl_112.find? (fun e => e.1 == pc) := (sk_111 pc (Nat.ble_eq_true_of_le (Nat.le_trans (Nat.le_of_ble_eq_true rfl) (Nat.le_of_ble_eq_true h)))).trans (find_app (l1 := tb_368_111) (b := 2135) (by decide +kernel) h)
set_option maxRecDepth 100000 in
theorem sk_113 (pc : Nat) (h : Nat.ble 2154 pc = true) : (pT M_368).find? (fun e => e.1 == pc) = tl_113.find? (fun e => e.1 == pc) := (sk_112 pc (Nat.ble_eq_true_of_le (Nat.le_trans (Nat.le_of_ble_eq_true rfl) (Nat.le_of_ble_eq_true h)))).trans (find_app (l1 := tb_368_112) (b := 2154) (by decide +kernel) h)
set_option maxRecDepth 100000 in
theorem sk_114 (pc : Nat) (h : Nat.ble 2168 pc = true) : (pT M_368).find? (fun e => e.1 == pc) = tl_114.find? (fun e => e.1 == pc) := (sk_113 pc (Nat.ble_eq_true_of_le (Nat.le_trans (Nat.le_of_ble_eq_true rfl) (Nat.le_of_ble_eq_true h)))).trans (find_app (l1 := tb_368_113) (b := 2168) (by decide +kernel) h)
set_option maxRecDepth 100000 in
theorem sk_115 (pc : Nat) (h : Nat.ble 2185 pc = true) : (pT M_368).find? (fun e => e.1 == pc) = tl_115.find? (fun e => e.1 == pc) := (sk_114 pc (Nat.ble_eq_true_of_le (Nat.le_trans (Nat.le_of_ble_eq_true rfl) (Nat.le_of_ble_eq_true h)))).trans (find_app (l1 := tb_368_114) (b := 2185) (by decide +kernel) h)
set_option maxRecDepth 100000 in
theorem sk_116 (pc : Nat) (h : Nat.ble 2199 pc = true) : (pT M_368).find? (fun e => e.1 == pc) = tl_116.find? (fun e => e.1 == pc) := (sk_115 pc (Nat.ble_eq_true_of_le (Nat.le_trans (Nat.le_of_ble_eq_true rfl) (Nat.le_of_ble_eq_true h)))).trans (find_app (l1 := tb_368_115) (b := 2199) (by decide +kernel) h)
set_option maxRecDepth 100000 in
theorem sk_117 (pc : Nat) (h : Nat.ble 2220 pc = true) : (pT M_368).find? (fun e => e.1 == pc) = tl_117.find? (fun e => e.1 == pc) := (sk_116 pc (Nat.ble_eq_true_of_le (Nat.le_trans (Nat.le_of_ble_eq_true rfl) (Nat.le_of_ble_eq_true h)))).trans (find_app (l1 := tb_368_116) (b := 2220) (by decide +kernel) h)
set_option maxRecDepth 100000 in
theorem sk_118 (pc : Nat) (h : Nat.ble 2239 pc = true) : (pT M_368).find? (fun e => e.1 == pc) = tl_118.find? (fun e => e.1 == pc) := (sk_117 pc (Nat.ble_eq_true_of_le (Nat.le_trans (Nat.le_of_ble_eq_true rfl) (Nat.le_of_ble_eq_true h)))).trans (find_app (l1 := tb_368_117) (b := 2239) (by decide +kernel) h)
set_option maxRecDepth 100000 in
theorem sk_119 (pc : Nat) (h : Nat.ble 2255 pc = true) : (pT M_368).find? (fun e => e.1 == pc) = tl_119.find? (fun e => e.1 == pc) := (sk_118 pc (Nat.ble_eq_true_of_le (Nat.le_trans (Nat.le_of_ble_eq_true rfl) (Nat.le_of_ble_eq_true h)))).trans (find_app (l1 := tb_368_118) (b := 2255) (by decide +kernel) h)
set_option maxRecDepth 100000 in
theorem sk_120 (pc : Nat) (h : Nat.ble 2276 pc = true) : (pT M_368).find? (fun e => e.1 == pc) = tl_120.find? (fun e => e.1 == pc) := (sk_119 pc (Nat.ble_eq_true_of_le (Nat.le_trans (Nat.le_of_ble_eq_true rfl) (Nat.le_of_ble_eq_true h)))).trans (find_app (l1 := tb_368_119) (b := 2276) (by decide +kernel) h)
set_option maxRecDepth 100000 in
theorem sk_121 (pc : Nat) (h : Nat.ble 2295 pc = true) : (pT M_368).find? (fun e => e.1 == pc) = tl_121.find? (fun e => e.1 == pc) := (sk_120 pc (Nat.ble_eq_true_of_le (Nat.le_trans (Nat.le_of_ble_eq_true rfl) (Nat.le_of_ble_eq_true h)))).trans (find_app (l1 := tb_368_120) (b := 2295) (by decide +kernel) h)
set_option maxRecDepth 100000 in
theorem sk_122 (pc : Nat) (h : Nat.ble 2312 pc = true) : (pT M_368).find? (fun e => e.1 == pc) = tl_122.find? (fun e => e.1 == pc) := (sk_121 pc (Nat.ble_eq_true_of_le (Nat.le_trans (Nat.le_of_ble_eq_true rfl) (Nat.le_of_ble_eq_true h)))).trans (find_app (l1 := tb_368_121) (b := 2312) (by decide +kernel) h)
end

/-! laid by wip/hand/lw.py: what the law calls the class by, where no op is changed -/
theorem cls_call {S : Nat × (Nat → Int32)} {n μ : Nat} {args : List WV} {h : PH} {es : Nat → Prop} (ha : ∀ v ∈ args, vOK v) (hL : LR h) (spec : ∀ mem, ClS mem → CQI (Ex S n) μ args mem (fun _ m' => ClS m' ∧ Frm pNb mem m') (fun e m' => es e ∧ ClS m' ∧ Frm pNb mem m')) : Ex S n μ (args.map wv) h (fun r h' => LR h' ∧ ((∃ y, r = .inl (some (.int y))) ∨ ∃ e, es e ∧ r = .inr e)) := by
  obtain ⟨m, g, hM, hc, hr, hb⟩ := hL
  refine Ex.mono S n _ _ _ _ _ ?_ (callQM ha hM (spec m hc))
  rintro r h' (⟨y, m', rfl, hy, hL', hK⟩ | ⟨e, m', rfl, hL', hE⟩)
  · exact ⟨LR.cls hL' hr hb hK.1 hK.2, Or.inl ⟨_, rfl⟩⟩
  · exact ⟨LR.cls hL' hr hb hE.2.1 hE.2.2, Or.inr ⟨e, hE.1, rfl⟩⟩
theorem ref_call {S : Nat × (Nat → Int32)} {n μ : Nat} {args : List WV} {h : PH} (ha : ∀ v ∈ args, vOK v) (hL : LR h) (spec : ∀ mem, RefOK mem → CWI (Ex S n) μ args mem (fun _ m' => RefOK m' ∧ FrQ mem m')) : Ex S n μ (args.map wv) h (fun r h' => LR h' ∧ ∃ y, r = .inl (some (.int y))) := by
  obtain ⟨m, g, hM, hc, hr, hb⟩ := hL
  refine Ex.mono S n _ _ _ _ _ ?_ (callQM ha hM ((spec m hr).q (E := fun _ _ => False) (Ex.mono S n)))
  rintro r h' (⟨y, m', rfl, hy, hL', hK⟩ | ⟨e, m', rfl, hL', hE⟩)
  · exact ⟨LR.refq hL' hc hb hK.1 hK.2, _, rfl⟩
  · exact False.elim hE
theorem LR.obj {h : PH} (hL : LR h) {A ci : Nat} {fs : List (Option Nat)} (hA : shA A = some (.inr (ci, fs))) : ∃ gs, h[A]? = some (.inr (ci, gs)) := by
  obtain ⟨m, g, hM, -⟩ := hL
  exact hM.obj hA
theorem g_64 {S : Nat × (Nat → Int32)} {n : Nat} {h : PH} {Q : Rs → PH → Prop} {x0 x1 : Int32} (hL : LR h) (H : ∀ r h', LR h' → Q (.inl (some (.int r))) h') : Ex S (n + 18) 64 [.ref 0, .int x0, .int x1, .ref 173] h Q := by
  obtain ⟨m, g, hM, hc, hr, hb⟩ := hL
  refine gx_64 (K := fun _ m' => ClS m' ∧ Frm pNb m m') (E := fun e m' => (e = 2 ∨ e = 3) ∧ ClS m' ∧ Frm pNb m m') hM (f_65 hc (fun r m' a b => ⟨a, b⟩) (fun e m' q a b => ⟨q, a, b⟩)) (fun y h' m' g' _ hL' _ hK => H _ _ (LR.cls hL' hr hb hK.1 hK.2)) (fun e h' m' hL' hE => ?_)
  have hq := LR.cls hL' hr hb hE.2.1 hE.2.2
  exact hE.1.imp (fun q => ⟨q, H _ _ hq⟩) (fun q => ⟨q, H _ _ hq⟩)
theorem g_67 {S : Nat × (Nat → Int32)} {n : Nat} {h : PH} {Q : Rs → PH → Prop} {x0 x1 : Int32} (hL : LR h) (H : ∀ r h', LR h' → Q (.inl (some (.int r))) h') : Ex S (n + 18) 67 [.ref 0, .int x0, .int x1, .ref 173] h Q := by
  obtain ⟨m, g, hM, hc, hr, hb⟩ := hL
  refine gx_67 (K := fun _ m' => ClS m' ∧ Frm pNb m m') (E := fun e m' => (e = 1 ∨ e = 2 ∨ e = 3) ∧ ClS m' ∧ Frm pNb m m') hM (f_68 hc (fun r m' a b => ⟨a, b⟩) (fun e m' q a b => ⟨q, a, b⟩)) (fun y h' m' g' _ hL' _ hK => H _ _ (LR.cls hL' hr hb hK.1 hK.2)) (fun e h' m' hL' hE => ?_)
  have hq := LR.cls hL' hr hb hE.2.1 hE.2.2
  rcases hE.1 with q | q | q
  · exact Or.inl ⟨q, H _ _ hq⟩
  · exact Or.inr (Or.inl ⟨q, H _ _ hq⟩)
  · exact Or.inr (Or.inr (⟨q, H _ _ hq⟩))
theorem g_71 {S : Nat × (Nat → Int32)} {n : Nat} {h : PH} {Q : Rs → PH → Prop} {x0 x1 x2 : Int32} (hL : LR h) (H : ∀ r h', LR h' → Q (.inl (some (.int r))) h') : Ex S (n + 18) 71 [.ref 0, .int x0, .int x1, .int x2, .ref 173] h Q := by
  obtain ⟨m, g, hM, hc, hr, hb⟩ := hL
  refine gx_71 (K := fun _ m' => ClS m' ∧ Frm pNb m m') (E := fun e m' => (e = 2 ∨ e = 0 ∨ e = 1) ∧ ClS m' ∧ Frm pNb m m') hM (f_72 hc (fun r m' a b => ⟨a, b⟩) (fun e m' q a b => ⟨q, a, b⟩)) (fun y h' m' g' _ hL' _ hK => H _ _ (LR.cls hL' hr hb hK.1 hK.2)) (fun e h' m' hL' hE => ?_)
  have hq := LR.cls hL' hr hb hE.2.1 hE.2.2
  rcases hE.1 with q | q | q
  · exact Or.inl ⟨q, H _ _ hq⟩
  · exact Or.inr (Or.inl ⟨q, H _ _ hq⟩)
  · exact Or.inr (Or.inr (⟨q, H _ _ hq⟩))
theorem g_78 {S : Nat × (Nat → Int32)} {n : Nat} {h : PH} {Q : Rs → PH → Prop} {x0 x1 : Int32} (hL : LR h) (H : ∀ r h', LR h' → Q (.inl (some (.int r))) h') : Ex S (n + 18) 78 [.ref 0, .int x0, .int x1, .ref 173] h Q := by
  obtain ⟨m, g, hM, hc, hr, hb⟩ := hL
  refine gx_78 (K := fun _ m' => ClS m' ∧ Frm pNb m m') (E := fun e m' => (e = 2 ∨ e = 0 ∨ e = 1) ∧ ClS m' ∧ Frm pNb m m') hM (f_79 hc (fun r m' a b => ⟨a, b⟩) (fun e m' q a b => ⟨q, a, b⟩)) (fun y h' m' g' _ hL' _ hK => H _ _ (LR.cls hL' hr hb hK.1 hK.2)) (fun e h' m' hL' hE => ?_)
  have hq := LR.cls hL' hr hb hE.2.1 hE.2.2
  rcases hE.1 with q | q | q
  · exact Or.inl ⟨q, H _ _ hq⟩
  · exact Or.inr (Or.inl ⟨q, H _ _ hq⟩)
  · exact Or.inr (Or.inr (⟨q, H _ _ hq⟩))
theorem g_81 {S : Nat × (Nat → Int32)} {n : Nat} {h : PH} {Q : Rs → PH → Prop} {x0 : Int32} (hL : LR h) (H : ∀ r h', LR h' → Q (.inl (some (.int r))) h') : Ex S (n + 18) 81 [.ref 0, .int x0, .ref 173] h Q := by
  obtain ⟨m, g, hM, hc, hr, hb⟩ := hL
  refine gx_81 (K := fun _ m' => ClS m' ∧ Frm pNb m m') (E := fun e m' => (e = 2) ∧ ClS m' ∧ Frm pNb m m') hM (f_82 hc (fun r m' a b => ⟨a, b⟩) (fun e m' q a b => ⟨q, a, b⟩)) (fun y h' m' g' _ hL' _ hK => H _ _ (LR.cls hL' hr hb hK.1 hK.2)) (fun e h' m' hL' hE => ?_)
  have hq := LR.cls hL' hr hb hE.2.1 hE.2.2
  exact ⟨hE.1, H _ _ hq⟩
theorem g_83 {S : Nat × (Nat → Int32)} {n : Nat} {h : PH} {Q : Rs → PH → Prop} {x0 : Int32} (hL : LR h) (H : ∀ r h', LR h' → Q (.inl (some (.int r))) h') : Ex S (n + 18) 83 [.ref 0, .int x0, .ref 173] h Q := by
  obtain ⟨m, g, hM, hc, hr, hb⟩ := hL
  refine gx_83 (K := fun _ m' => ClS m' ∧ Frm pNb m m') (E := fun e m' => (e = 0 ∨ e = 1) ∧ ClS m' ∧ Frm pNb m m') hM (f_84 hc (fun r m' a b => ⟨a, b⟩) (fun e m' q a b => ⟨q, a, b⟩)) (fun y h' m' g' _ hL' _ hK => H _ _ (LR.cls hL' hr hb hK.1 hK.2)) (fun e h' m' hL' hE => ?_)
  have hq := LR.cls hL' hr hb hE.2.1 hE.2.2
  exact hE.1.imp (fun q => ⟨q, H _ _ hq⟩) (fun q => ⟨q, H _ _ hq⟩)
theorem g_111 {S : Nat × (Nat → Int32)} {n : Nat} {h : PH} {Q : Rs → PH → Prop} (hL : LR h) (H : ∀ r h', LR h' → Q (.inl (some (.int r))) h') : Ex S (n + 18) 111 [.ref 0, .ref 173] h Q := by
  obtain ⟨m, g, hM, hc, hr, hb⟩ := hL
  refine gx_111 (K := fun _ m' => ClS m' ∧ Frm pNb m m') (E := fun e m' => (e = 1) ∧ ClS m' ∧ Frm pNb m m') hM (f_112 hc (fun r m' a b => ⟨a, b⟩) (fun e m' q a b => ⟨q, a, b⟩)) (fun y h' m' g' _ hL' _ hK => H _ _ (LR.cls hL' hr hb hK.1 hK.2)) (fun e h' m' hL' hE => ?_)
  have hq := LR.cls hL' hr hb hE.2.1 hE.2.2
  exact ⟨hE.1, H _ _ hq⟩
theorem g_113 {S : Nat × (Nat → Int32)} {n : Nat} {h : PH} {Q : Rs → PH → Prop} {x0 x1 : Int32} (hL : LR h) (H : ∀ r h', LR h' → Q (.inl (some (.int r))) h') : Ex S (n + 18) 113 [.ref 0, .int x0, .int x1, .ref 173] h Q := by
  obtain ⟨m, g, hM, hc, hr, hb⟩ := hL
  refine gx_113 (K := fun _ m' => ClS m' ∧ Frm pNb m m') (E := fun e m' => (e = 2 ∨ e = 0 ∨ e = 1) ∧ ClS m' ∧ Frm pNb m m') hM (f_114 hc (fun r m' a b => ⟨a, b⟩) (fun e m' q a b => ⟨q, a, b⟩)) (fun y h' m' g' _ hL' _ hK => H _ _ (LR.cls hL' hr hb hK.1 hK.2)) (fun e h' m' hL' hE => ?_)
  have hq := LR.cls hL' hr hb hE.2.1 hE.2.2
  rcases hE.1 with q | q | q
  · exact Or.inl ⟨q, H _ _ hq⟩
  · exact Or.inr (Or.inl ⟨q, H _ _ hq⟩)
  · exact Or.inr (Or.inr (⟨q, H _ _ hq⟩))
theorem g_116 {S : Nat × (Nat → Int32)} {n : Nat} {h : PH} {Q : Rs → PH → Prop} {x0 x1 x2 : Int32} (hL : LR h) (H : ∀ r h', LR h' → Q (.inl (some (.int r))) h') : Ex S (n + 18) 116 [.ref 0, .int x0, .int x1, .int x2, .ref 173] h Q := by
  obtain ⟨m, g, hM, hc, hr, hb⟩ := hL
  refine gx_116 (K := fun _ m' => ClS m' ∧ Frm pNb m m') (E := fun e m' => (e = 2 ∨ e = 0 ∨ e = 1) ∧ ClS m' ∧ Frm pNb m m') hM (f_117 hc (fun r m' a b => ⟨a, b⟩) (fun e m' q a b => ⟨q, a, b⟩)) (fun y h' m' g' _ hL' _ hK => H _ _ (LR.cls hL' hr hb hK.1 hK.2)) (fun e h' m' hL' hE => ?_)
  have hq := LR.cls hL' hr hb hE.2.1 hE.2.2
  rcases hE.1 with q | q | q
  · exact Or.inl ⟨q, H _ _ hq⟩
  · exact Or.inr (Or.inl ⟨q, H _ _ hq⟩)
  · exact Or.inr (Or.inr (⟨q, H _ _ hq⟩))
theorem g_121 {S : Nat × (Nat → Int32)} {n : Nat} {h : PH} {Q : Rs → PH → Prop} {x0 x1 : Int32} (hL : LR h) (H : ∀ r h', LR h' → Q (.inl (some (.int r))) h') : Ex S (n + 18) 121 [.ref 0, .int x0, .int x1, .ref 173] h Q := by
  obtain ⟨m, g, hM, hc, hr, hb⟩ := hL
  refine gx_121 (K := fun _ m' => ClS m' ∧ Frm pNb m m') (E := fun e m' => (e = 2 ∨ e = 0 ∨ e = 1) ∧ ClS m' ∧ Frm pNb m m') hM (f_122 hc (fun r m' a b => ⟨a, b⟩) (fun e m' q a b => ⟨q, a, b⟩)) (fun y h' m' g' _ hL' _ hK => H _ _ (LR.cls hL' hr hb hK.1 hK.2)) (fun e h' m' hL' hE => ?_)
  have hq := LR.cls hL' hr hb hE.2.1 hE.2.2
  rcases hE.1 with q | q | q
  · exact Or.inl ⟨q, H _ _ hq⟩
  · exact Or.inr (Or.inl ⟨q, H _ _ hq⟩)
  · exact Or.inr (Or.inr (⟨q, H _ _ hq⟩))
theorem g_135 {S : Nat × (Nat → Int32)} {n : Nat} {h : PH} {Q : Rs → PH → Prop} {x0 : Int32} (hL : LR h) (H : ∀ r h', LR h' → Q (.inl (some (.int r))) h') : Ex S (n + 18) 135 [.ref 0, .int x0, .ref 173] h Q := by
  obtain ⟨m, g, hM, hc, hr, hb⟩ := hL
  refine gx_135 (K := fun _ m' => ClS m' ∧ Frm pNb m m') (E := fun e m' => (e = 0 ∨ e = 1) ∧ ClS m' ∧ Frm pNb m m') hM (f_136 hc (fun r m' a b => ⟨a, b⟩) (fun e m' q a b => ⟨q, a, b⟩)) (fun y h' m' g' _ hL' _ hK => H _ _ (LR.cls hL' hr hb hK.1 hK.2)) (fun e h' m' hL' hE => ?_)
  have hq := LR.cls hL' hr hb hE.2.1 hE.2.2
  exact hE.1.imp (fun q => ⟨q, H _ _ hq⟩) (fun q => ⟨q, H _ _ hq⟩)
theorem g_137 {S : Nat × (Nat → Int32)} {n : Nat} {h : PH} {Q : Rs → PH → Prop} (hL : LR h) (H : ∀ r h', LR h' → Q (.inl (some (.int r))) h') : Ex S (n + 18) 137 [.ref 0, .ref 173] h Q := by
  obtain ⟨m, g, hM, hc, hr, hb⟩ := hL
  refine gx_137 (K := fun _ m' => ClS m' ∧ Frm pNb m m') (E := fun e m' => (e = 1) ∧ ClS m' ∧ Frm pNb m m') hM (f_138 hc (fun r m' a b => ⟨a, b⟩) (fun e m' q a b => ⟨q, a, b⟩)) (fun y h' m' g' _ hL' _ hK => H _ _ (LR.cls hL' hr hb hK.1 hK.2)) (fun e h' m' hL' hE => ?_)
  have hq := LR.cls hL' hr hb hE.2.1 hE.2.2
  exact ⟨hE.1, H _ _ hq⟩
theorem g_139 {S : Nat × (Nat → Int32)} {n : Nat} {h : PH} {Q : Rs → PH → Prop} {x0 x1 : Int32} (hL : LR h) (H : ∀ r h', LR h' → Q (.inl (some (.int r))) h') : Ex S (n + 18) 139 [.ref 0, .int x0, .int x1, .ref 173] h Q := by
  obtain ⟨m, g, hM, hc, hr, hb⟩ := hL
  refine gx_139 (K := fun _ m' => ClS m' ∧ Frm pNb m m') (E := fun e m' => (e = 3 ∨ e = 0 ∨ e = 1) ∧ ClS m' ∧ Frm pNb m m') hM (f_140 hc (fun r m' a b => ⟨a, b⟩) (fun e m' q a b => ⟨q, a, b⟩)) (fun y h' m' g' _ hL' _ hK => H _ _ (LR.cls hL' hr hb hK.1 hK.2)) (fun e h' m' hL' hE => ?_)
  have hq := LR.cls hL' hr hb hE.2.1 hE.2.2
  rcases hE.1 with q | q | q
  · exact Or.inl ⟨q, H _ _ hq⟩
  · exact Or.inr (Or.inl ⟨q, H _ _ hq⟩)
  · exact Or.inr (Or.inr (⟨q, H _ _ hq⟩))
theorem g_144 {S : Nat × (Nat → Int32)} {n : Nat} {h : PH} {Q : Rs → PH → Prop} {x0 x1 x2 : Int32} (hL : LR h) (H : ∀ r h', LR h' → Q (.inl (some (.int r))) h') : Ex S (n + 18) 144 [.ref 0, .int x0, .int x1, .int x2, .ref 173] h Q := by
  obtain ⟨m, g, hM, hc, hr, hb⟩ := hL
  refine gx_144 (K := fun _ m' => ClS m' ∧ Frm pNb m m') (E := fun e m' => (e = 2 ∨ e = 3 ∨ e = 0 ∨ e = 1) ∧ ClS m' ∧ Frm pNb m m') hM (f_145 hc (fun r m' a b => ⟨a, b⟩) (fun e m' q a b => ⟨q, a, b⟩)) (fun y h' m' g' _ hL' _ hK => H _ _ (LR.cls hL' hr hb hK.1 hK.2)) (fun e h' m' hL' hE => ?_)
  have hq := LR.cls hL' hr hb hE.2.1 hE.2.2
  rcases hE.1 with q | q | q | q
  · exact Or.inl ⟨q, H _ _ hq⟩
  · exact Or.inr (Or.inl ⟨q, H _ _ hq⟩)
  · exact Or.inr (Or.inr (Or.inl ⟨q, H _ _ hq⟩))
  · exact Or.inr (Or.inr (Or.inr (⟨q, H _ _ hq⟩)))
theorem g_147 {S : Nat × (Nat → Int32)} {n : Nat} {h : PH} {Q : Rs → PH → Prop} {x0 x1 : Int32} (hL : LR h) (H : ∀ r h', LR h' → Q (.inl (some (.int r))) h') : Ex S (n + 18) 147 [.ref 0, .int x0, .int x1, .ref 173] h Q := by
  obtain ⟨m, g, hM, hc, hr, hb⟩ := hL
  refine gx_147 (K := fun _ m' => ClS m' ∧ Frm pNb m m') (E := fun e m' => (e = 0 ∨ e = 1) ∧ ClS m' ∧ Frm pNb m m') hM (f_148 hc (fun r m' a b => ⟨a, b⟩) (fun e m' q a b => ⟨q, a, b⟩)) (fun y h' m' g' _ hL' _ hK => H _ _ (LR.cls hL' hr hb hK.1 hK.2)) (fun e h' m' hL' hE => ?_)
  have hq := LR.cls hL' hr hb hE.2.1 hE.2.2
  exact hE.1.imp (fun q => ⟨q, H _ _ hq⟩) (fun q => ⟨q, H _ _ hq⟩)
theorem g_149 {S : Nat × (Nat → Int32)} {n : Nat} {h : PH} {Q : Rs → PH → Prop} {x0 x1 x2 x3 : Int32} (hL : LR h) (H : ∀ r h', LR h' → Q (.inl (some (.int r))) h') : Ex S (n + 18) 149 [.ref 0, .int x0, .int x1, .int x2, .int x3, .ref 173] h Q := by
  obtain ⟨m, g, hM, hc, hr, hb⟩ := hL
  refine gx_149 (K := fun _ m' => ClS m' ∧ Frm pNb m m') (E := fun e m' => (e = 2 ∨ e = 0 ∨ e = 1) ∧ ClS m' ∧ Frm pNb m m') hM (f_150 hc (fun r m' a b => ⟨a, b⟩) (fun e m' q a b => ⟨q, a, b⟩)) (fun y h' m' g' _ hL' _ hK => H _ _ (LR.cls hL' hr hb hK.1 hK.2)) (fun e h' m' hL' hE => ?_)
  have hq := LR.cls hL' hr hb hE.2.1 hE.2.2
  rcases hE.1 with q | q | q
  · exact Or.inl ⟨q, H _ _ hq⟩
  · exact Or.inr (Or.inl ⟨q, H _ _ hq⟩)
  · exact Or.inr (Or.inr (⟨q, H _ _ hq⟩))
theorem g_153 {S : Nat × (Nat → Int32)} {n : Nat} {h : PH} {Q : Rs → PH → Prop} {x0 x1 x2 : Int32} (hL : LR h) (H : ∀ r h', LR h' → Q (.inl (some (.int r))) h') : Ex S (n + 18) 153 [.ref 0, .int x0, .int x1, .int x2, .ref 173] h Q := by
  obtain ⟨m, g, hM, hc, hr, hb⟩ := hL
  refine gx_153 (K := fun _ m' => ClS m' ∧ Frm pNb m m') (E := fun e m' => (e = 3 ∨ e = 0 ∨ e = 1) ∧ ClS m' ∧ Frm pNb m m') hM (f_154 hc (fun r m' a b => ⟨a, b⟩) (fun e m' q a b => ⟨q, a, b⟩)) (fun y h' m' g' _ hL' _ hK => H _ _ (LR.cls hL' hr hb hK.1 hK.2)) (fun e h' m' hL' hE => ?_)
  have hq := LR.cls hL' hr hb hE.2.1 hE.2.2
  rcases hE.1 with q | q | q
  · exact Or.inl ⟨q, H _ _ hq⟩
  · exact Or.inr (Or.inl ⟨q, H _ _ hq⟩)
  · exact Or.inr (Or.inr (⟨q, H _ _ hq⟩))
theorem g_158 {S : Nat × (Nat → Int32)} {n : Nat} {h : PH} {Q : Rs → PH → Prop} {x0 x1 x2 x3 : Int32} (hL : LR h) (H : ∀ r h', LR h' → Q (.inl (some (.int r))) h') : Ex S (n + 18) 158 [.ref 0, .int x0, .int x1, .int x2, .int x3, .ref 173] h Q := by
  obtain ⟨m, g, hM, hc, hr, hb⟩ := hL
  refine gx_158 (K := fun _ m' => ClS m' ∧ Frm pNb m m') (E := fun e m' => (e = 0 ∨ e = 1) ∧ ClS m' ∧ Frm pNb m m') hM (f_159 hc (fun r m' a b => ⟨a, b⟩) (fun e m' q a b => ⟨q, a, b⟩)) (fun y h' m' g' _ hL' _ hK => H _ _ (LR.cls hL' hr hb hK.1 hK.2)) (fun e h' m' hL' hE => ?_)
  have hq := LR.cls hL' hr hb hE.2.1 hE.2.2
  exact hE.1.imp (fun q => ⟨q, H _ _ hq⟩) (fun q => ⟨q, H _ _ hq⟩)
theorem g_165 {S : Nat × (Nat → Int32)} {n : Nat} {h : PH} {Q : Rs → PH → Prop} {x0 x1 x2 : Int32} (hL : LR h) (H : ∀ r h', LR h' → Q (.inl (some (.int r))) h') : Ex S (n + 18) 165 [.ref 0, .int x0, .int x1, .int x2, .ref 173] h Q := by
  obtain ⟨m, g, hM, hc, hr, hb⟩ := hL
  refine gx_165 (K := fun _ m' => ClS m' ∧ Frm pNb m m') (E := fun e m' => (e = 2 ∨ e = 0 ∨ e = 1) ∧ ClS m' ∧ Frm pNb m m') hM (f_166 hc (fun r m' a b => ⟨a, b⟩) (fun e m' q a b => ⟨q, a, b⟩)) (fun y h' m' g' _ hL' _ hK => H _ _ (LR.cls hL' hr hb hK.1 hK.2)) (fun e h' m' hL' hE => ?_)
  have hq := LR.cls hL' hr hb hE.2.1 hE.2.2
  rcases hE.1 with q | q | q
  · exact Or.inl ⟨q, H _ _ hq⟩
  · exact Or.inr (Or.inl ⟨q, H _ _ hq⟩)
  · exact Or.inr (Or.inr (⟨q, H _ _ hq⟩))
theorem g_168 {S : Nat × (Nat → Int32)} {n : Nat} {h : PH} {Q : Rs → PH → Prop} {x0 x1 x2 : Int32} (hL : LR h) (H : ∀ r h', LR h' → Q (.inl (some (.int r))) h') : Ex S (n + 18) 168 [.ref 0, .int x0, .int x1, .int x2, .ref 173] h Q := by
  obtain ⟨m, g, hM, hc, hr, hb⟩ := hL
  refine gx_168 (K := fun _ m' => ClS m' ∧ Frm pNb m m') (E := fun e m' => (e = 0 ∨ e = 1) ∧ ClS m' ∧ Frm pNb m m') hM (f_169 hc (fun r m' a b => ⟨a, b⟩) (fun e m' q a b => ⟨q, a, b⟩)) (fun y h' m' g' _ hL' _ hK => H _ _ (LR.cls hL' hr hb hK.1 hK.2)) (fun e h' m' hL' hE => ?_)
  have hq := LR.cls hL' hr hb hE.2.1 hE.2.2
  exact hE.1.imp (fun q => ⟨q, H _ _ hq⟩) (fun q => ⟨q, H _ _ hq⟩)
theorem g_170 {S : Nat × (Nat → Int32)} {n : Nat} {h : PH} {Q : Rs → PH → Prop} {x0 x1 x2 x3 : Int32} (hL : LR h) (H : ∀ r h', LR h' → Q (.inl (some (.int r))) h') : Ex S (n + 18) 170 [.ref 0, .int x0, .int x1, .int x2, .int x3, .ref 173] h Q := by
  obtain ⟨m, g, hM, hc, hr, hb⟩ := hL
  refine gx_170 (K := fun _ m' => ClS m' ∧ Frm pNb m m') (E := fun e m' => (e = 2 ∨ e = 0 ∨ e = 1) ∧ ClS m' ∧ Frm pNb m m') hM (f_171 hc (fun r m' a b => ⟨a, b⟩) (fun e m' q a b => ⟨q, a, b⟩)) (fun y h' m' g' _ hL' _ hK => H _ _ (LR.cls hL' hr hb hK.1 hK.2)) (fun e h' m' hL' hE => ?_)
  have hq := LR.cls hL' hr hb hE.2.1 hE.2.2
  rcases hE.1 with q | q | q
  · exact Or.inl ⟨q, H _ _ hq⟩
  · exact Or.inr (Or.inl ⟨q, H _ _ hq⟩)
  · exact Or.inr (Or.inr (⟨q, H _ _ hq⟩))
theorem g_172 {S : Nat × (Nat → Int32)} {n : Nat} {h : PH} {Q : Rs → PH → Prop} {x0 x1 : Int32} (hL : LR h) (H : ∀ r h', LR h' → Q (.inl (some (.int r))) h') : Ex S (n + 18) 172 [.ref 0, .int x0, .int x1, .ref 173] h Q := by
  obtain ⟨m, g, hM, hc, hr, hb⟩ := hL
  refine gx_172 (K := fun _ m' => ClS m' ∧ Frm pNb m m') (E := fun e m' => (e = 0 ∨ e = 1) ∧ ClS m' ∧ Frm pNb m m') hM (f_173 hc (fun r m' a b => ⟨a, b⟩) (fun e m' q a b => ⟨q, a, b⟩)) (fun y h' m' g' _ hL' _ hK => H _ _ (LR.cls hL' hr hb hK.1 hK.2)) (fun e h' m' hL' hE => ?_)
  have hq := LR.cls hL' hr hb hE.2.1 hE.2.2
  exact hE.1.imp (fun q => ⟨q, H _ _ hq⟩) (fun q => ⟨q, H _ _ hq⟩)
theorem g_174 {S : Nat × (Nat → Int32)} {n : Nat} {h : PH} {Q : Rs → PH → Prop} {x0 x1 x2 : Int32} (hL : LR h) (H : ∀ r h', LR h' → Q (.inl (some (.int r))) h') : Ex S (n + 18) 174 [.ref 0, .int x0, .int x1, .int x2, .ref 173] h Q := by
  obtain ⟨m, g, hM, hc, hr, hb⟩ := hL
  refine gx_174 (K := fun _ m' => ClS m' ∧ Frm pNb m m') (E := fun e m' => (e = 0 ∨ e = 1) ∧ ClS m' ∧ Frm pNb m m') hM (f_175 hc (fun r m' a b => ⟨a, b⟩) (fun e m' q a b => ⟨q, a, b⟩)) (fun y h' m' g' _ hL' _ hK => H _ _ (LR.cls hL' hr hb hK.1 hK.2)) (fun e h' m' hL' hE => ?_)
  have hq := LR.cls hL' hr hb hE.2.1 hE.2.2
  exact hE.1.imp (fun q => ⟨q, H _ _ hq⟩) (fun q => ⟨q, H _ _ hq⟩)
theorem g_177 {S : Nat × (Nat → Int32)} {n : Nat} {h : PH} {Q : Rs → PH → Prop} {x0 : Int32} (hL : LR h) (H : ∀ r h', LR h' → Q (.inl (some (.int r))) h') : Ex S (n + 18) 177 [.ref 0, .int x0, .ref 173] h Q := by
  obtain ⟨m, g, hM, hc, hr, hb⟩ := hL
  refine gx_177 (K := fun _ m' => ClS m' ∧ Frm pNb m m') (E := fun e m' => (e = 0 ∨ e = 1) ∧ ClS m' ∧ Frm pNb m m') hM (f_178 hc (fun r m' a b => ⟨a, b⟩) (fun e m' q a b => ⟨q, a, b⟩)) (fun y h' m' g' _ hL' _ hK => H _ _ (LR.cls hL' hr hb hK.1 hK.2)) (fun e h' m' hL' hE => ?_)
  have hq := LR.cls hL' hr hb hE.2.1 hE.2.2
  exact hE.1.imp (fun q => ⟨q, H _ _ hq⟩) (fun q => ⟨q, H _ _ hq⟩)
theorem g_182 {S : Nat × (Nat → Int32)} {n : Nat} {h : PH} {Q : Rs → PH → Prop} {x0 x1 x2 : Int32} (hL : LR h) (H : ∀ r h', LR h' → Q (.inl (some (.int r))) h') : Ex S (n + 18) 182 [.ref 0, .int x0, .int x1, .int x2, .ref 173] h Q := by
  obtain ⟨m, g, hM, hc, hr, hb⟩ := hL
  refine gx_182 (K := fun _ m' => ClS m' ∧ Frm pNb m m') (E := fun e m' => (e = 2 ∨ e = 0 ∨ e = 1) ∧ ClS m' ∧ Frm pNb m m') hM (f_183 hc (fun r m' a b => ⟨a, b⟩) (fun e m' q a b => ⟨q, a, b⟩)) (fun y h' m' g' _ hL' _ hK => H _ _ (LR.cls hL' hr hb hK.1 hK.2)) (fun e h' m' hL' hE => ?_)
  have hq := LR.cls hL' hr hb hE.2.1 hE.2.2
  rcases hE.1 with q | q | q
  · exact Or.inl ⟨q, H _ _ hq⟩
  · exact Or.inr (Or.inl ⟨q, H _ _ hq⟩)
  · exact Or.inr (Or.inr (⟨q, H _ _ hq⟩))
theorem g_184 {S : Nat × (Nat → Int32)} {n : Nat} {h : PH} {Q : Rs → PH → Prop} {x0 x1 x2 x3 x4 : Int32} (hL : LR h) (H : ∀ r h', LR h' → Q (.inl (some (.int r))) h') : Ex S (n + 18) 184 [.ref 0, .int x0, .int x1, .int x2, .int x3, .int x4, .ref 173] h Q := by
  obtain ⟨m, g, hM, hc, hr, hb⟩ := hL
  refine gx_184 (K := fun _ m' => ClS m' ∧ Frm pNb m m') (E := fun e m' => (e = 2 ∨ e = 0 ∨ e = 1) ∧ ClS m' ∧ Frm pNb m m') hM (f_185 hc (fun r m' a b => ⟨a, b⟩) (fun e m' q a b => ⟨q, a, b⟩)) (fun y h' m' g' _ hL' _ hK => H _ _ (LR.cls hL' hr hb hK.1 hK.2)) (fun e h' m' hL' hE => ?_)
  have hq := LR.cls hL' hr hb hE.2.1 hE.2.2
  rcases hE.1 with q | q | q
  · exact Or.inl ⟨q, H _ _ hq⟩
  · exact Or.inr (Or.inl ⟨q, H _ _ hq⟩)
  · exact Or.inr (Or.inr (⟨q, H _ _ hq⟩))
theorem g_187 {S : Nat × (Nat → Int32)} {n : Nat} {h : PH} {Q : Rs → PH → Prop} {x0 : Int32} (hL : LR h) (H : ∀ r h', LR h' → Q (.inl (some (.int r))) h') : Ex S (n + 18) 187 [.ref 0, .int x0, .ref 173] h Q := by
  obtain ⟨m, g, hM, hc, hr, hb⟩ := hL
  refine gx_187 (K := fun _ m' => ClS m' ∧ Frm pNb m m') (E := fun e m' => (e = 1) ∧ ClS m' ∧ Frm pNb m m') hM (f_188 hc (fun r m' a b => ⟨a, b⟩) (fun e m' q a b => ⟨q, a, b⟩)) (fun y h' m' g' _ hL' _ hK => H _ _ (LR.cls hL' hr hb hK.1 hK.2)) (fun e h' m' hL' hE => ?_)
  have hq := LR.cls hL' hr hb hE.2.1 hE.2.2
  exact ⟨hE.1, H _ _ hq⟩
theorem g_189 {S : Nat × (Nat → Int32)} {n : Nat} {h : PH} {Q : Rs → PH → Prop} (hL : LR h) (H : ∀ r h', LR h' → Q (.inl (some (.int r))) h') : Ex S (n + 18) 189 [.ref 0, .ref 173] h Q := by
  obtain ⟨m, g, hM, hc, hr, hb⟩ := hL
  refine gx_189 (K := fun _ m' => ClS m' ∧ Frm pNb m m') (E := fun e m' => (e = 1) ∧ ClS m' ∧ Frm pNb m m') hM (f_190 hc (fun r m' a b => ⟨a, b⟩) (fun e m' q a b => ⟨q, a, b⟩)) (fun y h' m' g' _ hL' _ hK => H _ _ (LR.cls hL' hr hb hK.1 hK.2)) (fun e h' m' hL' hE => ?_)
  have hq := LR.cls hL' hr hb hE.2.1 hE.2.2
  exact ⟨hE.1, H _ _ hq⟩
theorem g_191 {S : Nat × (Nat → Int32)} {n : Nat} {h : PH} {Q : Rs → PH → Prop} {x0 : Int32} (hL : LR h) (H : ∀ r h', LR h' → Q (.inl (some (.int r))) h') : Ex S (n + 18) 191 [.ref 0, .int x0, .ref 173] h Q := by
  obtain ⟨m, g, hM, hc, hr, hb⟩ := hL
  refine gx_191 (K := fun _ m' => ClS m' ∧ Frm pNb m m') (E := fun e m' => (e = 0 ∨ e = 1) ∧ ClS m' ∧ Frm pNb m m') hM (f_192 hc (fun r m' a b => ⟨a, b⟩) (fun e m' q a b => ⟨q, a, b⟩)) (fun y h' m' g' _ hL' _ hK => H _ _ (LR.cls hL' hr hb hK.1 hK.2)) (fun e h' m' hL' hE => ?_)
  have hq := LR.cls hL' hr hb hE.2.1 hE.2.2
  exact hE.1.imp (fun q => ⟨q, H _ _ hq⟩) (fun q => ⟨q, H _ _ hq⟩)
theorem g_193 {S : Nat × (Nat → Int32)} {n : Nat} {h : PH} {Q : Rs → PH → Prop} (hL : LR h) (H : ∀ r h', LR h' → Q (.inl (some (.int r))) h') : Ex S (n + 18) 193 [.ref 0, .ref 173] h Q := by
  obtain ⟨m, g, hM, hc, hr, hb⟩ := hL
  refine gx_193 (K := fun _ m' => ClS m' ∧ Frm pNb m m') (E := fun e m' => (e = 1) ∧ ClS m' ∧ Frm pNb m m') hM (f_194 hc (fun r m' a b => ⟨a, b⟩) (fun e m' q a b => ⟨q, a, b⟩)) (fun y h' m' g' _ hL' _ hK => H _ _ (LR.cls hL' hr hb hK.1 hK.2)) (fun e h' m' hL' hE => ?_)
  have hq := LR.cls hL' hr hb hE.2.1 hE.2.2
  exact ⟨hE.1, H _ _ hq⟩
theorem g_195 {S : Nat × (Nat → Int32)} {n : Nat} {h : PH} {Q : Rs → PH → Prop} {x0 : Int32} (hL : LR h) (H : ∀ r h', LR h' → Q (.inl (some (.int r))) h') : Ex S (n + 18) 195 [.ref 0, .int x0, .ref 173] h Q := by
  obtain ⟨m, g, hM, hc, hr, hb⟩ := hL
  refine gx_195 (K := fun _ m' => ClS m' ∧ Frm pNb m m') (E := fun e m' => (e = 2 ∨ e = 1) ∧ ClS m' ∧ Frm pNb m m') hM (f_196 hc (fun r m' a b => ⟨a, b⟩) (fun e m' q a b => ⟨q, a, b⟩)) (fun y h' m' g' _ hL' _ hK => H _ _ (LR.cls hL' hr hb hK.1 hK.2)) (fun e h' m' hL' hE => ?_)
  have hq := LR.cls hL' hr hb hE.2.1 hE.2.2
  exact hE.1.imp (fun q => ⟨q, H _ _ hq⟩) (fun q => ⟨q, H _ _ hq⟩)
theorem g_197 {S : Nat × (Nat → Int32)} {n : Nat} {h : PH} {Q : Rs → PH → Prop} {x0 : Int32} (hL : LR h) (H : ∀ r h', LR h' → Q (.inl (some (.int r))) h') : Ex S (n + 18) 197 [.ref 0, .int x0, .ref 173] h Q := by
  obtain ⟨m, g, hM, hc, hr, hb⟩ := hL
  refine gx_197 (K := fun _ m' => ClS m' ∧ Frm pNb m m') (E := fun e m' => (e = 1 ∨ e = 2) ∧ ClS m' ∧ Frm pNb m m') hM (f_198 hc (fun r m' a b => ⟨a, b⟩) (fun e m' q a b => ⟨q, a, b⟩)) (fun y h' m' g' _ hL' _ hK => H _ _ (LR.cls hL' hr hb hK.1 hK.2)) (fun e h' m' hL' hE => ?_)
  have hq := LR.cls hL' hr hb hE.2.1 hE.2.2
  exact hE.1.imp (fun q => ⟨q, H _ _ hq⟩) (fun q => ⟨q, H _ _ hq⟩)
theorem g_200 {S : Nat × (Nat → Int32)} {n : Nat} {h : PH} {Q : Rs → PH → Prop} {x0 x1 : Int32} (hL : LR h) (H : ∀ r h', LR h' → Q (.inl (some (.int r))) h') : Ex S (n + 18) 200 [.ref 0, .int x0, .int x1, .ref 173] h Q := by
  obtain ⟨m, g, hM, hc, hr, hb⟩ := hL
  refine gx_200 (K := fun _ m' => ClS m' ∧ Frm pNb m m') (E := fun e m' => (e = 2 ∨ e = 0 ∨ e = 1) ∧ ClS m' ∧ Frm pNb m m') hM (f_201 hc (fun r m' a b => ⟨a, b⟩) (fun e m' q a b => ⟨q, a, b⟩)) (fun y h' m' g' _ hL' _ hK => H _ _ (LR.cls hL' hr hb hK.1 hK.2)) (fun e h' m' hL' hE => ?_)
  have hq := LR.cls hL' hr hb hE.2.1 hE.2.2
  rcases hE.1 with q | q | q
  · exact Or.inl ⟨q, H _ _ hq⟩
  · exact Or.inr (Or.inl ⟨q, H _ _ hq⟩)
  · exact Or.inr (Or.inr (⟨q, H _ _ hq⟩))
theorem g_202 {S : Nat × (Nat → Int32)} {n : Nat} {h : PH} {Q : Rs → PH → Prop} {x0 x1 x2 : Int32} (hL : LR h) (H : ∀ r h', LR h' → Q (.inl (some (.int r))) h') : Ex S (n + 18) 202 [.ref 0, .int x0, .int x1, .int x2, .ref 173] h Q := by
  obtain ⟨m, g, hM, hc, hr, hb⟩ := hL
  refine gx_202 (K := fun _ m' => ClS m' ∧ Frm pNb m m') (E := fun e m' => (e = 2 ∨ e = 0 ∨ e = 1) ∧ ClS m' ∧ Frm pNb m m') hM (f_203 hc (fun r m' a b => ⟨a, b⟩) (fun e m' q a b => ⟨q, a, b⟩)) (fun y h' m' g' _ hL' _ hK => H _ _ (LR.cls hL' hr hb hK.1 hK.2)) (fun e h' m' hL' hE => ?_)
  have hq := LR.cls hL' hr hb hE.2.1 hE.2.2
  rcases hE.1 with q | q | q
  · exact Or.inl ⟨q, H _ _ hq⟩
  · exact Or.inr (Or.inl ⟨q, H _ _ hq⟩)
  · exact Or.inr (Or.inr (⟨q, H _ _ hq⟩))
theorem g_206 {S : Nat × (Nat → Int32)} {n : Nat} {h : PH} {Q : Rs → PH → Prop} {x0 x1 x2 : Int32} (hL : LR h) (H : ∀ r h', LR h' → Q (.inl (some (.int r))) h') : Ex S (n + 18) 206 [.ref 0, .int x0, .int x1, .int x2, .ref 173] h Q := by
  obtain ⟨m, g, hM, hc, hr, hb⟩ := hL
  refine gx_206 (K := fun _ m' => ClS m' ∧ Frm pNb m m') (E := fun e m' => (e = 2 ∨ e = 0 ∨ e = 1) ∧ ClS m' ∧ Frm pNb m m') hM (f_207 hc (fun r m' a b => ⟨a, b⟩) (fun e m' q a b => ⟨q, a, b⟩)) (fun y h' m' g' _ hL' _ hK => H _ _ (LR.cls hL' hr hb hK.1 hK.2)) (fun e h' m' hL' hE => ?_)
  have hq := LR.cls hL' hr hb hE.2.1 hE.2.2
  rcases hE.1 with q | q | q
  · exact Or.inl ⟨q, H _ _ hq⟩
  · exact Or.inr (Or.inl ⟨q, H _ _ hq⟩)
  · exact Or.inr (Or.inr (⟨q, H _ _ hq⟩))
theorem g_209 {S : Nat × (Nat → Int32)} {n : Nat} {h : PH} {Q : Rs → PH → Prop} {x0 x1 : Int32} (hL : LR h) (H : ∀ r h', LR h' → Q (.inl (some (.int r))) h') : Ex S (n + 18) 209 [.ref 0, .int x0, .int x1, .ref 173] h Q := by
  obtain ⟨m, g, hM, hc, hr, hb⟩ := hL
  refine gx_209 (K := fun _ m' => ClS m' ∧ Frm pNb m m') (E := fun e m' => (e = 0 ∨ e = 1) ∧ ClS m' ∧ Frm pNb m m') hM (f_210 hc (fun r m' a b => ⟨a, b⟩) (fun e m' q a b => ⟨q, a, b⟩)) (fun y h' m' g' _ hL' _ hK => H _ _ (LR.cls hL' hr hb hK.1 hK.2)) (fun e h' m' hL' hE => ?_)
  have hq := LR.cls hL' hr hb hE.2.1 hE.2.2
  exact hE.1.imp (fun q => ⟨q, H _ _ hq⟩) (fun q => ⟨q, H _ _ hq⟩)
theorem g_213 {S : Nat × (Nat → Int32)} {n : Nat} {h : PH} {Q : Rs → PH → Prop} {x0 x1 x2 x3 : Int32} (hL : LR h) (H : ∀ r h', LR h' → Q (.inl (some (.int r))) h') : Ex S (n + 18) 213 [.ref 0, .int x0, .int x1, .int x2, .int x3, .ref 173] h Q := by
  obtain ⟨m, g, hM, hc, hr, hb⟩ := hL
  refine gx_213 (K := fun _ m' => ClS m' ∧ Frm pNb m m') (E := fun e m' => (e = 0 ∨ e = 1) ∧ ClS m' ∧ Frm pNb m m') hM (f_214 hc (fun r m' a b => ⟨a, b⟩) (fun e m' q a b => ⟨q, a, b⟩)) (fun y h' m' g' _ hL' _ hK => H _ _ (LR.cls hL' hr hb hK.1 hK.2)) (fun e h' m' hL' hE => ?_)
  have hq := LR.cls hL' hr hb hE.2.1 hE.2.2
  exact hE.1.imp (fun q => ⟨q, H _ _ hq⟩) (fun q => ⟨q, H _ _ hq⟩)
theorem g_218 {S : Nat × (Nat → Int32)} {n : Nat} {h : PH} {Q : Rs → PH → Prop} {x0 : Int32} (hL : LR h) (H : ∀ r h', LR h' → Q (.inl (some (.int r))) h') : Ex S (n + 18) 218 [.ref 0, .int x0, .ref 173] h Q := by
  obtain ⟨m, g, hM, hc, hr, hb⟩ := hL
  refine gx_218 (K := fun _ m' => ClS m' ∧ Frm pNb m m') (E := fun e m' => (e = 0 ∨ e = 1) ∧ ClS m' ∧ Frm pNb m m') hM (f_219 hc (fun r m' a b => ⟨a, b⟩) (fun e m' q a b => ⟨q, a, b⟩)) (fun y h' m' g' _ hL' _ hK => H _ _ (LR.cls hL' hr hb hK.1 hK.2)) (fun e h' m' hL' hE => ?_)
  have hq := LR.cls hL' hr hb hE.2.1 hE.2.2
  exact hE.1.imp (fun q => ⟨q, H _ _ hq⟩) (fun q => ⟨q, H _ _ hq⟩)
theorem g_220 {S : Nat × (Nat → Int32)} {n : Nat} {h : PH} {Q : Rs → PH → Prop} {x0 : Int32} (hL : LR h) (H : ∀ r h', LR h' → Q (.inl (some (.int r))) h') : Ex S (n + 18) 220 [.ref 0, .int x0, .ref 173] h Q := by
  obtain ⟨m, g, hM, hc, hr, hb⟩ := hL
  refine gx_220 (K := fun _ m' => ClS m' ∧ Frm pNb m m') (E := fun e m' => (e = 2 ∨ e = 1) ∧ ClS m' ∧ Frm pNb m m') hM (f_221 hc (fun r m' a b => ⟨a, b⟩) (fun e m' q a b => ⟨q, a, b⟩)) (fun y h' m' g' _ hL' _ hK => H _ _ (LR.cls hL' hr hb hK.1 hK.2)) (fun e h' m' hL' hE => ?_)
  have hq := LR.cls hL' hr hb hE.2.1 hE.2.2
  exact hE.1.imp (fun q => ⟨q, H _ _ hq⟩) (fun q => ⟨q, H _ _ hq⟩)
theorem g_222 {S : Nat × (Nat → Int32)} {n : Nat} {h : PH} {Q : Rs → PH → Prop} {x0 : Int32} (hL : LR h) (H : ∀ r h', LR h' → Q (.inl (some (.int r))) h') : Ex S (n + 18) 222 [.ref 0, .int x0, .ref 173] h Q := by
  obtain ⟨m, g, hM, hc, hr, hb⟩ := hL
  refine gx_222 (K := fun _ m' => ClS m' ∧ Frm pNb m m') (E := fun e m' => (e = 0 ∨ e = 1) ∧ ClS m' ∧ Frm pNb m m') hM (f_223 hc (fun r m' a b => ⟨a, b⟩) (fun e m' q a b => ⟨q, a, b⟩)) (fun y h' m' g' _ hL' _ hK => H _ _ (LR.cls hL' hr hb hK.1 hK.2)) (fun e h' m' hL' hE => ?_)
  have hq := LR.cls hL' hr hb hE.2.1 hE.2.2
  exact hE.1.imp (fun q => ⟨q, H _ _ hq⟩) (fun q => ⟨q, H _ _ hq⟩)

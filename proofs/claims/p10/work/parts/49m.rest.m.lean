section
/-! the reference at rest; ops that come; a need told -/
def RefOK (m : MM) : Prop := (OpsOK m) ∧ (UnOK m) ∧ (∀ k, k < 6 → 1 ≤ m 152 k ∧ m 152 k ≤ 15) ∧ (∀ k, k < 3 → 1 ≤ m 153 k ∧ m 153 k ≤ 3) ∧ (∀ o, o < 8 → -9999 ≤ m 149 o ∧ m 149 o ≤ 9999) ∧ (∀ o, o < 8 → (-2 ≤ m 145 o ∧ m 145 o ≤ 7) ∧ -2 ≤ m 147 o ∧ m 147 o ≤ 7) ∧ (SlOK m) ∧ (m 143 18 = -1) ∧ (R48 m) ∧ (0 ≤ m 143 12 ∧ m 143 12 ≤ 44) ∧ (0 ≤ m 143 0 ∧ m 143 0 ≤ 4) ∧ (∀ o, o < 8 → 0 ≤ m 168 o ∧ m 168 o ≤ 45)
theorem RefOK.ops {m : MM} (h : RefOK m) : OpsOK m := h.1
theorem RefOK.un {m : MM} (h : RefOK m) : UnOK m := h.2.1
theorem RefOK.bz {m : MM} (h : RefOK m) : ∀ k, k < 6 → 1 ≤ m 152 k ∧ m 152 k ≤ 15 := h.2.2.1
theorem RefOK.cn {m : MM} (h : RefOK m) : ∀ k, k < 3 → 1 ≤ m 153 k ∧ m 153 k ≤ 3 := h.2.2.2.1
theorem RefOK.fi {m : MM} (h : RefOK m) : ∀ o, o < 8 → -9999 ≤ m 149 o ∧ m 149 o ≤ 9999 := h.2.2.2.2.1
theorem RefOK.ab {m : MM} (h : RefOK m) : ∀ o, o < 8 → (-2 ≤ m 145 o ∧ m 145 o ≤ 7) ∧ -2 ≤ m 147 o ∧ m 147 o ≤ 7 := h.2.2.2.2.2.1
theorem RefOK.sl {m : MM} (h : RefOK m) : SlOK m := h.2.2.2.2.2.2.1
theorem RefOK.lo {m : MM} (h : RefOK m) : m 143 18 = -1 := h.2.2.2.2.2.2.2.1
theorem RefOK.r48 {m : MM} (h : RefOK m) : R48 m := h.2.2.2.2.2.2.2.2.1
theorem RefOK.nd {m : MM} (h : RefOK m) : 0 ≤ m 143 12 ∧ m 143 12 ≤ 44 := h.2.2.2.2.2.2.2.2.2.1
theorem RefOK.th {m : MM} (h : RefOK m) : 0 ≤ m 143 0 ∧ m 143 0 ≤ 4 := h.2.2.2.2.2.2.2.2.2.2.1
theorem RefOK.pa {m : MM} (h : RefOK m) : ∀ o, o < 8 → 0 ≤ m 168 o ∧ m 168 o ≤ 45 := h.2.2.2.2.2.2.2.2.2.2.2
def FrQ (m m' : MM) : Prop := ∀ A i, (A < 143 ∨ 172 < A ∨ (A = 143 ∧ i = 1) ∨ (143 < A ∧ A < 154)) → m' A i = m A i
theorem FrQ.rf {m : MM} : FrQ m m := fun _ _ _ => rfl
theorem FrQ.tr {a b c : MM} (h1 : FrQ a b) (h2 : FrQ b c) : FrQ a c := fun A i e => (h2 A i e).trans (h1 A i e)
theorem RefOK.th' {m : MM} (h : RefOK m) {z : Int} (hz : 0 ≤ z ∧ z ≤ 4) : RefOK (upm m 143 0 z) := by
  have e : ∀ A i, ¬ (A = 143 ∧ i = 0) → upm m 143 0 z A i = m A i := fun A i q => upm_ne q
  have o := h.ops
  refine ⟨⟨?_, fun k hk => ?_, fun k hk => ?_⟩, fun k hk => ?_, fun k hk => ?_, fun k hk => ?_, fun k hk => ?_, fun k hk => ?_, fun k hk => ?_, ?_, fun k hk => ?_, ?_, ?_, fun k hk => ?_⟩
  · rw [e _ _ (by omega)]; exact o.1
  · unfold OpOK
    rw [e _ _ (by omega), e _ _ (by omega), e _ _ (by omega), e _ _ (by omega), e _ _ (by omega)]; exact o.2.1 k hk
  · rw [e _ _ (by omega)]; exact o.2.2 k hk
  · rw [e _ _ (by omega)]; exact h.un k hk
  · rw [e _ _ (by omega)]; exact h.bz k hk
  · rw [e _ _ (by omega)]; exact h.cn k hk
  · rw [e _ _ (by omega)]; exact h.fi k hk
  · rw [e _ _ (by omega), e _ _ (by omega)]; exact h.ab k hk
  · rw [e _ _ (by omega)]; exact h.sl k hk
  · rw [e _ _ (by omega)]; exact h.lo
  · rw [e _ _ (by omega), e _ _ (by omega), e _ _ (by omega), e _ _ (by omega)]; exact h.r48 k hk
  · rw [e _ _ (by omega)]; exact h.nd
  · rw [upm_eq]; exact hz
  · rw [e _ _ (by omega)]; exact h.pa k hk
theorem FrQ.th {m : MM} {z : Int} : FrQ m (upm m 143 0 z) := fun A i q => upm_ne (by omega)
def Kp (m m' : MM) : Prop := ∀ A i, (A = 143 ∧ (i = 0 ∨ i = 1 ∨ i = 18)) ∨ (143 < A ∧ A < 154) ∨ A = 168 → m' A i = m A i
theorem Kp.rest {m m' : MM} (e : Kp m m') (h : RefOK m) (hs : SlOK m') (hr : R48 m') (hn : 0 ≤ m' 143 12 ∧ m' 143 12 ≤ 44) : RefOK m' := by
  have o := h.ops
  refine ⟨⟨?_, fun k hk => ?_, fun k hk => ?_⟩, fun k hk => ?_, fun k hk => ?_, fun k hk => ?_, fun k hk => ?_, fun k hk => ?_, hs, ?_, hr, hn, ?_, fun k hk => ?_⟩
  · rw [e _ _ (by omega)]; exact o.1
  · unfold OpOK
    rw [e _ _ (by omega), e _ _ (by omega), e _ _ (by omega), e _ _ (by omega), e _ _ (by omega)]; exact o.2.1 k hk
  · rw [e _ _ (by omega)]; exact o.2.2 k hk
  · rw [e _ _ (by omega)]; exact h.un k hk
  · rw [e _ _ (by omega)]; exact h.bz k hk
  · rw [e _ _ (by omega)]; exact h.cn k hk
  · rw [e _ _ (by omega)]; exact h.fi k hk
  · rw [e _ _ (by omega), e _ _ (by omega)]; exact h.ab k hk
  · rw [e _ _ (by omega)]; exact h.lo
  · rw [e _ _ (by omega)]; exact h.th
  · rw [e _ _ (by omega)]; exact h.pa k hk
theorem FrF.kp {a b : MM} (h : FrF a b) : Kp a b := fun A i q => h A i (by omega) (by omega) (by omega) (by omega) (by omega) (by omega) (by omega) (by omega) (by omega) (by omega)
theorem FrF.q {a b : MM} (h : FrF a b) : FrQ a b := fun A i q => h A i (by omega) (by omega) (by omega) (by omega) (by omega) (by omega) (by omega) (by omega) (by omega) (by omega)
theorem FrW.rest {m m' : MM} (e : FrW m m') (r : RN m m') (h : RefOK m) : RefOK m' := e.f.kp.rest h (fun o ho => by rw [e 160 o (by omega) (by omega) (by omega) (by omega) (by omega) (by omega)]; exact h.sl o ho) (r.1 h.r48) (r.2 h.nd)
theorem FrF.rest {m m' : MM} (e : FrF m m') (r : RN m m') (s : SlOK m') (h : RefOK m) : RefOK m' := e.kp.rest h s (r.1 h.r48) (r.2 h.nd)
theorem FrL.q {a b : MM} (h : FrL a b) : FrQ a b := fun A i q => h A i (by omega) (by omega) (by omega) (by omega) (by omega) (by omega)
theorem FrL.rest {m m' : MM} (e : FrL m m') (r : RN m m') (h : RefOK m) : RefOK m' :=
  Kp.rest (fun A i q => e A i (by omega) (by omega) (by omega) (by omega) (by omega) (by omega)) h (fun o ho => by rw [e 160 o (by omega) (by omega) (by omega) (by omega) (by omega) (by omega)]; exact h.sl o ho) (r.1 h.r48) (r.2 h.nd)
abbrev Fin (m : MM) (K : Int → MM → Prop) : Prop := ∀ r m', RefOK m' → FrQ m m' → K r m'
section OPS
variable {S : Nat × (Nat → Int32)} {n : Nat} {mem : MM} {K : Int → MM → Prop}
theorem Fin.th {m : MM} {K : Int → MM → Prop} (H : Fin m K) {z : Int} : Fin (upm m 143 0 z) K := fun r m' h1 h2 => H r m' h1 (FrQ.th.tr h2)
theorem Fin.at {m m1 : MM} {K : Int → MM → Prop} (H : Fin m K) (h1 : RefOK m1) (h2 : FrQ m m1) (r : Int) : ∃ y, some r = some y ∧ K y m1 := ⟨_, rfl, H r m1 h1 h2⟩
theorem Fin.thr {m m1 : MM} {K : Int → MM → Prop} (H : Fin m K) (h1 : RefOK m1) (h2 : FrQ m m1) (r : Int) {z : Int} (hz : 0 ≤ z ∧ z ≤ 4) : ∃ y, some r = some y ∧ K y (upm m1 143 0 z) := ⟨_, rfl, H r _ (h1.th' hz) (h2.tr FrQ.th)⟩
theorem SoundM.th {m : MM} {z : Int} (h : SoundM m) : SoundM (upm m 143 0 z) := h
theorem f_244 {x y : Int} (h : RefOK mem) (H : Fin mem K) : CWI (Ex S (n + 4)) 244 [.inr 143, .inl x, .inl y] mem K := by
  refine CW.of (k := 0) mt_244 rfl rfl (w_244_0 (Ex.mono S (n + 3)) (f_240 h.ops (fun hS _ => ⟨fun _ => ?_, fun z => absurd (by decide) z⟩) (fun _ _ => ⟨fun z => absurd rfl z, fun _ _ => H.thr h FrQ.rf 0 (by omega)⟩)))
  have h' := h.th' (z := 0) (by omega)
  refine f_245 h'.ops hS.th (fun m4 g1 g5 g2 g3 g4 v5 e5 _ => ⟨by unfold InI; omega, ?_⟩)
  have hm : RefOK m4 := g1.w.rest ⟨g5, fun _ => ⟨g2, g3⟩⟩ h'
  have hq : FrQ mem m4 := FrQ.th.tr g1.w.f.q
  refine f_227 (fun a1 a2 _ => ⟨fun _ => f_227 (fun b1 b2 _ => ⟨fun _ => ?_, fun z => absurd (by decide) z⟩) (fun _ _ => ⟨fun z => absurd rfl z, fun _ _ => H.thr hm hq 0 (by omega)⟩), fun z => absurd (by decide) z⟩) (fun _ _ => ⟨fun z => absurd rfl z, fun _ _ => H.thr hm hq 0 (by omega)⟩)
  have hx : 0 ≤ x ∧ x < 48 := by omega
  exact ⟨fun _ => ⟨fun _ => ⟨fun _ => ⟨hx, fun v _ _ _ => H.thr hm hq v (by omega)⟩, fun _ => ⟨hx, fun v _ _ _ => H.thr hm hq v (by omega)⟩⟩, fun _ => ⟨hx, fun v _ _ _ => H.thr hm hq v (by omega)⟩⟩, fun _ => ⟨hx, fun v _ _ _ => H.thr hm hq v (by omega)⟩⟩
end OPS
end
section
/-! laid by wip/hand/wxg.py: bounds, folds, counts: what the paths of methods ask for -/
set_option maxRecDepth 100000 in
theorem mt_263 : MT[263]? = some M_263 := rfl
set_option maxRecDepth 100000 in
theorem mt_266 : MT[266]? = some M_266 := rfl
set_option maxRecDepth 100000 in
theorem mt_335 : MT[335]? = some M_335 := rfl
set_option maxRecDepth 100000 in
theorem mt_343 : MT[343]? = some M_343 := rfl
set_option maxRecDepth 100000 in
theorem mt_348 : MT[348]? = some M_348 := rfl
set_option maxRecDepth 100000 in
theorem mt_349 : MT[349]? = some M_349 := rfl
set_option maxRecDepth 100000 in
theorem mt_350 : MT[350]? = some M_350 := rfl
set_option maxRecDepth 100000 in
theorem mt_351 : MT[351]? = some M_351 := rfl
set_option maxRecDepth 100000 in
theorem mt_352 : MT[352]? = some M_352 := rfl
set_option maxRecDepth 100000 in
theorem mt_353 : MT[353]? = some M_353 := rfl
set_option maxRecDepth 100000 in
theorem mt_354 : MT[354]? = some M_354 := rfl
set_option maxRecDepth 100000 in
theorem mt_355 : MT[355]? = some M_355 := rfl
set_option maxRecDepth 100000 in
theorem mt_357 : MT[357]? = some M_357 := rfl
set_option maxRecDepth 100000 in
theorem mt_366 : MT[366]? = some M_366 := rfl
set_option maxRecDepth 100000 in
theorem mt_367 : MT[367]? = some M_367 := rfl
theorem te_263_0 : (pT M_263).find? (fun e => e.1 == 0) = some (0, .iconst 0, 0, 0) := rfl
theorem te_263_1 : (pT M_263).find? (fun e => e.1 == 1) = some (1, .istore_n 2, 0, 0) := rfl
theorem te_263_2 : (pT M_263).find? (fun e => e.1 == 2) = some (2, .iconst 0, 0, 0) := rfl
theorem te_263_3 : (pT M_263).find? (fun e => e.1 == 3) = some (3, .istore_n 3, 0, 0) := rfl
theorem te_263_4 : (pT M_263).find? (fun e => e.1 == 4) = some (4, .iload_n 3, 0, 0) := rfl
theorem te_263_5 : (pT M_263).find? (fun e => e.1 == 5) = some (5, .aload_n 0, 0, 0) := rfl
theorem te_263_6 : (pT M_263).find? (fun e => e.1 == 6) = some (6, .getfield 108, 10, 1) := rfl
theorem te_263_9 : (pT M_263).find? (fun e => e.1 == 9) = some (9, .if_icmp .ge 33, 0, 0) := rfl
theorem te_263_12 : (pT M_263).find? (fun e => e.1 == 12) = some (12, .iload_n 2, 0, 0) := rfl
theorem te_263_13 : (pT M_263).find? (fun e => e.1 == 13) = some (13, .aload_n 0, 0, 0) := rfl
theorem te_263_14 : (pT M_263).find? (fun e => e.1 == 14) = some (14, .iload_n 3, 0, 0) := rfl
theorem te_263_15 : (pT M_263).find? (fun e => e.1 == 15) = some (15, .invokevirtual 180, 264, 0) := rfl
theorem te_263_18 : (pT M_263).find? (fun e => e.1 == 18) = some (18, .iload_n 1, 0, 0) := rfl
theorem te_263_19 : (pT M_263).find? (fun e => e.1 == 19) = some (19, .if_icmp .ne 14, 0, 0) := rfl
theorem te_263_22 : (pT M_263).find? (fun e => e.1 == 22) = some (22, .aload_n 0, 0, 0) := rfl
theorem te_263_23 : (pT M_263).find? (fun e => e.1 == 23) = some (23, .iload_n 3, 0, 0) := rfl
theorem te_263_24 : (pT M_263).find? (fun e => e.1 == 24) = some (24, .invokevirtual 183, 265, 0) := rfl
theorem te_263_27 : (pT M_263).find? (fun e => e.1 == 27) = some (27, .invokestatic 186, 266, 2) := rfl
theorem te_263_30 : (pT M_263).find? (fun e => e.1 == 30) = some (30, .goto 4, 0, 0) := rfl
theorem te_263_33 : (pT M_263).find? (fun e => e.1 == 33) = some (33, .iconst 0, 0, 0) := rfl
theorem te_263_34 : (pT M_263).find? (fun e => e.1 == 34) = some (34, .iadd, 0, 0) := rfl
theorem te_263_35 : (pT M_263).find? (fun e => e.1 == 35) = some (35, .istore_n 2, 0, 0) := rfl
theorem te_263_36 : (pT M_263).find? (fun e => e.1 == 36) = some (36, .iinc 3 1, 0, 0) := rfl
theorem te_263_39 : (pT M_263).find? (fun e => e.1 == 39) = some (39, .goto (-35), 0, 0) := rfl
theorem te_263_42 : (pT M_263).find? (fun e => e.1 == 42) = some (42, .iload_n 2, 0, 0) := rfl
theorem te_263_43 : (pT M_263).find? (fun e => e.1 == 43) = some (43, .ireturn, 0, 0) := rfl
theorem te_266_0 : (pT M_266).find? (fun e => e.1 == 0) = some (0, .iconst 0, 0, 0) := rfl
theorem te_266_1 : (pT M_266).find? (fun e => e.1 == 1) = some (1, .istore_n 1, 0, 0) := rfl
theorem te_266_2 : (pT M_266).find? (fun e => e.1 == 2) = some (2, .iload_n 0, 0, 0) := rfl
theorem te_266_3 : (pT M_266).find? (fun e => e.1 == 3) = some (3, .istore_n 2, 0, 0) := rfl
theorem te_266_4 : (pT M_266).find? (fun e => e.1 == 4) = some (4, .iload_n 2, 0, 0) := rfl
theorem te_266_5 : (pT M_266).find? (fun e => e.1 == 5) = some (5, .ifCond .eq 15, 0, 0) := rfl
theorem te_266_8 : (pT M_266).find? (fun e => e.1 == 8) = some (8, .iinc 1 1, 0, 0) := rfl
theorem te_266_11 : (pT M_266).find? (fun e => e.1 == 11) = some (11, .iload_n 2, 0, 0) := rfl
theorem te_266_12 : (pT M_266).find? (fun e => e.1 == 12) = some (12, .iload_n 2, 0, 0) := rfl
theorem te_266_13 : (pT M_266).find? (fun e => e.1 == 13) = some (13, .iconst 1, 0, 0) := rfl
theorem te_266_14 : (pT M_266).find? (fun e => e.1 == 14) = some (14, .isub, 0, 0) := rfl
theorem te_266_15 : (pT M_266).find? (fun e => e.1 == 15) = some (15, .iand, 0, 0) := rfl
theorem te_266_16 : (pT M_266).find? (fun e => e.1 == 16) = some (16, .istore_n 2, 0, 0) := rfl
theorem te_266_17 : (pT M_266).find? (fun e => e.1 == 17) = some (17, .goto (-13), 0, 0) := rfl
theorem te_266_20 : (pT M_266).find? (fun e => e.1 == 20) = some (20, .iload_n 1, 0, 0) := rfl
theorem te_266_21 : (pT M_266).find? (fun e => e.1 == 21) = some (21, .ireturn, 0, 0) := rfl
theorem te_335_0 : (pT M_335).find? (fun e => e.1 == 0) = some (0, .iconst 0, 0, 0) := rfl
theorem te_335_1 : (pT M_335).find? (fun e => e.1 == 1) = some (1, .istore_n 1, 0, 0) := rfl
theorem te_335_2 : (pT M_335).find? (fun e => e.1 == 2) = some (2, .iconst 0, 0, 0) := rfl
theorem te_335_3 : (pT M_335).find? (fun e => e.1 == 3) = some (3, .istore_n 2, 0, 0) := rfl
theorem te_335_4 : (pT M_335).find? (fun e => e.1 == 4) = some (4, .iload_n 2, 0, 0) := rfl
theorem te_335_5 : (pT M_335).find? (fun e => e.1 == 5) = some (5, .aload_n 0, 0, 0) := rfl
theorem te_335_6 : (pT M_335).find? (fun e => e.1 == 6) = some (6, .getfield 108, 10, 1) := rfl
theorem te_335_9 : (pT M_335).find? (fun e => e.1 == 9) = some (9, .if_icmp .ge 17, 0, 0) := rfl
theorem te_335_12 : (pT M_335).find? (fun e => e.1 == 12) = some (12, .iload_n 1, 0, 0) := rfl
theorem te_335_13 : (pT M_335).find? (fun e => e.1 == 13) = some (13, .aload_n 0, 0, 0) := rfl
theorem te_335_14 : (pT M_335).find? (fun e => e.1 == 14) = some (14, .iload_n 2, 0, 0) := rfl
theorem te_335_15 : (pT M_335).find? (fun e => e.1 == 15) = some (15, .invokevirtual 148, 246, 0) := rfl
theorem te_335_18 : (pT M_335).find? (fun e => e.1 == 18) = some (18, .iadd, 0, 0) := rfl
theorem te_335_19 : (pT M_335).find? (fun e => e.1 == 19) = some (19, .istore_n 1, 0, 0) := rfl
theorem te_335_20 : (pT M_335).find? (fun e => e.1 == 20) = some (20, .iinc 2 1, 0, 0) := rfl
theorem te_335_23 : (pT M_335).find? (fun e => e.1 == 23) = some (23, .goto (-19), 0, 0) := rfl
theorem te_335_26 : (pT M_335).find? (fun e => e.1 == 26) = some (26, .iload_n 1, 0, 0) := rfl
theorem te_335_27 : (pT M_335).find? (fun e => e.1 == 27) = some (27, .ireturn, 0, 0) := rfl
theorem te_343_0 : (pT M_343).find? (fun e => e.1 == 0) = some (0, .aload_n 0, 0, 0) := rfl
theorem te_343_1 : (pT M_343).find? (fun e => e.1 == 1) = some (1, .aload_n 0, 0, 0) := rfl
theorem te_343_2 : (pT M_343).find? (fun e => e.1 == 2) = some (2, .invokevirtual 137, 240, 0) := rfl
theorem te_343_5 : (pT M_343).find? (fun e => e.1 == 5) = some (5, .ifCond .eq 7, 0, 0) := rfl
theorem te_343_8 : (pT M_343).find? (fun e => e.1 == 8) = some (8, .iconst 0, 0, 0) := rfl
theorem te_343_9 : (pT M_343).find? (fun e => e.1 == 9) = some (9, .goto 4, 0, 0) := rfl
theorem te_343_12 : (pT M_343).find? (fun e => e.1 == 12) = some (12, .iconst 1, 0, 0) := rfl
theorem te_343_13 : (pT M_343).find? (fun e => e.1 == 13) = some (13, .putfield 101, 10, 0) := rfl
theorem te_343_16 : (pT M_343).find? (fun e => e.1 == 16) = some (16, .aload_n 0, 0, 0) := rfl
theorem te_343_17 : (pT M_343).find? (fun e => e.1 == 17) = some (17, .getfield 101, 10, 0) := rfl
theorem te_343_20 : (pT M_343).find? (fun e => e.1 == 20) = some (20, .ifCond .le 5, 0, 0) := rfl
theorem te_343_23 : (pT M_343).find? (fun e => e.1 == 23) = some (23, .iconst 0, 0, 0) := rfl
theorem te_343_24 : (pT M_343).find? (fun e => e.1 == 24) = some (24, .ireturn, 0, 0) := rfl
theorem te_343_25 : (pT M_343).find? (fun e => e.1 == 25) = some (25, .aload_n 0, 0, 0) := rfl
theorem te_343_26 : (pT M_343).find? (fun e => e.1 == 26) = some (26, .invokevirtual 396, 344, 0) := rfl
theorem te_343_29 : (pT M_343).find? (fun e => e.1 == 29) = some (29, .iload_n 1, 0, 0) := rfl
theorem te_343_30 : (pT M_343).find? (fun e => e.1 == 30) = some (30, .ifCond .eq 10, 0, 0) := rfl
theorem te_343_33 : (pT M_343).find? (fun e => e.1 == 33) = some (33, .aload_n 0, 0, 0) := rfl
theorem te_343_34 : (pT M_343).find? (fun e => e.1 == 34) = some (34, .getfield 378, 10, 32) := rfl
theorem te_343_37 : (pT M_343).find? (fun e => e.1 == 37) = some (37, .goto 7, 0, 0) := rfl
theorem te_343_40 : (pT M_343).find? (fun e => e.1 == 40) = some (40, .aload_n 0, 0, 0) := rfl
theorem te_343_41 : (pT M_343).find? (fun e => e.1 == 41) = some (41, .getfield 381, 10, 31) := rfl
theorem te_343_44 : (pT M_343).find? (fun e => e.1 == 44) = some (44, .ireturn, 0, 0) := rfl
theorem te_348_0 : (pT M_348).find? (fun e => e.1 == 0) = some (0, .aload_n 0, 0, 0) := rfl
theorem te_348_1 : (pT M_348).find? (fun e => e.1 == 1) = some (1, .aload_n 0, 0, 0) := rfl
theorem te_348_2 : (pT M_348).find? (fun e => e.1 == 2) = some (2, .invokevirtual 137, 240, 0) := rfl
theorem te_348_5 : (pT M_348).find? (fun e => e.1 == 5) = some (5, .ifCond .eq 7, 0, 0) := rfl
theorem te_348_8 : (pT M_348).find? (fun e => e.1 == 8) = some (8, .iconst 0, 0, 0) := rfl
theorem te_348_9 : (pT M_348).find? (fun e => e.1 == 9) = some (9, .goto 4, 0, 0) := rfl
theorem te_348_12 : (pT M_348).find? (fun e => e.1 == 12) = some (12, .iconst 1, 0, 0) := rfl
theorem te_348_13 : (pT M_348).find? (fun e => e.1 == 13) = some (13, .putfield 101, 10, 0) := rfl
theorem te_348_16 : (pT M_348).find? (fun e => e.1 == 16) = some (16, .aload_n 0, 0, 0) := rfl
theorem te_348_17 : (pT M_348).find? (fun e => e.1 == 17) = some (17, .getfield 101, 10, 0) := rfl
theorem te_348_20 : (pT M_348).find? (fun e => e.1 == 20) = some (20, .ifCond .le 5, 0, 0) := rfl
theorem te_348_23 : (pT M_348).find? (fun e => e.1 == 23) = some (23, .iconst 0, 0, 0) := rfl
theorem te_348_24 : (pT M_348).find? (fun e => e.1 == 24) = some (24, .ireturn, 0, 0) := rfl
theorem te_348_25 : (pT M_348).find? (fun e => e.1 == 25) = some (25, .aload_n 0, 0, 0) := rfl
theorem te_348_26 : (pT M_348).find? (fun e => e.1 == 26) = some (26, .invokevirtual 396, 344, 0) := rfl
theorem te_348_29 : (pT M_348).find? (fun e => e.1 == 29) = some (29, .aload_n 0, 0, 0) := rfl
theorem te_348_30 : (pT M_348).find? (fun e => e.1 == 30) = some (30, .getfield 384, 10, 33) := rfl
theorem te_348_33 : (pT M_348).find? (fun e => e.1 == 33) = some (33, .ireturn, 0, 0) := rfl
theorem te_349_0 : (pT M_349).find? (fun e => e.1 == 0) = some (0, .aload_n 0, 0, 0) := rfl
theorem te_349_1 : (pT M_349).find? (fun e => e.1 == 1) = some (1, .iload_n 1, 0, 0) := rfl
theorem te_349_2 : (pT M_349).find? (fun e => e.1 == 2) = some (2, .iconst 1, 0, 0) := rfl
theorem te_349_3 : (pT M_349).find? (fun e => e.1 == 3) = some (3, .iconst 4, 0, 0) := rfl
theorem te_349_4 : (pT M_349).find? (fun e => e.1 == 4) = some (4, .invokestatic 104, 227, 2) := rfl
theorem te_349_7 : (pT M_349).find? (fun e => e.1 == 7) = some (7, .ifCond .ne 7, 0, 0) := rfl
theorem te_349_10 : (pT M_349).find? (fun e => e.1 == 10) = some (10, .iconst 1, 0, 0) := rfl
theorem te_349_11 : (pT M_349).find? (fun e => e.1 == 11) = some (11, .goto 15, 0, 0) := rfl
theorem te_349_14 : (pT M_349).find? (fun e => e.1 == 14) = some (14, .aload_n 0, 0, 0) := rfl
theorem te_349_15 : (pT M_349).find? (fun e => e.1 == 15) = some (15, .invokevirtual 137, 240, 0) := rfl
theorem te_349_18 : (pT M_349).find? (fun e => e.1 == 18) = some (18, .ifCond .ne 7, 0, 0) := rfl
theorem te_349_21 : (pT M_349).find? (fun e => e.1 == 21) = some (21, .iconst 2, 0, 0) := rfl
theorem te_349_22 : (pT M_349).find? (fun e => e.1 == 22) = some (22, .goto 4, 0, 0) := rfl
theorem te_349_25 : (pT M_349).find? (fun e => e.1 == 25) = some (25, .iconst 0, 0, 0) := rfl
theorem te_349_26 : (pT M_349).find? (fun e => e.1 == 26) = some (26, .putfield 101, 10, 0) := rfl
theorem te_349_29 : (pT M_349).find? (fun e => e.1 == 29) = some (29, .aload_n 0, 0, 0) := rfl
theorem te_349_30 : (pT M_349).find? (fun e => e.1 == 30) = some (30, .getfield 101, 10, 0) := rfl
theorem te_349_33 : (pT M_349).find? (fun e => e.1 == 33) = some (33, .ifCond .le 5, 0, 0) := rfl
theorem te_349_36 : (pT M_349).find? (fun e => e.1 == 36) = some (36, .iconst 0, 0, 0) := rfl
theorem te_349_37 : (pT M_349).find? (fun e => e.1 == 37) = some (37, .ireturn, 0, 0) := rfl
theorem te_349_38 : (pT M_349).find? (fun e => e.1 == 38) = some (38, .aload_n 0, 0, 0) := rfl
theorem te_349_39 : (pT M_349).find? (fun e => e.1 == 39) = some (39, .invokevirtual 396, 344, 0) := rfl
theorem te_349_42 : (pT M_349).find? (fun e => e.1 == 42) = some (42, .aload_n 0, 0, 0) := rfl
theorem te_349_43 : (pT M_349).find? (fun e => e.1 == 43) = some (43, .iload_n 1, 0, 0) := rfl
theorem te_349_44 : (pT M_349).find? (fun e => e.1 == 44) = some (44, .invokevirtual 399, 350, 0) := rfl
theorem te_349_47 : (pT M_349).find? (fun e => e.1 == 47) = some (47, .ireturn, 0, 0) := rfl
theorem te_350_0 : (pT M_350).find? (fun e => e.1 == 0) = some (0, .iconst 1, 0, 0) := rfl
theorem te_350_1 : (pT M_350).find? (fun e => e.1 == 1) = some (1, .iload_n 1, 0, 0) := rfl
theorem te_350_2 : (pT M_350).find? (fun e => e.1 == 2) = some (2, .aload_n 0, 0, 0) := rfl
theorem te_350_3 : (pT M_350).find? (fun e => e.1 == 3) = some (3, .getfield 381, 10, 31) := rfl
theorem te_350_6 : (pT M_350).find? (fun e => e.1 == 6) = some (6, .imul, 0, 0) := rfl
theorem te_350_7 : (pT M_350).find? (fun e => e.1 == 7) = some (7, .aload_n 0, 0, 0) := rfl
theorem te_350_8 : (pT M_350).find? (fun e => e.1 == 8) = some (8, .getfield 378, 10, 32) := rfl
theorem te_350_11 : (pT M_350).find? (fun e => e.1 == 11) = some (11, .invokestatic 192, 275, 2) := rfl
theorem te_350_14 : (pT M_350).find? (fun e => e.1 == 14) = some (14, .invokestatic 167, 257, 2) := rfl
theorem te_350_17 : (pT M_350).find? (fun e => e.1 == 17) = some (17, .istore_n 2, 0, 0) := rfl
theorem te_350_18 : (pT M_350).find? (fun e => e.1 == 18) = some (18, .iconst 0, 0, 0) := rfl
theorem te_350_19 : (pT M_350).find? (fun e => e.1 == 19) = some (19, .istore_n 3, 0, 0) := rfl
theorem te_350_20 : (pT M_350).find? (fun e => e.1 == 20) = some (20, .iload_n 3, 0, 0) := rfl
theorem te_350_21 : (pT M_350).find? (fun e => e.1 == 21) = some (21, .iconst 3, 0, 0) := rfl
theorem te_350_22 : (pT M_350).find? (fun e => e.1 == 22) = some (22, .if_icmp .ge 30, 0, 0) := rfl
theorem te_350_25 : (pT M_350).find? (fun e => e.1 == 25) = some (25, .iload_n 2, 0, 0) := rfl
theorem te_350_26 : (pT M_350).find? (fun e => e.1 == 26) = some (26, .iload_n 1, 0, 0) := rfl
theorem te_350_27 : (pT M_350).find? (fun e => e.1 == 27) = some (27, .aload_n 0, 0, 0) := rfl
theorem te_350_28 : (pT M_350).find? (fun e => e.1 == 28) = some (28, .iload_n 3, 0, 0) := rfl
theorem te_350_29 : (pT M_350).find? (fun e => e.1 == 29) = some (29, .invokevirtual 189, 263, 0) := rfl
theorem te_350_32 : (pT M_350).find? (fun e => e.1 == 32) = some (32, .imul, 0, 0) := rfl
theorem te_350_33 : (pT M_350).find? (fun e => e.1 == 33) = some (33, .aload_n 0, 0, 0) := rfl
theorem te_350_34 : (pT M_350).find? (fun e => e.1 == 34) = some (34, .getfield 37, 10, 11) := rfl
theorem te_350_37 : (pT M_350).find? (fun e => e.1 == 37) = some (37, .iload_n 3, 0, 0) := rfl
theorem te_350_38 : (pT M_350).find? (fun e => e.1 == 38) = some (38, .iaload, 0, 0) := rfl
theorem te_350_39 : (pT M_350).find? (fun e => e.1 == 39) = some (39, .invokestatic 192, 275, 2) := rfl
theorem te_350_42 : (pT M_350).find? (fun e => e.1 == 42) = some (42, .invokestatic 167, 257, 2) := rfl
theorem te_350_45 : (pT M_350).find? (fun e => e.1 == 45) = some (45, .istore_n 2, 0, 0) := rfl
theorem te_350_46 : (pT M_350).find? (fun e => e.1 == 46) = some (46, .iinc 3 1, 0, 0) := rfl
theorem te_350_49 : (pT M_350).find? (fun e => e.1 == 49) = some (49, .goto (-29), 0, 0) := rfl
theorem te_350_52 : (pT M_350).find? (fun e => e.1 == 52) = some (52, .iload_n 2, 0, 0) := rfl
theorem te_350_53 : (pT M_350).find? (fun e => e.1 == 53) = some (53, .ireturn, 0, 0) := rfl
theorem te_351_0 : (pT M_351).find? (fun e => e.1 == 0) = some (0, .aload_n 0, 0, 0) := rfl
theorem te_351_1 : (pT M_351).find? (fun e => e.1 == 1) = some (1, .aload_n 0, 0, 0) := rfl
theorem te_351_2 : (pT M_351).find? (fun e => e.1 == 2) = some (2, .invokevirtual 137, 240, 0) := rfl
theorem te_351_5 : (pT M_351).find? (fun e => e.1 == 5) = some (5, .ifCond .eq 7, 0, 0) := rfl
theorem te_351_8 : (pT M_351).find? (fun e => e.1 == 8) = some (8, .iconst 0, 0, 0) := rfl
theorem te_351_9 : (pT M_351).find? (fun e => e.1 == 9) = some (9, .goto 4, 0, 0) := rfl
theorem te_351_12 : (pT M_351).find? (fun e => e.1 == 12) = some (12, .iconst 1, 0, 0) := rfl
theorem te_351_13 : (pT M_351).find? (fun e => e.1 == 13) = some (13, .putfield 101, 10, 0) := rfl
theorem te_351_16 : (pT M_351).find? (fun e => e.1 == 16) = some (16, .aload_n 0, 0, 0) := rfl
theorem te_351_17 : (pT M_351).find? (fun e => e.1 == 17) = some (17, .getfield 101, 10, 0) := rfl
theorem te_351_20 : (pT M_351).find? (fun e => e.1 == 20) = some (20, .ifCond .le 5, 0, 0) := rfl
theorem te_351_23 : (pT M_351).find? (fun e => e.1 == 23) = some (23, .iconst 0, 0, 0) := rfl
theorem te_351_24 : (pT M_351).find? (fun e => e.1 == 24) = some (24, .ireturn, 0, 0) := rfl
theorem te_351_25 : (pT M_351).find? (fun e => e.1 == 25) = some (25, .aload_n 0, 0, 0) := rfl
theorem te_351_26 : (pT M_351).find? (fun e => e.1 == 26) = some (26, .invokevirtual 396, 344, 0) := rfl
theorem te_351_29 : (pT M_351).find? (fun e => e.1 == 29) = some (29, .iconst 1, 0, 0) := rfl
theorem te_351_30 : (pT M_351).find? (fun e => e.1 == 30) = some (30, .istore_n 1, 0, 0) := rfl
theorem te_351_31 : (pT M_351).find? (fun e => e.1 == 31) = some (31, .iconst 2, 0, 0) := rfl
theorem te_351_32 : (pT M_351).find? (fun e => e.1 == 32) = some (32, .istore_n 2, 0, 0) := rfl
theorem te_351_33 : (pT M_351).find? (fun e => e.1 == 33) = some (33, .iload_n 2, 0, 0) := rfl
theorem te_351_34 : (pT M_351).find? (fun e => e.1 == 34) = some (34, .iconst 4, 0, 0) := rfl
theorem te_351_35 : (pT M_351).find? (fun e => e.1 == 35) = some (35, .if_icmp .gt 28, 0, 0) := rfl
theorem te_351_38 : (pT M_351).find? (fun e => e.1 == 38) = some (38, .aload_n 0, 0, 0) := rfl
theorem te_351_39 : (pT M_351).find? (fun e => e.1 == 39) = some (39, .iload_n 2, 0, 0) := rfl
theorem te_351_40 : (pT M_351).find? (fun e => e.1 == 40) = some (40, .invokevirtual 399, 350, 0) := rfl
theorem te_351_43 : (pT M_351).find? (fun e => e.1 == 43) = some (43, .iload_n 1, 0, 0) := rfl
theorem te_351_44 : (pT M_351).find? (fun e => e.1 == 44) = some (44, .imul, 0, 0) := rfl
theorem te_351_45 : (pT M_351).find? (fun e => e.1 == 45) = some (45, .aload_n 0, 0, 0) := rfl
theorem te_351_46 : (pT M_351).find? (fun e => e.1 == 46) = some (46, .iload_n 1, 0, 0) := rfl
theorem te_351_47 : (pT M_351).find? (fun e => e.1 == 47) = some (47, .invokevirtual 399, 350, 0) := rfl
theorem te_351_50 : (pT M_351).find? (fun e => e.1 == 50) = some (50, .iload_n 2, 0, 0) := rfl
theorem te_351_51 : (pT M_351).find? (fun e => e.1 == 51) = some (51, .imul, 0, 0) := rfl
theorem te_351_52 : (pT M_351).find? (fun e => e.1 == 52) = some (52, .if_icmp .ge 5, 0, 0) := rfl
theorem te_351_55 : (pT M_351).find? (fun e => e.1 == 55) = some (55, .iload_n 2, 0, 0) := rfl
theorem te_351_56 : (pT M_351).find? (fun e => e.1 == 56) = some (56, .istore_n 1, 0, 0) := rfl
theorem te_351_57 : (pT M_351).find? (fun e => e.1 == 57) = some (57, .iinc 2 1, 0, 0) := rfl
theorem te_351_60 : (pT M_351).find? (fun e => e.1 == 60) = some (60, .goto (-27), 0, 0) := rfl
theorem te_351_63 : (pT M_351).find? (fun e => e.1 == 63) = some (63, .iload_n 1, 0, 0) := rfl
theorem te_351_64 : (pT M_351).find? (fun e => e.1 == 64) = some (64, .ireturn, 0, 0) := rfl
theorem te_352_0 : (pT M_352).find? (fun e => e.1 == 0) = some (0, .aload_n 0, 0, 0) := rfl
theorem te_352_1 : (pT M_352).find? (fun e => e.1 == 1) = some (1, .iload_n 1, 0, 0) := rfl
theorem te_352_2 : (pT M_352).find? (fun e => e.1 == 2) = some (2, .iconst 0, 0, 0) := rfl
theorem te_352_3 : (pT M_352).find? (fun e => e.1 == 3) = some (3, .iconst 5, 0, 0) := rfl
theorem te_352_4 : (pT M_352).find? (fun e => e.1 == 4) = some (4, .invokestatic 104, 227, 2) := rfl
theorem te_352_7 : (pT M_352).find? (fun e => e.1 == 7) = some (7, .ifCond .ne 7, 0, 0) := rfl
theorem te_352_10 : (pT M_352).find? (fun e => e.1 == 10) = some (10, .iconst 1, 0, 0) := rfl
theorem te_352_11 : (pT M_352).find? (fun e => e.1 == 11) = some (11, .goto 25, 0, 0) := rfl
theorem te_352_14 : (pT M_352).find? (fun e => e.1 == 14) = some (14, .aload_n 0, 0, 0) := rfl
theorem te_352_15 : (pT M_352).find? (fun e => e.1 == 15) = some (15, .invokevirtual 137, 240, 0) := rfl
theorem te_352_18 : (pT M_352).find? (fun e => e.1 == 18) = some (18, .ifCond .eq 13, 0, 0) := rfl
theorem te_352_21 : (pT M_352).find? (fun e => e.1 == 21) = some (21, .aload_n 0, 0, 0) := rfl
theorem te_352_22 : (pT M_352).find? (fun e => e.1 == 22) = some (22, .getfield 31, 10, 9) := rfl
theorem te_352_25 : (pT M_352).find? (fun e => e.1 == 25) = some (25, .iload_n 1, 0, 0) := rfl
theorem te_352_26 : (pT M_352).find? (fun e => e.1 == 26) = some (26, .iaload, 0, 0) := rfl
theorem te_352_27 : (pT M_352).find? (fun e => e.1 == 27) = some (27, .iconst 1, 0, 0) := rfl
theorem te_352_28 : (pT M_352).find? (fun e => e.1 == 28) = some (28, .if_icmp .ne 7, 0, 0) := rfl
theorem te_352_31 : (pT M_352).find? (fun e => e.1 == 31) = some (31, .iconst 2, 0, 0) := rfl
theorem te_352_32 : (pT M_352).find? (fun e => e.1 == 32) = some (32, .goto 4, 0, 0) := rfl
theorem te_352_35 : (pT M_352).find? (fun e => e.1 == 35) = some (35, .iconst 0, 0, 0) := rfl
theorem te_352_36 : (pT M_352).find? (fun e => e.1 == 36) = some (36, .putfield 101, 10, 0) := rfl
theorem te_352_39 : (pT M_352).find? (fun e => e.1 == 39) = some (39, .aload_n 0, 0, 0) := rfl
theorem te_352_40 : (pT M_352).find? (fun e => e.1 == 40) = some (40, .getfield 101, 10, 0) := rfl
theorem te_352_43 : (pT M_352).find? (fun e => e.1 == 43) = some (43, .ifCond .le 5, 0, 0) := rfl
theorem te_352_46 : (pT M_352).find? (fun e => e.1 == 46) = some (46, .iconst 0, 0, 0) := rfl
theorem te_352_47 : (pT M_352).find? (fun e => e.1 == 47) = some (47, .ireturn, 0, 0) := rfl
theorem te_352_48 : (pT M_352).find? (fun e => e.1 == 48) = some (48, .aload_n 0, 0, 0) := rfl
theorem te_352_49 : (pT M_352).find? (fun e => e.1 == 49) = some (49, .getfield 31, 10, 9) := rfl
theorem te_352_52 : (pT M_352).find? (fun e => e.1 == 52) = some (52, .iload_n 1, 0, 0) := rfl
theorem te_352_53 : (pT M_352).find? (fun e => e.1 == 53) = some (53, .dup2, 0, 0) := rfl
theorem te_352_54 : (pT M_352).find? (fun e => e.1 == 54) = some (54, .iaload, 0, 0) := rfl
theorem te_352_55 : (pT M_352).find? (fun e => e.1 == 55) = some (55, .iconst 1, 0, 0) := rfl
theorem te_352_56 : (pT M_352).find? (fun e => e.1 == 56) = some (56, .isub, 0, 0) := rfl
theorem te_352_57 : (pT M_352).find? (fun e => e.1 == 57) = some (57, .iastore, 0, 0) := rfl
theorem te_352_58 : (pT M_352).find? (fun e => e.1 == 58) = some (58, .aload_n 0, 0, 0) := rfl
theorem te_352_59 : (pT M_352).find? (fun e => e.1 == 59) = some (59, .invokevirtual 402, 353, 0) := rfl
theorem te_352_62 : (pT M_352).find? (fun e => e.1 == 62) = some (62, .istore_n 2, 0, 0) := rfl
theorem te_352_63 : (pT M_352).find? (fun e => e.1 == 63) = some (63, .aload_n 0, 0, 0) := rfl
theorem te_352_64 : (pT M_352).find? (fun e => e.1 == 64) = some (64, .getfield 31, 10, 9) := rfl
theorem te_352_67 : (pT M_352).find? (fun e => e.1 == 67) = some (67, .iload_n 1, 0, 0) := rfl
theorem te_352_68 : (pT M_352).find? (fun e => e.1 == 68) = some (68, .dup2, 0, 0) := rfl
theorem te_352_69 : (pT M_352).find? (fun e => e.1 == 69) = some (69, .iaload, 0, 0) := rfl
theorem te_352_70 : (pT M_352).find? (fun e => e.1 == 70) = some (70, .iconst 1, 0, 0) := rfl
theorem te_352_71 : (pT M_352).find? (fun e => e.1 == 71) = some (71, .iadd, 0, 0) := rfl
theorem te_352_72 : (pT M_352).find? (fun e => e.1 == 72) = some (72, .iastore, 0, 0) := rfl
theorem te_352_73 : (pT M_352).find? (fun e => e.1 == 73) = some (73, .iload_n 2, 0, 0) := rfl
theorem te_352_74 : (pT M_352).find? (fun e => e.1 == 74) = some (74, .ireturn, 0, 0) := rfl
theorem te_353_0 : (pT M_353).find? (fun e => e.1 == 0) = some (0, .aload_n 0, 0, 0) := rfl
theorem te_353_1 : (pT M_353).find? (fun e => e.1 == 1) = some (1, .invokevirtual 164, 245, 0) := rfl
theorem te_353_4 : (pT M_353).find? (fun e => e.1 == 4) = some (4, .iconst 1, 0, 0) := rfl
theorem te_353_5 : (pT M_353).find? (fun e => e.1 == 5) = some (5, .aload_n 0, 0, 0) := rfl
theorem te_353_6 : (pT M_353).find? (fun e => e.1 == 6) = some (6, .invokevirtual 195, 255, 0) := rfl
theorem te_353_9 : (pT M_353).find? (fun e => e.1 == 9) = some (9, .aload_n 0, 0, 0) := rfl
theorem te_353_10 : (pT M_353).find? (fun e => e.1 == 10) = some (10, .invokevirtual 199, 354, 0) := rfl
theorem te_353_13 : (pT M_353).find? (fun e => e.1 == 13) = some (13, .invokestatic 167, 257, 2) := rfl
theorem te_353_16 : (pT M_353).find? (fun e => e.1 == 16) = some (16, .invokestatic 167, 257, 2) := rfl
theorem te_353_19 : (pT M_353).find? (fun e => e.1 == 19) = some (19, .ireturn, 0, 0) := rfl
theorem te_354_0 : (pT M_354).find? (fun e => e.1 == 0) = some (0, .iconst 0, 0, 0) := rfl
theorem te_354_1 : (pT M_354).find? (fun e => e.1 == 1) = some (1, .istore_n 1, 0, 0) := rfl
theorem te_354_2 : (pT M_354).find? (fun e => e.1 == 2) = some (2, .iconst 0, 0, 0) := rfl
theorem te_354_3 : (pT M_354).find? (fun e => e.1 == 3) = some (3, .istore_n 2, 0, 0) := rfl
theorem te_354_4 : (pT M_354).find? (fun e => e.1 == 4) = some (4, .iload_n 2, 0, 0) := rfl
theorem te_354_5 : (pT M_354).find? (fun e => e.1 == 5) = some (5, .iconst 3, 0, 0) := rfl
theorem te_354_6 : (pT M_354).find? (fun e => e.1 == 6) = some (6, .if_icmp .ge 28, 0, 0) := rfl
theorem te_354_9 : (pT M_354).find? (fun e => e.1 == 9) = some (9, .iload_n 1, 0, 0) := rfl
theorem te_354_10 : (pT M_354).find? (fun e => e.1 == 10) = some (10, .aload_n 0, 0, 0) := rfl
theorem te_354_11 : (pT M_354).find? (fun e => e.1 == 11) = some (11, .iload_n 2, 0, 0) := rfl
theorem te_354_12 : (pT M_354).find? (fun e => e.1 == 12) = some (12, .invokevirtual 189, 263, 0) := rfl
theorem te_354_15 : (pT M_354).find? (fun e => e.1 == 15) = some (15, .aload_n 0, 0, 0) := rfl
theorem te_354_16 : (pT M_354).find? (fun e => e.1 == 16) = some (16, .getfield 37, 10, 11) := rfl
theorem te_354_19 : (pT M_354).find? (fun e => e.1 == 19) = some (19, .iload_n 2, 0, 0) := rfl
theorem te_354_20 : (pT M_354).find? (fun e => e.1 == 20) = some (20, .iaload, 0, 0) := rfl
theorem te_354_21 : (pT M_354).find? (fun e => e.1 == 21) = some (21, .invokestatic 192, 275, 2) := rfl
theorem te_354_24 : (pT M_354).find? (fun e => e.1 == 24) = some (24, .invokestatic 167, 257, 2) := rfl
theorem te_354_27 : (pT M_354).find? (fun e => e.1 == 27) = some (27, .istore_n 1, 0, 0) := rfl
theorem te_354_28 : (pT M_354).find? (fun e => e.1 == 28) = some (28, .iinc 2 1, 0, 0) := rfl
theorem te_354_31 : (pT M_354).find? (fun e => e.1 == 31) = some (31, .goto (-27), 0, 0) := rfl
theorem te_354_34 : (pT M_354).find? (fun e => e.1 == 34) = some (34, .iload_n 1, 0, 0) := rfl
theorem te_354_35 : (pT M_354).find? (fun e => e.1 == 35) = some (35, .ireturn, 0, 0) := rfl
theorem te_355_0 : (pT M_355).find? (fun e => e.1 == 0) = some (0, .aload_n 0, 0, 0) := rfl
theorem te_355_1 : (pT M_355).find? (fun e => e.1 == 1) = some (1, .aload_n 0, 0, 0) := rfl
theorem te_355_2 : (pT M_355).find? (fun e => e.1 == 2) = some (2, .invokevirtual 137, 240, 0) := rfl
theorem te_355_5 : (pT M_355).find? (fun e => e.1 == 5) = some (5, .ifCond .eq 7, 0, 0) := rfl
theorem te_355_8 : (pT M_355).find? (fun e => e.1 == 8) = some (8, .iconst 0, 0, 0) := rfl
theorem te_355_9 : (pT M_355).find? (fun e => e.1 == 9) = some (9, .goto 4, 0, 0) := rfl
theorem te_355_12 : (pT M_355).find? (fun e => e.1 == 12) = some (12, .iconst 1, 0, 0) := rfl
theorem te_355_13 : (pT M_355).find? (fun e => e.1 == 13) = some (13, .putfield 101, 10, 0) := rfl
theorem te_355_16 : (pT M_355).find? (fun e => e.1 == 16) = some (16, .aload_n 0, 0, 0) := rfl
theorem te_355_17 : (pT M_355).find? (fun e => e.1 == 17) = some (17, .getfield 101, 10, 0) := rfl
theorem te_355_20 : (pT M_355).find? (fun e => e.1 == 20) = some (20, .ifCond .le 5, 0, 0) := rfl
theorem te_355_23 : (pT M_355).find? (fun e => e.1 == 23) = some (23, .iconst 0, 0, 0) := rfl
theorem te_355_24 : (pT M_355).find? (fun e => e.1 == 24) = some (24, .ireturn, 0, 0) := rfl
theorem te_355_25 : (pT M_355).find? (fun e => e.1 == 25) = some (25, .aload_n 0, 0, 0) := rfl
theorem te_355_26 : (pT M_355).find? (fun e => e.1 == 26) = some (26, .invokevirtual 164, 245, 0) := rfl
theorem te_355_29 : (pT M_355).find? (fun e => e.1 == 29) = some (29, .aload_n 0, 0, 0) := rfl
theorem te_355_30 : (pT M_355).find? (fun e => e.1 == 30) = some (30, .iload_n 1, 0, 0) := rfl
theorem te_355_31 : (pT M_355).find? (fun e => e.1 == 31) = some (31, .iconst 0, 0, 0) := rfl
theorem te_355_32 : (pT M_355).find? (fun e => e.1 == 32) = some (32, .aload_n 0, 0, 0) := rfl
theorem te_355_33 : (pT M_355).find? (fun e => e.1 == 33) = some (33, .getfield 141, 10, 12) := rfl
theorem te_355_36 : (pT M_355).find? (fun e => e.1 == 36) = some (36, .iconst 1, 0, 0) := rfl
theorem te_355_37 : (pT M_355).find? (fun e => e.1 == 37) = some (37, .isub, 0, 0) := rfl
theorem te_355_38 : (pT M_355).find? (fun e => e.1 == 38) = some (38, .invokestatic 104, 227, 2) := rfl
theorem te_355_41 : (pT M_355).find? (fun e => e.1 == 41) = some (41, .ifCond .eq 7, 0, 0) := rfl
theorem te_355_44 : (pT M_355).find? (fun e => e.1 == 44) = some (44, .iconst 0, 0, 0) := rfl
theorem te_355_45 : (pT M_355).find? (fun e => e.1 == 45) = some (45, .goto 4, 0, 0) := rfl
theorem te_355_48 : (pT M_355).find? (fun e => e.1 == 48) = some (48, .iconst 2, 0, 0) := rfl
theorem te_355_49 : (pT M_355).find? (fun e => e.1 == 49) = some (49, .putfield 101, 10, 0) := rfl
theorem te_355_52 : (pT M_355).find? (fun e => e.1 == 52) = some (52, .aload_n 0, 0, 0) := rfl
theorem te_355_53 : (pT M_355).find? (fun e => e.1 == 53) = some (53, .getfield 101, 10, 0) := rfl
theorem te_355_56 : (pT M_355).find? (fun e => e.1 == 56) = some (56, .ifCond .le 5, 0, 0) := rfl
theorem te_355_59 : (pT M_355).find? (fun e => e.1 == 59) = some (59, .iconst 0, 0, 0) := rfl
theorem te_355_60 : (pT M_355).find? (fun e => e.1 == 60) = some (60, .ireturn, 0, 0) := rfl
theorem te_355_61 : (pT M_355).find? (fun e => e.1 == 61) = some (61, .aload_n 0, 0, 0) := rfl
theorem te_355_62 : (pT M_355).find? (fun e => e.1 == 62) = some (62, .iload_n 1, 0, 0) := rfl
theorem te_355_63 : (pT M_355).find? (fun e => e.1 == 63) = some (63, .putfield 55, 10, 18) := rfl
theorem te_355_66 : (pT M_355).find? (fun e => e.1 == 66) = some (66, .aload_n 0, 0, 0) := rfl
theorem te_355_67 : (pT M_355).find? (fun e => e.1 == 67) = some (67, .invokevirtual 195, 255, 0) := rfl
theorem te_355_70 : (pT M_355).find? (fun e => e.1 == 70) = some (70, .istore_n 2, 0, 0) := rfl
theorem te_355_71 : (pT M_355).find? (fun e => e.1 == 71) = some (71, .aload_n 0, 0, 0) := rfl
theorem te_355_72 : (pT M_355).find? (fun e => e.1 == 72) = some (72, .iconst (-1), 0, 0) := rfl
theorem te_355_73 : (pT M_355).find? (fun e => e.1 == 73) = some (73, .putfield 55, 10, 18) := rfl
theorem te_355_76 : (pT M_355).find? (fun e => e.1 == 76) = some (76, .iload_n 2, 0, 0) := rfl
theorem te_355_77 : (pT M_355).find? (fun e => e.1 == 77) = some (77, .ireturn, 0, 0) := rfl
theorem te_357_0 : (pT M_357).find? (fun e => e.1 == 0) = some (0, .aload_n 0, 0, 0) := rfl
theorem te_357_1 : (pT M_357).find? (fun e => e.1 == 1) = some (1, .iload_n 1, 0, 0) := rfl
theorem te_357_2 : (pT M_357).find? (fun e => e.1 == 2) = some (2, .iconst 0, 0, 0) := rfl
theorem te_357_3 : (pT M_357).find? (fun e => e.1 == 3) = some (3, .iconst 2, 0, 0) := rfl
theorem te_357_4 : (pT M_357).find? (fun e => e.1 == 4) = some (4, .invokestatic 104, 227, 2) := rfl
theorem te_357_7 : (pT M_357).find? (fun e => e.1 == 7) = some (7, .ifCond .ne 7, 0, 0) := rfl
theorem te_357_10 : (pT M_357).find? (fun e => e.1 == 10) = some (10, .iconst 1, 0, 0) := rfl
theorem te_357_11 : (pT M_357).find? (fun e => e.1 == 11) = some (11, .goto 15, 0, 0) := rfl
theorem te_357_14 : (pT M_357).find? (fun e => e.1 == 14) = some (14, .aload_n 0, 0, 0) := rfl
theorem te_357_15 : (pT M_357).find? (fun e => e.1 == 15) = some (15, .invokevirtual 137, 240, 0) := rfl
theorem te_357_18 : (pT M_357).find? (fun e => e.1 == 18) = some (18, .ifCond .ne 7, 0, 0) := rfl
theorem te_357_21 : (pT M_357).find? (fun e => e.1 == 21) = some (21, .iconst 2, 0, 0) := rfl
theorem te_357_22 : (pT M_357).find? (fun e => e.1 == 22) = some (22, .goto 4, 0, 0) := rfl
theorem te_357_25 : (pT M_357).find? (fun e => e.1 == 25) = some (25, .iconst 0, 0, 0) := rfl
theorem te_357_26 : (pT M_357).find? (fun e => e.1 == 26) = some (26, .putfield 101, 10, 0) := rfl
theorem te_357_29 : (pT M_357).find? (fun e => e.1 == 29) = some (29, .aload_n 0, 0, 0) := rfl
theorem te_357_30 : (pT M_357).find? (fun e => e.1 == 30) = some (30, .getfield 101, 10, 0) := rfl
theorem te_357_33 : (pT M_357).find? (fun e => e.1 == 33) = some (33, .ifCond .le 5, 0, 0) := rfl
theorem te_357_36 : (pT M_357).find? (fun e => e.1 == 36) = some (36, .iconst 0, 0, 0) := rfl
theorem te_357_37 : (pT M_357).find? (fun e => e.1 == 37) = some (37, .ireturn, 0, 0) := rfl
theorem te_357_38 : (pT M_357).find? (fun e => e.1 == 38) = some (38, .aload_n 0, 0, 0) := rfl
theorem te_357_39 : (pT M_357).find? (fun e => e.1 == 39) = some (39, .getfield 37, 10, 11) := rfl
theorem te_357_42 : (pT M_357).find? (fun e => e.1 == 42) = some (42, .iload_n 1, 0, 0) := rfl
theorem te_357_43 : (pT M_357).find? (fun e => e.1 == 43) = some (43, .dup2, 0, 0) := rfl
theorem te_357_44 : (pT M_357).find? (fun e => e.1 == 44) = some (44, .iaload, 0, 0) := rfl
theorem te_357_45 : (pT M_357).find? (fun e => e.1 == 45) = some (45, .iconst 1, 0, 0) := rfl
theorem te_357_46 : (pT M_357).find? (fun e => e.1 == 46) = some (46, .iadd, 0, 0) := rfl
theorem te_357_47 : (pT M_357).find? (fun e => e.1 == 47) = some (47, .iastore, 0, 0) := rfl
theorem te_357_48 : (pT M_357).find? (fun e => e.1 == 48) = some (48, .aload_n 0, 0, 0) := rfl
theorem te_357_49 : (pT M_357).find? (fun e => e.1 == 49) = some (49, .invokevirtual 402, 353, 0) := rfl
theorem te_357_52 : (pT M_357).find? (fun e => e.1 == 52) = some (52, .istore_n 2, 0, 0) := rfl
theorem te_357_53 : (pT M_357).find? (fun e => e.1 == 53) = some (53, .aload_n 0, 0, 0) := rfl
theorem te_357_54 : (pT M_357).find? (fun e => e.1 == 54) = some (54, .getfield 37, 10, 11) := rfl
theorem te_357_57 : (pT M_357).find? (fun e => e.1 == 57) = some (57, .iload_n 1, 0, 0) := rfl
theorem te_357_58 : (pT M_357).find? (fun e => e.1 == 58) = some (58, .dup2, 0, 0) := rfl
theorem te_357_59 : (pT M_357).find? (fun e => e.1 == 59) = some (59, .iaload, 0, 0) := rfl
theorem te_357_60 : (pT M_357).find? (fun e => e.1 == 60) = some (60, .iconst 1, 0, 0) := rfl
theorem te_357_61 : (pT M_357).find? (fun e => e.1 == 61) = some (61, .isub, 0, 0) := rfl
theorem te_357_62 : (pT M_357).find? (fun e => e.1 == 62) = some (62, .iastore, 0, 0) := rfl
theorem te_357_63 : (pT M_357).find? (fun e => e.1 == 63) = some (63, .iload_n 2, 0, 0) := rfl
theorem te_357_64 : (pT M_357).find? (fun e => e.1 == 64) = some (64, .ireturn, 0, 0) := rfl
theorem te_366_0 : (pT M_366).find? (fun e => e.1 == 0) = some (0, .aload_n 0, 0, 0) := rfl
theorem te_366_1 : (pT M_366).find? (fun e => e.1 == 1) = some (1, .iconst 0, 0, 0) := rfl
theorem te_366_2 : (pT M_366).find? (fun e => e.1 == 2) = some (2, .putfield 101, 10, 0) := rfl
theorem te_366_5 : (pT M_366).find? (fun e => e.1 == 5) = some (5, .iload_n 1, 0, 0) := rfl
theorem te_366_6 : (pT M_366).find? (fun e => e.1 == 6) = some (6, .ifCond .ne 8, 0, 0) := rfl
theorem te_366_9 : (pT M_366).find? (fun e => e.1 == 9) = some (9, .aload_n 0, 0, 0) := rfl
theorem te_366_10 : (pT M_366).find? (fun e => e.1 == 10) = some (10, .getfield 108, 10, 1) := rfl
theorem te_366_13 : (pT M_366).find? (fun e => e.1 == 13) = some (13, .ireturn, 0, 0) := rfl
theorem te_366_14 : (pT M_366).find? (fun e => e.1 == 14) = some (14, .iload_n 1, 0, 0) := rfl
theorem te_366_15 : (pT M_366).find? (fun e => e.1 == 15) = some (15, .iconst 1, 0, 0) := rfl
theorem te_366_16 : (pT M_366).find? (fun e => e.1 == 16) = some (16, .iconst 4, 0, 0) := rfl
theorem te_366_17 : (pT M_366).find? (fun e => e.1 == 17) = some (17, .invokestatic 104, 227, 2) := rfl
theorem te_366_20 : (pT M_366).find? (fun e => e.1 == 20) = some (20, .ifCond .eq 9, 0, 0) := rfl
theorem te_366_23 : (pT M_366).find? (fun e => e.1 == 23) = some (23, .aload_n 0, 0, 0) := rfl
theorem te_366_24 : (pT M_366).find? (fun e => e.1 == 24) = some (24, .iload_n 1, 0, 0) := rfl
theorem te_366_25 : (pT M_366).find? (fun e => e.1 == 25) = some (25, .invokevirtual 414, 367, 0) := rfl
theorem te_366_28 : (pT M_366).find? (fun e => e.1 == 28) = some (28, .ireturn, 0, 0) := rfl
theorem te_366_29 : (pT M_366).find? (fun e => e.1 == 29) = some (29, .iload_n 1, 0, 0) := rfl
theorem te_366_30 : (pT M_366).find? (fun e => e.1 == 30) = some (30, .iconst 5, 0, 0) := rfl
theorem te_366_31 : (pT M_366).find? (fun e => e.1 == 31) = some (31, .if_icmp .ne 8, 0, 0) := rfl
theorem te_366_34 : (pT M_366).find? (fun e => e.1 == 34) = some (34, .aload_n 0, 0, 0) := rfl
theorem te_366_35 : (pT M_366).find? (fun e => e.1 == 35) = some (35, .invokevirtual 362, 335, 0) := rfl
theorem te_366_38 : (pT M_366).find? (fun e => e.1 == 38) = some (38, .ireturn, 0, 0) := rfl
theorem te_366_39 : (pT M_366).find? (fun e => e.1 == 39) = some (39, .iload_n 1, 0, 0) := rfl
theorem te_366_40 : (pT M_366).find? (fun e => e.1 == 40) = some (40, .bipush 6, 0, 0) := rfl
theorem te_366_42 : (pT M_366).find? (fun e => e.1 == 42) = some (42, .bipush 8, 0, 0) := rfl
theorem te_366_44 : (pT M_366).find? (fun e => e.1 == 44) = some (44, .invokestatic 104, 227, 2) := rfl
theorem te_366_47 : (pT M_366).find? (fun e => e.1 == 47) = some (47, .ifCond .eq 15, 0, 0) := rfl
theorem te_366_50 : (pT M_366).find? (fun e => e.1 == 50) = some (50, .aload_n 0, 0, 0) := rfl
theorem te_366_51 : (pT M_366).find? (fun e => e.1 == 51) = some (51, .getfield 37, 10, 11) := rfl
theorem te_366_54 : (pT M_366).find? (fun e => e.1 == 54) = some (54, .iload_n 1, 0, 0) := rfl
theorem te_366_55 : (pT M_366).find? (fun e => e.1 == 55) = some (55, .bipush 6, 0, 0) := rfl
theorem te_366_57 : (pT M_366).find? (fun e => e.1 == 57) = some (57, .isub, 0, 0) := rfl
theorem te_366_58 : (pT M_366).find? (fun e => e.1 == 58) = some (58, .iaload, 0, 0) := rfl
theorem te_366_59 : (pT M_366).find? (fun e => e.1 == 59) = some (59, .goto 4, 0, 0) := rfl
theorem te_366_62 : (pT M_366).find? (fun e => e.1 == 62) = some (62, .iconst (-1), 0, 0) := rfl
theorem te_366_63 : (pT M_366).find? (fun e => e.1 == 63) = some (63, .ireturn, 0, 0) := rfl
theorem te_367_0 : (pT M_367).find? (fun e => e.1 == 0) = some (0, .aload_n 0, 0, 0) := rfl
theorem te_367_1 : (pT M_367).find? (fun e => e.1 == 1) = some (1, .invokevirtual 137, 240, 0) := rfl
theorem te_367_4 : (pT M_367).find? (fun e => e.1 == 4) = some (4, .ifCond .ne 5, 0, 0) := rfl
theorem te_367_7 : (pT M_367).find? (fun e => e.1 == 7) = some (7, .iconst (-1), 0, 0) := rfl
theorem te_367_8 : (pT M_367).find? (fun e => e.1 == 8) = some (8, .ireturn, 0, 0) := rfl
theorem te_367_9 : (pT M_367).find? (fun e => e.1 == 9) = some (9, .aload_n 0, 0, 0) := rfl
theorem te_367_10 : (pT M_367).find? (fun e => e.1 == 10) = some (10, .invokevirtual 402, 353, 0) := rfl
theorem te_367_13 : (pT M_367).find? (fun e => e.1 == 13) = some (13, .istore_n 2, 0, 0) := rfl
theorem te_367_14 : (pT M_367).find? (fun e => e.1 == 14) = some (14, .iload_n 1, 0, 0) := rfl
theorem te_367_15 : (pT M_367).find? (fun e => e.1 == 15) = some (15, .iconst 1, 0, 0) := rfl
theorem te_367_16 : (pT M_367).find? (fun e => e.1 == 16) = some (16, .if_icmp .ne 10, 0, 0) := rfl
theorem te_367_19 : (pT M_367).find? (fun e => e.1 == 19) = some (19, .aload_n 0, 0, 0) := rfl
theorem te_367_20 : (pT M_367).find? (fun e => e.1 == 20) = some (20, .getfield 141, 10, 12) := rfl
theorem te_367_23 : (pT M_367).find? (fun e => e.1 == 23) = some (23, .goto 28, 0, 0) := rfl
theorem te_367_26 : (pT M_367).find? (fun e => e.1 == 26) = some (26, .iload_n 1, 0, 0) := rfl
theorem te_367_27 : (pT M_367).find? (fun e => e.1 == 27) = some (27, .iconst 2, 0, 0) := rfl
theorem te_367_28 : (pT M_367).find? (fun e => e.1 == 28) = some (28, .if_icmp .ne 10, 0, 0) := rfl
theorem te_367_31 : (pT M_367).find? (fun e => e.1 == 31) = some (31, .aload_n 0, 0, 0) := rfl
theorem te_367_32 : (pT M_367).find? (fun e => e.1 == 32) = some (32, .invokevirtual 195, 255, 0) := rfl
theorem te_367_35 : (pT M_367).find? (fun e => e.1 == 35) = some (35, .goto 16, 0, 0) := rfl
theorem te_367_38 : (pT M_367).find? (fun e => e.1 == 38) = some (38, .iload_n 1, 0, 0) := rfl
theorem te_367_39 : (pT M_367).find? (fun e => e.1 == 39) = some (39, .iconst 3, 0, 0) := rfl
theorem te_367_40 : (pT M_367).find? (fun e => e.1 == 40) = some (40, .if_icmp .ne 10, 0, 0) := rfl
theorem te_367_43 : (pT M_367).find? (fun e => e.1 == 43) = some (43, .aload_n 0, 0, 0) := rfl
theorem te_367_44 : (pT M_367).find? (fun e => e.1 == 44) = some (44, .invokevirtual 199, 354, 0) := rfl
theorem te_367_47 : (pT M_367).find? (fun e => e.1 == 47) = some (47, .goto 4, 0, 0) := rfl
theorem te_367_50 : (pT M_367).find? (fun e => e.1 == 50) = some (50, .iload_n 2, 0, 0) := rfl
theorem te_367_51 : (pT M_367).find? (fun e => e.1 == 51) = some (51, .ireturn, 0, 0) := rfl
theorem w_266_0 {C : CXW} (hC : Cmono C) {S : Nat × (Nat → Int32)} {K : WK} {mem : MM} {x0 : Int} (H : (Wx C S M_266 K 4 [some (.inl x0), some (.inl 0), some (.inl x0)] [] mem)) : Wx C S M_266 K 0 [some (.inl x0), none, none] [] mem := by
  refine Wx.iconst hC te_266_0 rfl ?_
  refine Wx.istore_n hC te_266_1 rfl ?_
  refine Wx.iload_n hC te_266_2 rfl ?_
  refine Wx.istore_n hC te_266_3 rfl ?_
  exact H
theorem w_266_4 {C : CXW} (hC : Cmono C) {S : Nat × (Nat → Int32)} {K : WK} {mem : MM} {x0 x1 x2 : Int} (H : ((x2 = 0 → (InI x1 → K (some x1) mem)) ∧ (¬ (x2 = 0) → (InI (x1 + 1)) ∧ (InI (x2 - 1)) ∧ ∀ b1 : Int, b1 = ((fun (x y : Int32) => x &&& y) (Int32.ofInt x2) (Int32.ofInt (x2 - 1))).toInt → InI b1 → (Wx C S M_266 K 4 [some (.inl x0), some (.inl (x1 + 1)), some (.inl b1)] [] mem)))) : Wx C S M_266 K 4 [some (.inl x0), some (.inl x1), some (.inl x2)] [] mem := by
  refine Wx.iload_n hC te_266_4 rfl ?_
  refine Wx.ifc hC (t := 20) te_266_5 (by decide) (fun q => ?_) (fun q => ?_)
  · replace H := H.1 q
    refine Wx.iload_n hC te_266_20 rfl ?_
    exact Wx.ireturn hC te_266_21 rfl H
  · replace H := H.2 q
    refine Wx.iinc hC te_266_8 rfl rfl H.1 ?_
    replace H := H.2
    refine Wx.iload_n hC te_266_11 rfl ?_
    refine Wx.iload_n hC te_266_12 rfl ?_
    refine Wx.iconst hC te_266_13 rfl ?_
    refine Wx.isub hC te_266_14 H.1 ?_
    replace H := H.2
    refine Wx.bits hC (f := (fun (x y : Int32) => x &&& y)) te_266_15 (fun _ _ _ _ => Iff.rfl) (fun b1 e1 e2 => ?_)
    replace H := H b1 e1 e2
    refine Wx.istore_n hC te_266_16 rfl ?_
    refine Wx.goto hC (t := 4) te_266_17 (by decide) ?_
    exact H
theorem w_263_0 {C : CXW} (hC : Cmono C) {S : Nat × (Nat → Int32)} {K : WK} {mem : MM} {x1 : Int} (H : (Wx C S M_263 K 4 [some (.inr 143), some (.inl x1), some (.inl 0), some (.inl 0)] [] mem)) : Wx C S M_263 K 0 [some (.inr 143), some (.inl x1), none, none] [] mem := by
  refine Wx.iconst hC te_263_0 rfl ?_
  refine Wx.istore_n hC te_263_1 rfl ?_
  refine Wx.iconst hC te_263_2 rfl ?_
  refine Wx.istore_n hC te_263_3 rfl ?_
  exact H
theorem w_263_4 {C : CXW} (hC : Cmono C) {S : Nat × (Nat → Int32)} {K : WK} {mem : MM} {x1 x2 x3 : Int} (H : ∀ v1 : Int, v1 = mem 143 1 → InI v1 → ((v1 ≤ x3 → (InI x2 → K (some x2) mem)) ∧ (¬ (v1 ≤ x3) → (CWI C 264 [.inr 143, .inl x3] mem fun r3 m2 => InI r3 → ((¬ r3 = x1 → (InI (x2 + 0)) ∧ (InI (x3 + 1)) ∧ (Wx C S M_263 K 4 [some (.inr 143), some (.inl x1), some (.inl (x2 + 0)), some (.inl (x3 + 1))] [] m2)) ∧ (¬ (¬ r3 = x1) → (CWI C 265 [.inr 143, .inl x3] m2 fun r5 m4 => InI r5 → (CWI C 266 [.inl r5] m4 fun r7 m6 => InI r7 → (InI (x2 + r7)) ∧ (InI (x3 + 1)) ∧ (Wx C S M_263 K 4 [some (.inr 143), some (.inl x1), some (.inl (x2 + r7)), some (.inl (x3 + 1))] [] m6))))))))) : Wx C S M_263 K 4 [some (.inr 143), some (.inl x1), some (.inl x2), some (.inl x3)] [] mem := by
  refine Wx.iload_n hC te_263_4 rfl ?_
  refine Wx.aload_n hC te_263_5 rfl ?_
  refine Wx.getI hC te_263_6 rfl rfl rfl (fun v1 e1 e2 => ?_)
  replace H := H v1 e1 e2
  refine Wx.icmp hC (t := 42) te_263_9 (by decide) (fun q => ?_) (fun q => ?_)
  · replace H := H.1 q
    refine Wx.iload_n hC te_263_42 rfl ?_
    exact Wx.ireturn hC te_263_43 rfl H
  · replace H := H.2 q
    refine Wx.iload_n hC te_263_12 rfl ?_
    refine Wx.aload_n hC te_263_13 rfl ?_
    refine Wx.iload_n hC te_263_14 rfl ?_
    refine Wx.virtI hC te_263_15 mt_264 (args := [.inr 143, .inl x3]) (rest := [.inl x2]) rfl rfl rfl rfl rfl rfl rfl rfl ?_
    refine CWI.mono hC (fun r3 m2 H hy => ?_) H
    replace H := H hy
    refine Wx.iload_n hC te_263_18 rfl ?_
    refine Wx.icmp hC (t := 33) te_263_19 (by decide) (fun q => ?_) (fun q => ?_)
    · replace H := H.1 q
      refine Wx.iconst hC te_263_33 rfl ?_
      refine Wx.iadd hC te_263_34 H.1 ?_
      replace H := H.2
      refine Wx.istore_n hC te_263_35 rfl ?_
      refine Wx.iinc hC te_263_36 rfl rfl H.1 ?_
      replace H := H.2
      refine Wx.goto hC (t := 4) te_263_39 (by decide) ?_
      exact H
    · replace H := H.2 q
      refine Wx.aload_n hC te_263_22 rfl ?_
      refine Wx.iload_n hC te_263_23 rfl ?_
      refine Wx.virtI hC te_263_24 mt_265 (args := [.inr 143, .inl x3]) (rest := [.inl x2]) rfl rfl rfl rfl rfl rfl rfl rfl ?_
      refine CWI.mono hC (fun r5 m4 H hy => ?_) H
      replace H := H hy
      refine Wx.statI hC te_263_27 (by decide) mt_266 (args := [.inl r5]) (rest := [.inl x2]) rfl rfl rfl rfl rfl ?_
      refine CWI.mono hC (fun r7 m6 H hy => ?_) H
      replace H := H hy
      refine Wx.goto hC (t := 34) te_263_30 (by decide) ?_
      refine Wx.iadd hC te_263_34 H.1 ?_
      replace H := H.2
      refine Wx.istore_n hC te_263_35 rfl ?_
      refine Wx.iinc hC te_263_36 rfl rfl H.1 ?_
      replace H := H.2
      refine Wx.goto hC (t := 4) te_263_39 (by decide) ?_
      exact H
theorem w_354_0 {C : CXW} (hC : Cmono C) {S : Nat × (Nat → Int32)} {K : WK} {mem : MM} (H : (Wx C S M_354 K 4 [some (.inr 143), some (.inl 0), some (.inl 0)] [] mem)) : Wx C S M_354 K 0 [some (.inr 143), none, none] [] mem := by
  refine Wx.iconst hC te_354_0 rfl ?_
  refine Wx.istore_n hC te_354_1 rfl ?_
  refine Wx.iconst hC te_354_2 rfl ?_
  refine Wx.istore_n hC te_354_3 rfl ?_
  exact H
theorem w_354_4 {C : CXW} (hC : Cmono C) {S : Nat × (Nat → Int32)} {K : WK} {mem : MM} {x1 x2 : Int} (H : ((3 ≤ x2 → (InI x1 → K (some x1) mem)) ∧ (¬ (3 ≤ x2) → (CWI C 263 [.inr 143, .inl x2] mem fun r2 m1 => InI r2 → ((0 : Int) ≤ x2 ∧ (x2 : Int) < 3) ∧ ∀ v3 : Int, v3 = m1 153 (Int.toNat x2) → InI v3 → (CWI C 275 [.inl r2, .inl v3] m1 fun r5 m4 => InI r5 → (CWI C 257 [.inl x1, .inl r5] m4 fun r7 m6 => InI r7 → (InI (x2 + 1)) ∧ (Wx C S M_354 K 4 [some (.inr 143), some (.inl r7), some (.inl (x2 + 1))] [] m6))))))) : Wx C S M_354 K 4 [some (.inr 143), some (.inl x1), some (.inl x2)] [] mem := by
  refine Wx.iload_n hC te_354_4 rfl ?_
  refine Wx.iconst hC te_354_5 rfl ?_
  refine Wx.icmp hC (t := 34) te_354_6 (by decide) (fun q => ?_) (fun q => ?_)
  · replace H := H.1 q
    refine Wx.iload_n hC te_354_34 rfl ?_
    exact Wx.ireturn hC te_354_35 rfl H
  · replace H := H.2 q
    refine Wx.iload_n hC te_354_9 rfl ?_
    refine Wx.aload_n hC te_354_10 rfl ?_
    refine Wx.iload_n hC te_354_11 rfl ?_
    refine Wx.virtI hC te_354_12 mt_263 (args := [.inr 143, .inl x2]) (rest := [.inl x1]) rfl rfl rfl rfl rfl rfl rfl rfl ?_
    refine CWI.mono hC (fun r2 m1 H hy => ?_) H
    replace H := H hy
    refine Wx.aload_n hC te_354_15 rfl ?_
    refine Wx.getR hC te_354_16 rfl rfl rfl ?_
    refine Wx.iload_n hC te_354_19 rfl ?_
    refine Wx.iald hC te_354_20 rfl H.1 (fun v3 e1 e2 => ?_)
    replace H := H.2 v3 e1 e2
    refine Wx.statI hC te_354_21 (by decide) mt_275 (args := [.inl r2, .inl v3]) (rest := [.inl x1]) rfl rfl rfl rfl rfl ?_
    refine CWI.mono hC (fun r5 m4 H hy => ?_) H
    replace H := H hy
    refine Wx.statI hC te_354_24 (by decide) mt_257 (args := [.inl x1, .inl r5]) (rest := []) rfl rfl rfl rfl rfl ?_
    refine CWI.mono hC (fun r7 m6 H hy => ?_) H
    replace H := H hy
    refine Wx.istore_n hC te_354_27 rfl ?_
    refine Wx.iinc hC te_354_28 rfl rfl H.1 ?_
    replace H := H.2
    refine Wx.goto hC (t := 4) te_354_31 (by decide) ?_
    exact H
theorem w_353_0 {C : CXW} (hC : Cmono C) {S : Nat × (Nat → Int32)} {K : WK} {mem : MM} (H : (CWV C 245 [.inr 143] mem fun m1 => (CWI C 255 [.inr 143] m1 fun r3 m2 => InI r3 → (CWI C 354 [.inr 143] m2 fun r5 m4 => InI r5 → (CWI C 257 [.inl r3, .inl r5] m4 fun r7 m6 => InI r7 → (CWI C 257 [.inl 1, .inl r7] m6 fun r9 m8 => InI r9 → (InI r9 → K (some r9) m8))))))) : Wx C S M_353 K 0 [some (.inr 143)] [] mem := by
  refine Wx.aload_n hC te_353_0 rfl ?_
  refine Wx.virtV hC te_353_1 mt_245 (args := [.inr 143]) (rest := []) rfl rfl rfl rfl rfl rfl rfl rfl ?_
  refine CWV.mono hC (fun m1 H => ?_) H
  refine Wx.iconst hC te_353_4 rfl ?_
  refine Wx.aload_n hC te_353_5 rfl ?_
  refine Wx.virtI hC te_353_6 mt_255 (args := [.inr 143]) (rest := [.inl 1]) rfl rfl rfl rfl rfl rfl rfl rfl ?_
  refine CWI.mono hC (fun r3 m2 H hy => ?_) H
  replace H := H hy
  refine Wx.aload_n hC te_353_9 rfl ?_
  refine Wx.virtI hC te_353_10 mt_354 (args := [.inr 143]) (rest := [.inl r3, .inl 1]) rfl rfl rfl rfl rfl rfl rfl rfl ?_
  refine CWI.mono hC (fun r5 m4 H hy => ?_) H
  replace H := H hy
  refine Wx.statI hC te_353_13 (by decide) mt_257 (args := [.inl r3, .inl r5]) (rest := [.inl 1]) rfl rfl rfl rfl rfl ?_
  refine CWI.mono hC (fun r7 m6 H hy => ?_) H
  replace H := H hy
  refine Wx.statI hC te_353_16 (by decide) mt_257 (args := [.inl 1, .inl r7]) (rest := []) rfl rfl rfl rfl rfl ?_
  refine CWI.mono hC (fun r9 m8 H hy => ?_) H
  replace H := H hy
  exact Wx.ireturn hC te_353_19 rfl H
theorem w_335_0 {C : CXW} (hC : Cmono C) {S : Nat × (Nat → Int32)} {K : WK} {mem : MM} (H : (Wx C S M_335 K 4 [some (.inr 143), some (.inl 0), some (.inl 0)] [] mem)) : Wx C S M_335 K 0 [some (.inr 143), none, none] [] mem := by
  refine Wx.iconst hC te_335_0 rfl ?_
  refine Wx.istore_n hC te_335_1 rfl ?_
  refine Wx.iconst hC te_335_2 rfl ?_
  refine Wx.istore_n hC te_335_3 rfl ?_
  exact H
theorem w_335_4 {C : CXW} (hC : Cmono C) {S : Nat × (Nat → Int32)} {K : WK} {mem : MM} {x1 x2 : Int} (H : ∀ v1 : Int, v1 = mem 143 1 → InI v1 → ((v1 ≤ x2 → (InI x1 → K (some x1) mem)) ∧ (¬ (v1 ≤ x2) → (CWI C 246 [.inr 143, .inl x2] mem fun r3 m2 => InI r3 → (InI (x1 + r3)) ∧ (InI (x2 + 1)) ∧ (Wx C S M_335 K 4 [some (.inr 143), some (.inl (x1 + r3)), some (.inl (x2 + 1))] [] m2))))) : Wx C S M_335 K 4 [some (.inr 143), some (.inl x1), some (.inl x2)] [] mem := by
  refine Wx.iload_n hC te_335_4 rfl ?_
  refine Wx.aload_n hC te_335_5 rfl ?_
  refine Wx.getI hC te_335_6 rfl rfl rfl (fun v1 e1 e2 => ?_)
  replace H := H v1 e1 e2
  refine Wx.icmp hC (t := 26) te_335_9 (by decide) (fun q => ?_) (fun q => ?_)
  · replace H := H.1 q
    refine Wx.iload_n hC te_335_26 rfl ?_
    exact Wx.ireturn hC te_335_27 rfl H
  · replace H := H.2 q
    refine Wx.iload_n hC te_335_12 rfl ?_
    refine Wx.aload_n hC te_335_13 rfl ?_
    refine Wx.iload_n hC te_335_14 rfl ?_
    refine Wx.virtI hC te_335_15 mt_246 (args := [.inr 143, .inl x2]) (rest := [.inl x1]) rfl rfl rfl rfl rfl rfl rfl rfl ?_
    refine CWI.mono hC (fun r3 m2 H hy => ?_) H
    replace H := H hy
    refine Wx.iadd hC te_335_18 H.1 ?_
    replace H := H.2
    refine Wx.istore_n hC te_335_19 rfl ?_
    refine Wx.iinc hC te_335_20 rfl rfl H.1 ?_
    replace H := H.2
    refine Wx.goto hC (t := 4) te_335_23 (by decide) ?_
    exact H
theorem w_367_0 {C : CXW} (hC : Cmono C) {S : Nat × (Nat → Int32)} {K : WK} {mem : MM} {x1 : Int} (H : (CWI C 240 [.inr 143] mem fun r2 m1 => InI r2 → ((¬ r2 = 0 → (CWI C 353 [.inr 143] m1 fun r4 m3 => InI r4 → ((¬ x1 = 1 → ((¬ x1 = 2 → ((¬ x1 = 3 → (InI r4 → K (some r4) m3)) ∧ (¬ (¬ x1 = 3) → (CWI C 354 [.inr 143] m3 fun r6 m5 => InI r6 → (InI r6 → K (some r6) m5))))) ∧ (¬ (¬ x1 = 2) → (CWI C 255 [.inr 143] m3 fun r8 m7 => InI r8 → (InI r8 → K (some r8) m7))))) ∧ (¬ (¬ x1 = 1) → ∀ v9 : Int, v9 = m3 143 12 → InI v9 → (InI v9 → K (some v9) m3))))) ∧ (¬ (¬ r2 = 0) → (InI (-1) → K (some (-1)) m1))))) : Wx C S M_367 K 0 [some (.inr 143), some (.inl x1), none] [] mem := by
  refine Wx.aload_n hC te_367_0 rfl ?_
  refine Wx.virtI hC te_367_1 mt_240 (args := [.inr 143]) (rest := []) rfl rfl rfl rfl rfl rfl rfl rfl ?_
  refine CWI.mono hC (fun r2 m1 H hy => ?_) H
  replace H := H hy
  refine Wx.ifc hC (t := 9) te_367_4 (by decide) (fun q => ?_) (fun q => ?_)
  · replace H := H.1 q
    refine Wx.aload_n hC te_367_9 rfl ?_
    refine Wx.virtI hC te_367_10 mt_353 (args := [.inr 143]) (rest := []) rfl rfl rfl rfl rfl rfl rfl rfl ?_
    refine CWI.mono hC (fun r4 m3 H hy => ?_) H
    replace H := H hy
    refine Wx.istore_n hC te_367_13 rfl ?_
    refine Wx.iload_n hC te_367_14 rfl ?_
    refine Wx.iconst hC te_367_15 rfl ?_
    refine Wx.icmp hC (t := 26) te_367_16 (by decide) (fun q => ?_) (fun q => ?_)
    · replace H := H.1 q
      refine Wx.iload_n hC te_367_26 rfl ?_
      refine Wx.iconst hC te_367_27 rfl ?_
      refine Wx.icmp hC (t := 38) te_367_28 (by decide) (fun q => ?_) (fun q => ?_)
      · replace H := H.1 q
        refine Wx.iload_n hC te_367_38 rfl ?_
        refine Wx.iconst hC te_367_39 rfl ?_
        refine Wx.icmp hC (t := 50) te_367_40 (by decide) (fun q => ?_) (fun q => ?_)
        · replace H := H.1 q
          refine Wx.iload_n hC te_367_50 rfl ?_
          exact Wx.ireturn hC te_367_51 rfl H
        · replace H := H.2 q
          refine Wx.aload_n hC te_367_43 rfl ?_
          refine Wx.virtI hC te_367_44 mt_354 (args := [.inr 143]) (rest := []) rfl rfl rfl rfl rfl rfl rfl rfl ?_
          refine CWI.mono hC (fun r6 m5 H hy => ?_) H
          replace H := H hy
          refine Wx.goto hC (t := 51) te_367_47 (by decide) ?_
          exact Wx.ireturn hC te_367_51 rfl H
      · replace H := H.2 q
        refine Wx.aload_n hC te_367_31 rfl ?_
        refine Wx.virtI hC te_367_32 mt_255 (args := [.inr 143]) (rest := []) rfl rfl rfl rfl rfl rfl rfl rfl ?_
        refine CWI.mono hC (fun r8 m7 H hy => ?_) H
        replace H := H hy
        refine Wx.goto hC (t := 51) te_367_35 (by decide) ?_
        exact Wx.ireturn hC te_367_51 rfl H
    · replace H := H.2 q
      refine Wx.aload_n hC te_367_19 rfl ?_
      refine Wx.getI hC te_367_20 rfl rfl rfl (fun v9 e1 e2 => ?_)
      replace H := H v9 e1 e2
      refine Wx.goto hC (t := 51) te_367_23 (by decide) ?_
      exact Wx.ireturn hC te_367_51 rfl H
  · replace H := H.2 q
    refine Wx.iconst hC te_367_7 rfl ?_
    exact Wx.ireturn hC te_367_8 rfl H
theorem w_366_0 {C : CXW} (hC : Cmono C) {S : Nat × (Nat → Int32)} {K : WK} {mem : MM} {x1 : Int} (H : ((¬ x1 = 0 → (CWI C 227 [.inl x1, .inl 1, .inl 4] (upm mem 143 0 0) fun r2 m1 => InI r2 → ((r2 = 0 → ((¬ x1 = 5 → (CWI C 227 [.inl x1, .inl 6, .inl 8] m1 fun r4 m3 => InI r4 → ((r4 = 0 → (InI (-1) → K (some (-1)) m3)) ∧ (¬ (r4 = 0) → (InI (x1 - 6)) ∧ ((0 : Int) ≤ (x1 - 6) ∧ ((x1 - 6) : Int) < 3) ∧ ∀ v5 : Int, v5 = m3 153 (Int.toNat (x1 - 6)) → InI v5 → (InI v5 → K (some v5) m3))))) ∧ (¬ (¬ x1 = 5) → (CWI C 335 [.inr 143] m1 fun r7 m6 => InI r7 → (InI r7 → K (some r7) m6))))) ∧ (¬ (r2 = 0) → (CWI C 367 [.inr 143, .inl x1] m1 fun r9 m8 => InI r9 → (InI r9 → K (some r9) m8)))))) ∧ (¬ (¬ x1 = 0) → ∀ v10 : Int, v10 = (upm mem 143 0 0) 143 1 → InI v10 → (InI v10 → K (some v10) (upm mem 143 0 0))))) : Wx C S M_366 K 0 [some (.inr 143), some (.inl x1)] [] mem := by
  refine Wx.aload_n hC te_366_0 rfl ?_
  refine Wx.iconst hC te_366_1 rfl ?_
  refine Wx.putI hC te_366_2 rfl rfl rfl rfl ?_
  refine Wx.iload_n hC te_366_5 rfl ?_
  refine Wx.ifc hC (t := 14) te_366_6 (by decide) (fun q => ?_) (fun q => ?_)
  · replace H := H.1 q
    refine Wx.iload_n hC te_366_14 rfl ?_
    refine Wx.iconst hC te_366_15 rfl ?_
    refine Wx.iconst hC te_366_16 rfl ?_
    refine Wx.statI hC te_366_17 (by decide) mt_227 (args := [.inl x1, .inl 1, .inl 4]) (rest := []) rfl rfl rfl rfl rfl ?_
    refine CWI.mono hC (fun r2 m1 H hy => ?_) H
    replace H := H hy
    refine Wx.ifc hC (t := 29) te_366_20 (by decide) (fun q => ?_) (fun q => ?_)
    · replace H := H.1 q
      refine Wx.iload_n hC te_366_29 rfl ?_
      refine Wx.iconst hC te_366_30 rfl ?_
      refine Wx.icmp hC (t := 39) te_366_31 (by decide) (fun q => ?_) (fun q => ?_)
      · replace H := H.1 q
        refine Wx.iload_n hC te_366_39 rfl ?_
        refine Wx.bipush hC te_366_40 rfl rfl ?_
        refine Wx.bipush hC te_366_42 rfl rfl ?_
        refine Wx.statI hC te_366_44 (by decide) mt_227 (args := [.inl x1, .inl 6, .inl 8]) (rest := []) rfl rfl rfl rfl rfl ?_
        refine CWI.mono hC (fun r4 m3 H hy => ?_) H
        replace H := H hy
        refine Wx.ifc hC (t := 62) te_366_47 (by decide) (fun q => ?_) (fun q => ?_)
        · replace H := H.1 q
          refine Wx.iconst hC te_366_62 rfl ?_
          exact Wx.ireturn hC te_366_63 rfl H
        · replace H := H.2 q
          refine Wx.aload_n hC te_366_50 rfl ?_
          refine Wx.getR hC te_366_51 rfl rfl rfl ?_
          refine Wx.iload_n hC te_366_54 rfl ?_
          refine Wx.bipush hC te_366_55 rfl rfl ?_
          refine Wx.isub hC te_366_57 H.1 ?_
          replace H := H.2
          refine Wx.iald hC te_366_58 rfl H.1 (fun v5 e1 e2 => ?_)
          replace H := H.2 v5 e1 e2
          refine Wx.goto hC (t := 63) te_366_59 (by decide) ?_
          exact Wx.ireturn hC te_366_63 rfl H
      · replace H := H.2 q
        refine Wx.aload_n hC te_366_34 rfl ?_
        refine Wx.virtI hC te_366_35 mt_335 (args := [.inr 143]) (rest := []) rfl rfl rfl rfl rfl rfl rfl rfl ?_
        refine CWI.mono hC (fun r7 m6 H hy => ?_) H
        replace H := H hy
        exact Wx.ireturn hC te_366_38 rfl H
    · replace H := H.2 q
      refine Wx.aload_n hC te_366_23 rfl ?_
      refine Wx.iload_n hC te_366_24 rfl ?_
      refine Wx.virtI hC te_366_25 mt_367 (args := [.inr 143, .inl x1]) (rest := []) rfl rfl rfl rfl rfl rfl rfl rfl ?_
      refine CWI.mono hC (fun r9 m8 H hy => ?_) H
      replace H := H hy
      exact Wx.ireturn hC te_366_28 rfl H
  · replace H := H.2 q
    refine Wx.aload_n hC te_366_9 rfl ?_
    refine Wx.getI hC te_366_10 rfl rfl rfl (fun v10 e1 e2 => ?_)
    replace H := H v10 e1 e2
    exact Wx.ireturn hC te_366_13 rfl H
theorem w_352_0 {C : CXW} (hC : Cmono C) {S : Nat × (Nat → Int32)} {K : WK} {mem : MM} {x1 : Int} (H : (CWI C 227 [.inl x1, .inl 0, .inl 5] mem fun r2 m1 => InI r2 → ((¬ r2 = 0 → (CWI C 240 [.inr 143] m1 fun r4 m3 => InI r4 → ((r4 = 0 → (InI 0 → K (some 0) (upm m3 143 0 2))) ∧ (¬ (r4 = 0) → ((0 : Int) ≤ x1 ∧ (x1 : Int) < 6) ∧ ∀ v6 : Int, v6 = m3 151 (Int.toNat x1) → InI v6 → ((¬ v6 = 1 → ((0 : Int) ≤ x1 ∧ (x1 : Int) < 6) ∧ ∀ v8 : Int, v8 = (upm m3 143 0 0) 151 (Int.toNat x1) → InI v8 → (InI (v8 - 1)) ∧ ((0 : Int) ≤ x1 ∧ (x1 : Int) < 6) ∧ (CWI C 353 [.inr 143] (upm (upm m3 143 0 0) 151 (Int.toNat x1) (v8 - 1)) fun r10 m9 => InI r10 → ((0 : Int) ≤ x1 ∧ (x1 : Int) < 6) ∧ ∀ v11 : Int, v11 = m9 151 (Int.toNat x1) → InI v11 → (InI (v11 + 1)) ∧ ((0 : Int) ≤ x1 ∧ (x1 : Int) < 6) ∧ (InI r10 → K (some r10) (upm m9 151 (Int.toNat x1) (v11 + 1))))) ∧ (¬ (¬ v6 = 1) → (InI 0 → K (some 0) (upm m3 143 0 2)))))))) ∧ (¬ (¬ r2 = 0) → (InI 0 → K (some 0) (upm m1 143 0 1)))))) : Wx C S M_352 K 0 [some (.inr 143), some (.inl x1), none] [] mem := by
  refine Wx.aload_n hC te_352_0 rfl ?_
  refine Wx.iload_n hC te_352_1 rfl ?_
  refine Wx.iconst hC te_352_2 rfl ?_
  refine Wx.iconst hC te_352_3 rfl ?_
  refine Wx.statI hC te_352_4 (by decide) mt_227 (args := [.inl x1, .inl 0, .inl 5]) (rest := [.inr 143]) rfl rfl rfl rfl rfl ?_
  refine CWI.mono hC (fun r2 m1 H hy => ?_) H
  replace H := H hy
  refine Wx.ifc hC (t := 14) te_352_7 (by decide) (fun q => ?_) (fun q => ?_)
  · replace H := H.1 q
    refine Wx.aload_n hC te_352_14 rfl ?_
    refine Wx.virtI hC te_352_15 mt_240 (args := [.inr 143]) (rest := [.inr 143]) rfl rfl rfl rfl rfl rfl rfl rfl ?_
    refine CWI.mono hC (fun r4 m3 H hy => ?_) H
    replace H := H hy
    refine Wx.ifc hC (t := 31) te_352_18 (by decide) (fun q => ?_) (fun q => ?_)
    · replace H := H.1 q
      refine Wx.iconst hC te_352_31 rfl ?_
      refine Wx.goto hC (t := 36) te_352_32 (by decide) ?_
      refine Wx.putI hC te_352_36 rfl rfl rfl rfl ?_
      refine Wx.aload_n hC te_352_39 rfl ?_
      refine Wx.getI hC te_352_40 rfl rfl rfl (fun c5 e1 e2 => ?_)
      rw [upm_eq] at e1
      subst e1
      refine Wx.ifc hC (t := 48) te_352_43 (by decide) (fun q => absurd q (show ¬ ((2 : Int) ≤ 0) by decide)) (fun q => ?_)
      refine Wx.iconst hC te_352_46 rfl ?_
      exact Wx.ireturn hC te_352_47 rfl H
    · replace H := H.2 q
      refine Wx.aload_n hC te_352_21 rfl ?_
      refine Wx.getR hC te_352_22 rfl rfl rfl ?_
      refine Wx.iload_n hC te_352_25 rfl ?_
      refine Wx.iald hC te_352_26 rfl H.1 (fun v6 e1 e2 => ?_)
      replace H := H.2 v6 e1 e2
      refine Wx.iconst hC te_352_27 rfl ?_
      refine Wx.icmp hC (t := 35) te_352_28 (by decide) (fun q => ?_) (fun q => ?_)
      · replace H := H.1 q
        refine Wx.iconst hC te_352_35 rfl ?_
        refine Wx.putI hC te_352_36 rfl rfl rfl rfl ?_
        refine Wx.aload_n hC te_352_39 rfl ?_
        refine Wx.getI hC te_352_40 rfl rfl rfl (fun c7 e1 e2 => ?_)
        rw [upm_eq] at e1
        subst e1
        refine Wx.ifc hC (t := 48) te_352_43 (by decide) (fun q => ?_) (fun q => absurd (show (0 : Int) ≤ 0 by decide) q)
        refine Wx.aload_n hC te_352_48 rfl ?_
        refine Wx.getR hC te_352_49 rfl rfl rfl ?_
        refine Wx.iload_n hC te_352_52 rfl ?_
        refine Wx.dup2 hC te_352_53 ?_
        refine Wx.iald hC te_352_54 rfl H.1 (fun v8 e1 e2 => ?_)
        replace H := H.2 v8 e1 e2
        refine Wx.iconst hC te_352_55 rfl ?_
        refine Wx.isub hC te_352_56 H.1 ?_
        replace H := H.2
        refine Wx.iast hC te_352_57 rfl H.1 ?_
        replace H := H.2
        refine Wx.aload_n hC te_352_58 rfl ?_
        refine Wx.virtI hC te_352_59 mt_353 (args := [.inr 143]) (rest := []) rfl rfl rfl rfl rfl rfl rfl rfl ?_
        refine CWI.mono hC (fun r10 m9 H hy => ?_) H
        replace H := H hy
        refine Wx.istore_n hC te_352_62 rfl ?_
        refine Wx.aload_n hC te_352_63 rfl ?_
        refine Wx.getR hC te_352_64 rfl rfl rfl ?_
        refine Wx.iload_n hC te_352_67 rfl ?_
        refine Wx.dup2 hC te_352_68 ?_
        refine Wx.iald hC te_352_69 rfl H.1 (fun v11 e1 e2 => ?_)
        replace H := H.2 v11 e1 e2
        refine Wx.iconst hC te_352_70 rfl ?_
        refine Wx.iadd hC te_352_71 H.1 ?_
        replace H := H.2
        refine Wx.iast hC te_352_72 rfl H.1 ?_
        replace H := H.2
        refine Wx.iload_n hC te_352_73 rfl ?_
        exact Wx.ireturn hC te_352_74 rfl H
      · replace H := H.2 q
        refine Wx.iconst hC te_352_31 rfl ?_
        refine Wx.goto hC (t := 36) te_352_32 (by decide) ?_
        refine Wx.putI hC te_352_36 rfl rfl rfl rfl ?_
        refine Wx.aload_n hC te_352_39 rfl ?_
        refine Wx.getI hC te_352_40 rfl rfl rfl (fun c12 e1 e2 => ?_)
        rw [upm_eq] at e1
        subst e1
        refine Wx.ifc hC (t := 48) te_352_43 (by decide) (fun q => absurd q (show ¬ ((2 : Int) ≤ 0) by decide)) (fun q => ?_)
        refine Wx.iconst hC te_352_46 rfl ?_
        exact Wx.ireturn hC te_352_47 rfl H
  · replace H := H.2 q
    refine Wx.iconst hC te_352_10 rfl ?_
    refine Wx.goto hC (t := 36) te_352_11 (by decide) ?_
    refine Wx.putI hC te_352_36 rfl rfl rfl rfl ?_
    refine Wx.aload_n hC te_352_39 rfl ?_
    refine Wx.getI hC te_352_40 rfl rfl rfl (fun c13 e1 e2 => ?_)
    rw [upm_eq] at e1
    subst e1
    refine Wx.ifc hC (t := 48) te_352_43 (by decide) (fun q => absurd q (show ¬ ((1 : Int) ≤ 0) by decide)) (fun q => ?_)
    refine Wx.iconst hC te_352_46 rfl ?_
    exact Wx.ireturn hC te_352_47 rfl H
theorem w_355_0 {C : CXW} (hC : Cmono C) {S : Nat × (Nat → Int32)} {K : WK} {mem : MM} {x1 : Int} (H : (CWI C 240 [.inr 143] mem fun r2 m1 => InI r2 → ((r2 = 0 → (InI 0 → K (some 0) (upm m1 143 0 1))) ∧ (¬ (r2 = 0) → (CWV C 245 [.inr 143] (upm m1 143 0 0) fun m5 => ∀ v6 : Int, v6 = m5 143 12 → InI v6 → (InI (v6 - 1)) ∧ (CWI C 227 [.inl x1, .inl 0, .inl (v6 - 1)] m5 fun r8 m7 => InI r8 → ((r8 = 0 → (InI 0 → K (some 0) (upm m7 143 0 2))) ∧ (¬ (r8 = 0) → (CWI C 255 [.inr 143] (upm (upm m7 143 0 0) 143 18 x1) fun r12 m11 => InI r12 → (InI r12 → K (some r12) (upm m11 143 18 (-1)))))))))))) : Wx C S M_355 K 0 [some (.inr 143), some (.inl x1), none] [] mem := by
  refine Wx.aload_n hC te_355_0 rfl ?_
  refine Wx.aload_n hC te_355_1 rfl ?_
  refine Wx.virtI hC te_355_2 mt_240 (args := [.inr 143]) (rest := [.inr 143]) rfl rfl rfl rfl rfl rfl rfl rfl ?_
  refine CWI.mono hC (fun r2 m1 H hy => ?_) H
  replace H := H hy
  refine Wx.ifc hC (t := 12) te_355_5 (by decide) (fun q => ?_) (fun q => ?_)
  · replace H := H.1 q
    refine Wx.iconst hC te_355_12 rfl ?_
    refine Wx.putI hC te_355_13 rfl rfl rfl rfl ?_
    refine Wx.aload_n hC te_355_16 rfl ?_
    refine Wx.getI hC te_355_17 rfl rfl rfl (fun c3 e1 e2 => ?_)
    rw [upm_eq] at e1
    subst e1
    refine Wx.ifc hC (t := 25) te_355_20 (by decide) (fun q => absurd q (show ¬ ((1 : Int) ≤ 0) by decide)) (fun q => ?_)
    refine Wx.iconst hC te_355_23 rfl ?_
    exact Wx.ireturn hC te_355_24 rfl H
  · replace H := H.2 q
    refine Wx.iconst hC te_355_8 rfl ?_
    refine Wx.goto hC (t := 13) te_355_9 (by decide) ?_
    refine Wx.putI hC te_355_13 rfl rfl rfl rfl ?_
    refine Wx.aload_n hC te_355_16 rfl ?_
    refine Wx.getI hC te_355_17 rfl rfl rfl (fun c4 e1 e2 => ?_)
    rw [upm_eq] at e1
    subst e1
    refine Wx.ifc hC (t := 25) te_355_20 (by decide) (fun q => ?_) (fun q => absurd (show (0 : Int) ≤ 0 by decide) q)
    refine Wx.aload_n hC te_355_25 rfl ?_
    refine Wx.virtV hC te_355_26 mt_245 (args := [.inr 143]) (rest := []) rfl rfl rfl rfl rfl rfl rfl rfl ?_
    refine CWV.mono hC (fun m5 H => ?_) H
    refine Wx.aload_n hC te_355_29 rfl ?_
    refine Wx.iload_n hC te_355_30 rfl ?_
    refine Wx.iconst hC te_355_31 rfl ?_
    refine Wx.aload_n hC te_355_32 rfl ?_
    refine Wx.getI hC te_355_33 rfl rfl rfl (fun v6 e1 e2 => ?_)
    replace H := H v6 e1 e2
    refine Wx.iconst hC te_355_36 rfl ?_
    refine Wx.isub hC te_355_37 H.1 ?_
    replace H := H.2
    refine Wx.statI hC te_355_38 (by decide) mt_227 (args := [.inl x1, .inl 0, .inl (v6 - 1)]) (rest := [.inr 143]) rfl rfl rfl rfl rfl ?_
    refine CWI.mono hC (fun r8 m7 H hy => ?_) H
    replace H := H hy
    refine Wx.ifc hC (t := 48) te_355_41 (by decide) (fun q => ?_) (fun q => ?_)
    · replace H := H.1 q
      refine Wx.iconst hC te_355_48 rfl ?_
      refine Wx.putI hC te_355_49 rfl rfl rfl rfl ?_
      refine Wx.aload_n hC te_355_52 rfl ?_
      refine Wx.getI hC te_355_53 rfl rfl rfl (fun c9 e1 e2 => ?_)
      rw [upm_eq] at e1
      subst e1
      refine Wx.ifc hC (t := 61) te_355_56 (by decide) (fun q => absurd q (show ¬ ((2 : Int) ≤ 0) by decide)) (fun q => ?_)
      refine Wx.iconst hC te_355_59 rfl ?_
      exact Wx.ireturn hC te_355_60 rfl H
    · replace H := H.2 q
      refine Wx.iconst hC te_355_44 rfl ?_
      refine Wx.goto hC (t := 49) te_355_45 (by decide) ?_
      refine Wx.putI hC te_355_49 rfl rfl rfl rfl ?_
      refine Wx.aload_n hC te_355_52 rfl ?_
      refine Wx.getI hC te_355_53 rfl rfl rfl (fun c10 e1 e2 => ?_)
      rw [upm_eq] at e1
      subst e1
      refine Wx.ifc hC (t := 61) te_355_56 (by decide) (fun q => ?_) (fun q => absurd (show (0 : Int) ≤ 0 by decide) q)
      refine Wx.aload_n hC te_355_61 rfl ?_
      refine Wx.iload_n hC te_355_62 rfl ?_
      refine Wx.putI hC te_355_63 rfl rfl rfl rfl ?_
      refine Wx.aload_n hC te_355_66 rfl ?_
      refine Wx.virtI hC te_355_67 mt_255 (args := [.inr 143]) (rest := []) rfl rfl rfl rfl rfl rfl rfl rfl ?_
      refine CWI.mono hC (fun r12 m11 H hy => ?_) H
      replace H := H hy
      refine Wx.istore_n hC te_355_70 rfl ?_
      refine Wx.aload_n hC te_355_71 rfl ?_
      refine Wx.iconst hC te_355_72 rfl ?_
      refine Wx.putI hC te_355_73 rfl rfl rfl rfl ?_
      refine Wx.iload_n hC te_355_76 rfl ?_
      exact Wx.ireturn hC te_355_77 rfl H
theorem w_357_0 {C : CXW} (hC : Cmono C) {S : Nat × (Nat → Int32)} {K : WK} {mem : MM} {x1 : Int} (H : (CWI C 227 [.inl x1, .inl 0, .inl 2] mem fun r2 m1 => InI r2 → ((¬ r2 = 0 → (CWI C 240 [.inr 143] m1 fun r4 m3 => InI r4 → ((¬ r4 = 0 → ((0 : Int) ≤ x1 ∧ (x1 : Int) < 3) ∧ ∀ v6 : Int, v6 = (upm m3 143 0 0) 153 (Int.toNat x1) → InI v6 → (InI (v6 + 1)) ∧ ((0 : Int) ≤ x1 ∧ (x1 : Int) < 3) ∧ (CWI C 353 [.inr 143] (upm (upm m3 143 0 0) 153 (Int.toNat x1) (v6 + 1)) fun r8 m7 => InI r8 → ((0 : Int) ≤ x1 ∧ (x1 : Int) < 3) ∧ ∀ v9 : Int, v9 = m7 153 (Int.toNat x1) → InI v9 → (InI (v9 - 1)) ∧ ((0 : Int) ≤ x1 ∧ (x1 : Int) < 3) ∧ (InI r8 → K (some r8) (upm m7 153 (Int.toNat x1) (v9 - 1))))) ∧ (¬ (¬ r4 = 0) → (InI 0 → K (some 0) (upm m3 143 0 2)))))) ∧ (¬ (¬ r2 = 0) → (InI 0 → K (some 0) (upm m1 143 0 1)))))) : Wx C S M_357 K 0 [some (.inr 143), some (.inl x1), none] [] mem := by
  refine Wx.aload_n hC te_357_0 rfl ?_
  refine Wx.iload_n hC te_357_1 rfl ?_
  refine Wx.iconst hC te_357_2 rfl ?_
  refine Wx.iconst hC te_357_3 rfl ?_
  refine Wx.statI hC te_357_4 (by decide) mt_227 (args := [.inl x1, .inl 0, .inl 2]) (rest := [.inr 143]) rfl rfl rfl rfl rfl ?_
  refine CWI.mono hC (fun r2 m1 H hy => ?_) H
  replace H := H hy
  refine Wx.ifc hC (t := 14) te_357_7 (by decide) (fun q => ?_) (fun q => ?_)
  · replace H := H.1 q
    refine Wx.aload_n hC te_357_14 rfl ?_
    refine Wx.virtI hC te_357_15 mt_240 (args := [.inr 143]) (rest := [.inr 143]) rfl rfl rfl rfl rfl rfl rfl rfl ?_
    refine CWI.mono hC (fun r4 m3 H hy => ?_) H
    replace H := H hy
    refine Wx.ifc hC (t := 25) te_357_18 (by decide) (fun q => ?_) (fun q => ?_)
    · replace H := H.1 q
      refine Wx.iconst hC te_357_25 rfl ?_
      refine Wx.putI hC te_357_26 rfl rfl rfl rfl ?_
      refine Wx.aload_n hC te_357_29 rfl ?_
      refine Wx.getI hC te_357_30 rfl rfl rfl (fun c5 e1 e2 => ?_)
      rw [upm_eq] at e1
      subst e1
      refine Wx.ifc hC (t := 38) te_357_33 (by decide) (fun q => ?_) (fun q => absurd (show (0 : Int) ≤ 0 by decide) q)
      refine Wx.aload_n hC te_357_38 rfl ?_
      refine Wx.getR hC te_357_39 rfl rfl rfl ?_
      refine Wx.iload_n hC te_357_42 rfl ?_
      refine Wx.dup2 hC te_357_43 ?_
      refine Wx.iald hC te_357_44 rfl H.1 (fun v6 e1 e2 => ?_)
      replace H := H.2 v6 e1 e2
      refine Wx.iconst hC te_357_45 rfl ?_
      refine Wx.iadd hC te_357_46 H.1 ?_
      replace H := H.2
      refine Wx.iast hC te_357_47 rfl H.1 ?_
      replace H := H.2
      refine Wx.aload_n hC te_357_48 rfl ?_
      refine Wx.virtI hC te_357_49 mt_353 (args := [.inr 143]) (rest := []) rfl rfl rfl rfl rfl rfl rfl rfl ?_
      refine CWI.mono hC (fun r8 m7 H hy => ?_) H
      replace H := H hy
      refine Wx.istore_n hC te_357_52 rfl ?_
      refine Wx.aload_n hC te_357_53 rfl ?_
      refine Wx.getR hC te_357_54 rfl rfl rfl ?_
      refine Wx.iload_n hC te_357_57 rfl ?_
      refine Wx.dup2 hC te_357_58 ?_
      refine Wx.iald hC te_357_59 rfl H.1 (fun v9 e1 e2 => ?_)
      replace H := H.2 v9 e1 e2
      refine Wx.iconst hC te_357_60 rfl ?_
      refine Wx.isub hC te_357_61 H.1 ?_
      replace H := H.2
      refine Wx.iast hC te_357_62 rfl H.1 ?_
      replace H := H.2
      refine Wx.iload_n hC te_357_63 rfl ?_
      exact Wx.ireturn hC te_357_64 rfl H
    · replace H := H.2 q
      refine Wx.iconst hC te_357_21 rfl ?_
      refine Wx.goto hC (t := 26) te_357_22 (by decide) ?_
      refine Wx.putI hC te_357_26 rfl rfl rfl rfl ?_
      refine Wx.aload_n hC te_357_29 rfl ?_
      refine Wx.getI hC te_357_30 rfl rfl rfl (fun c10 e1 e2 => ?_)
      rw [upm_eq] at e1
      subst e1
      refine Wx.ifc hC (t := 38) te_357_33 (by decide) (fun q => absurd q (show ¬ ((2 : Int) ≤ 0) by decide)) (fun q => ?_)
      refine Wx.iconst hC te_357_36 rfl ?_
      exact Wx.ireturn hC te_357_37 rfl H
  · replace H := H.2 q
    refine Wx.iconst hC te_357_10 rfl ?_
    refine Wx.goto hC (t := 26) te_357_11 (by decide) ?_
    refine Wx.putI hC te_357_26 rfl rfl rfl rfl ?_
    refine Wx.aload_n hC te_357_29 rfl ?_
    refine Wx.getI hC te_357_30 rfl rfl rfl (fun c11 e1 e2 => ?_)
    rw [upm_eq] at e1
    subst e1
    refine Wx.ifc hC (t := 38) te_357_33 (by decide) (fun q => absurd q (show ¬ ((1 : Int) ≤ 0) by decide)) (fun q => ?_)
    refine Wx.iconst hC te_357_36 rfl ?_
    exact Wx.ireturn hC te_357_37 rfl H
theorem w_343_0 {C : CXW} (hC : Cmono C) {S : Nat × (Nat → Int32)} {K : WK} {mem : MM} {x1 : Int} (H : (CWI C 240 [.inr 143] mem fun r2 m1 => InI r2 → ((r2 = 0 → (InI 0 → K (some 0) (upm m1 143 0 1))) ∧ (¬ (r2 = 0) → (CWV C 344 [.inr 143] (upm m1 143 0 0) fun m5 => ((x1 = 0 → ∀ v6 : Int, v6 = m5 143 31 → InI v6 → (InI v6 → K (some v6) m5)) ∧ (¬ (x1 = 0) → ∀ v7 : Int, v7 = m5 143 32 → InI v7 → (InI v7 → K (some v7) m5)))))))) : Wx C S M_343 K 0 [some (.inr 143), some (.inl x1)] [] mem := by
  refine Wx.aload_n hC te_343_0 rfl ?_
  refine Wx.aload_n hC te_343_1 rfl ?_
  refine Wx.virtI hC te_343_2 mt_240 (args := [.inr 143]) (rest := [.inr 143]) rfl rfl rfl rfl rfl rfl rfl rfl ?_
  refine CWI.mono hC (fun r2 m1 H hy => ?_) H
  replace H := H hy
  refine Wx.ifc hC (t := 12) te_343_5 (by decide) (fun q => ?_) (fun q => ?_)
  · replace H := H.1 q
    refine Wx.iconst hC te_343_12 rfl ?_
    refine Wx.putI hC te_343_13 rfl rfl rfl rfl ?_
    refine Wx.aload_n hC te_343_16 rfl ?_
    refine Wx.getI hC te_343_17 rfl rfl rfl (fun c3 e1 e2 => ?_)
    rw [upm_eq] at e1
    subst e1
    refine Wx.ifc hC (t := 25) te_343_20 (by decide) (fun q => absurd q (show ¬ ((1 : Int) ≤ 0) by decide)) (fun q => ?_)
    refine Wx.iconst hC te_343_23 rfl ?_
    exact Wx.ireturn hC te_343_24 rfl H
  · replace H := H.2 q
    refine Wx.iconst hC te_343_8 rfl ?_
    refine Wx.goto hC (t := 13) te_343_9 (by decide) ?_
    refine Wx.putI hC te_343_13 rfl rfl rfl rfl ?_
    refine Wx.aload_n hC te_343_16 rfl ?_
    refine Wx.getI hC te_343_17 rfl rfl rfl (fun c4 e1 e2 => ?_)
    rw [upm_eq] at e1
    subst e1
    refine Wx.ifc hC (t := 25) te_343_20 (by decide) (fun q => ?_) (fun q => absurd (show (0 : Int) ≤ 0 by decide) q)
    refine Wx.aload_n hC te_343_25 rfl ?_
    refine Wx.virtV hC te_343_26 mt_344 (args := [.inr 143]) (rest := []) rfl rfl rfl rfl rfl rfl rfl rfl ?_
    refine CWV.mono hC (fun m5 H => ?_) H
    refine Wx.iload_n hC te_343_29 rfl ?_
    refine Wx.ifc hC (t := 40) te_343_30 (by decide) (fun q => ?_) (fun q => ?_)
    · replace H := H.1 q
      refine Wx.aload_n hC te_343_40 rfl ?_
      refine Wx.getI hC te_343_41 rfl rfl rfl (fun v6 e1 e2 => ?_)
      replace H := H v6 e1 e2
      exact Wx.ireturn hC te_343_44 rfl H
    · replace H := H.2 q
      refine Wx.aload_n hC te_343_33 rfl ?_
      refine Wx.getI hC te_343_34 rfl rfl rfl (fun v7 e1 e2 => ?_)
      replace H := H v7 e1 e2
      refine Wx.goto hC (t := 44) te_343_37 (by decide) ?_
      exact Wx.ireturn hC te_343_44 rfl H
theorem w_348_0 {C : CXW} (hC : Cmono C) {S : Nat × (Nat → Int32)} {K : WK} {mem : MM} (H : (CWI C 240 [.inr 143] mem fun r2 m1 => InI r2 → ((r2 = 0 → (InI 0 → K (some 0) (upm m1 143 0 1))) ∧ (¬ (r2 = 0) → (CWV C 344 [.inr 143] (upm m1 143 0 0) fun m5 => ∀ v6 : Int, v6 = m5 143 33 → InI v6 → (InI v6 → K (some v6) m5)))))) : Wx C S M_348 K 0 [some (.inr 143)] [] mem := by
  refine Wx.aload_n hC te_348_0 rfl ?_
  refine Wx.aload_n hC te_348_1 rfl ?_
  refine Wx.virtI hC te_348_2 mt_240 (args := [.inr 143]) (rest := [.inr 143]) rfl rfl rfl rfl rfl rfl rfl rfl ?_
  refine CWI.mono hC (fun r2 m1 H hy => ?_) H
  replace H := H hy
  refine Wx.ifc hC (t := 12) te_348_5 (by decide) (fun q => ?_) (fun q => ?_)
  · replace H := H.1 q
    refine Wx.iconst hC te_348_12 rfl ?_
    refine Wx.putI hC te_348_13 rfl rfl rfl rfl ?_
    refine Wx.aload_n hC te_348_16 rfl ?_
    refine Wx.getI hC te_348_17 rfl rfl rfl (fun c3 e1 e2 => ?_)
    rw [upm_eq] at e1
    subst e1
    refine Wx.ifc hC (t := 25) te_348_20 (by decide) (fun q => absurd q (show ¬ ((1 : Int) ≤ 0) by decide)) (fun q => ?_)
    refine Wx.iconst hC te_348_23 rfl ?_
    exact Wx.ireturn hC te_348_24 rfl H
  · replace H := H.2 q
    refine Wx.iconst hC te_348_8 rfl ?_
    refine Wx.goto hC (t := 13) te_348_9 (by decide) ?_
    refine Wx.putI hC te_348_13 rfl rfl rfl rfl ?_
    refine Wx.aload_n hC te_348_16 rfl ?_
    refine Wx.getI hC te_348_17 rfl rfl rfl (fun c4 e1 e2 => ?_)
    rw [upm_eq] at e1
    subst e1
    refine Wx.ifc hC (t := 25) te_348_20 (by decide) (fun q => ?_) (fun q => absurd (show (0 : Int) ≤ 0 by decide) q)
    refine Wx.aload_n hC te_348_25 rfl ?_
    refine Wx.virtV hC te_348_26 mt_344 (args := [.inr 143]) (rest := []) rfl rfl rfl rfl rfl rfl rfl rfl ?_
    refine CWV.mono hC (fun m5 H => ?_) H
    refine Wx.aload_n hC te_348_29 rfl ?_
    refine Wx.getI hC te_348_30 rfl rfl rfl (fun v6 e1 e2 => ?_)
    replace H := H v6 e1 e2
    exact Wx.ireturn hC te_348_33 rfl H
theorem w_350_0 {C : CXW} (hC : Cmono C) {S : Nat × (Nat → Int32)} {K : WK} {mem : MM} {x1 : Int} (H : ∀ v1 : Int, v1 = mem 143 31 → InI v1 → (InI (x1 * v1)) ∧ ∀ v2 : Int, v2 = mem 143 32 → InI v2 → (CWI C 275 [.inl (x1 * v1), .inl v2] mem fun r4 m3 => InI r4 → (CWI C 257 [.inl 1, .inl r4] m3 fun r6 m5 => InI r6 → (Wx C S M_350 K 20 [some (.inr 143), some (.inl x1), some (.inl r6), some (.inl 0)] [] m5)))) : Wx C S M_350 K 0 [some (.inr 143), some (.inl x1), none, none] [] mem := by
  refine Wx.iconst hC te_350_0 rfl ?_
  refine Wx.iload_n hC te_350_1 rfl ?_
  refine Wx.aload_n hC te_350_2 rfl ?_
  refine Wx.getI hC te_350_3 rfl rfl rfl (fun v1 e1 e2 => ?_)
  replace H := H v1 e1 e2
  refine Wx.imul hC te_350_6 H.1 ?_
  replace H := H.2
  refine Wx.aload_n hC te_350_7 rfl ?_
  refine Wx.getI hC te_350_8 rfl rfl rfl (fun v2 e1 e2 => ?_)
  replace H := H v2 e1 e2
  refine Wx.statI hC te_350_11 (by decide) mt_275 (args := [.inl (x1 * v1), .inl v2]) (rest := [.inl 1]) rfl rfl rfl rfl rfl ?_
  refine CWI.mono hC (fun r4 m3 H hy => ?_) H
  replace H := H hy
  refine Wx.statI hC te_350_14 (by decide) mt_257 (args := [.inl 1, .inl r4]) (rest := []) rfl rfl rfl rfl rfl ?_
  refine CWI.mono hC (fun r6 m5 H hy => ?_) H
  replace H := H hy
  refine Wx.istore_n hC te_350_17 rfl ?_
  refine Wx.iconst hC te_350_18 rfl ?_
  refine Wx.istore_n hC te_350_19 rfl ?_
  exact H
theorem w_350_20 {C : CXW} (hC : Cmono C) {S : Nat × (Nat → Int32)} {K : WK} {mem : MM} {x1 x2 x3 : Int} (H : ((3 ≤ x3 → (InI x2 → K (some x2) mem)) ∧ (¬ (3 ≤ x3) → (CWI C 263 [.inr 143, .inl x3] mem fun r2 m1 => InI r2 → (InI (x1 * r2)) ∧ ((0 : Int) ≤ x3 ∧ (x3 : Int) < 3) ∧ ∀ v3 : Int, v3 = m1 153 (Int.toNat x3) → InI v3 → (CWI C 275 [.inl (x1 * r2), .inl v3] m1 fun r5 m4 => InI r5 → (CWI C 257 [.inl x2, .inl r5] m4 fun r7 m6 => InI r7 → (InI (x3 + 1)) ∧ (Wx C S M_350 K 20 [some (.inr 143), some (.inl x1), some (.inl r7), some (.inl (x3 + 1))] [] m6))))))) : Wx C S M_350 K 20 [some (.inr 143), some (.inl x1), some (.inl x2), some (.inl x3)] [] mem := by
  refine Wx.iload_n hC te_350_20 rfl ?_
  refine Wx.iconst hC te_350_21 rfl ?_
  refine Wx.icmp hC (t := 52) te_350_22 (by decide) (fun q => ?_) (fun q => ?_)
  · replace H := H.1 q
    refine Wx.iload_n hC te_350_52 rfl ?_
    exact Wx.ireturn hC te_350_53 rfl H
  · replace H := H.2 q
    refine Wx.iload_n hC te_350_25 rfl ?_
    refine Wx.iload_n hC te_350_26 rfl ?_
    refine Wx.aload_n hC te_350_27 rfl ?_
    refine Wx.iload_n hC te_350_28 rfl ?_
    refine Wx.virtI hC te_350_29 mt_263 (args := [.inr 143, .inl x3]) (rest := [.inl x1, .inl x2]) rfl rfl rfl rfl rfl rfl rfl rfl ?_
    refine CWI.mono hC (fun r2 m1 H hy => ?_) H
    replace H := H hy
    refine Wx.imul hC te_350_32 H.1 ?_
    replace H := H.2
    refine Wx.aload_n hC te_350_33 rfl ?_
    refine Wx.getR hC te_350_34 rfl rfl rfl ?_
    refine Wx.iload_n hC te_350_37 rfl ?_
    refine Wx.iald hC te_350_38 rfl H.1 (fun v3 e1 e2 => ?_)
    replace H := H.2 v3 e1 e2
    refine Wx.statI hC te_350_39 (by decide) mt_275 (args := [.inl (x1 * r2), .inl v3]) (rest := [.inl x2]) rfl rfl rfl rfl rfl ?_
    refine CWI.mono hC (fun r5 m4 H hy => ?_) H
    replace H := H hy
    refine Wx.statI hC te_350_42 (by decide) mt_257 (args := [.inl x2, .inl r5]) (rest := []) rfl rfl rfl rfl rfl ?_
    refine CWI.mono hC (fun r7 m6 H hy => ?_) H
    replace H := H hy
    refine Wx.istore_n hC te_350_45 rfl ?_
    refine Wx.iinc hC te_350_46 rfl rfl H.1 ?_
    replace H := H.2
    refine Wx.goto hC (t := 20) te_350_49 (by decide) ?_
    exact H
theorem w_349_0 {C : CXW} (hC : Cmono C) {S : Nat × (Nat → Int32)} {K : WK} {mem : MM} {x1 : Int} (H : (CWI C 227 [.inl x1, .inl 1, .inl 4] mem fun r2 m1 => InI r2 → ((¬ r2 = 0 → (CWI C 240 [.inr 143] m1 fun r4 m3 => InI r4 → ((¬ r4 = 0 → (CWV C 344 [.inr 143] (upm m3 143 0 0) fun m6 => (CWI C 350 [.inr 143, .inl x1] m6 fun r8 m7 => InI r8 → (InI r8 → K (some r8) m7)))) ∧ (¬ (¬ r4 = 0) → (InI 0 → K (some 0) (upm m3 143 0 2)))))) ∧ (¬ (¬ r2 = 0) → (InI 0 → K (some 0) (upm m1 143 0 1)))))) : Wx C S M_349 K 0 [some (.inr 143), some (.inl x1)] [] mem := by
  refine Wx.aload_n hC te_349_0 rfl ?_
  refine Wx.iload_n hC te_349_1 rfl ?_
  refine Wx.iconst hC te_349_2 rfl ?_
  refine Wx.iconst hC te_349_3 rfl ?_
  refine Wx.statI hC te_349_4 (by decide) mt_227 (args := [.inl x1, .inl 1, .inl 4]) (rest := [.inr 143]) rfl rfl rfl rfl rfl ?_
  refine CWI.mono hC (fun r2 m1 H hy => ?_) H
  replace H := H hy
  refine Wx.ifc hC (t := 14) te_349_7 (by decide) (fun q => ?_) (fun q => ?_)
  · replace H := H.1 q
    refine Wx.aload_n hC te_349_14 rfl ?_
    refine Wx.virtI hC te_349_15 mt_240 (args := [.inr 143]) (rest := [.inr 143]) rfl rfl rfl rfl rfl rfl rfl rfl ?_
    refine CWI.mono hC (fun r4 m3 H hy => ?_) H
    replace H := H hy
    refine Wx.ifc hC (t := 25) te_349_18 (by decide) (fun q => ?_) (fun q => ?_)
    · replace H := H.1 q
      refine Wx.iconst hC te_349_25 rfl ?_
      refine Wx.putI hC te_349_26 rfl rfl rfl rfl ?_
      refine Wx.aload_n hC te_349_29 rfl ?_
      refine Wx.getI hC te_349_30 rfl rfl rfl (fun c5 e1 e2 => ?_)
      rw [upm_eq] at e1
      subst e1
      refine Wx.ifc hC (t := 38) te_349_33 (by decide) (fun q => ?_) (fun q => absurd (show (0 : Int) ≤ 0 by decide) q)
      refine Wx.aload_n hC te_349_38 rfl ?_
      refine Wx.virtV hC te_349_39 mt_344 (args := [.inr 143]) (rest := []) rfl rfl rfl rfl rfl rfl rfl rfl ?_
      refine CWV.mono hC (fun m6 H => ?_) H
      refine Wx.aload_n hC te_349_42 rfl ?_
      refine Wx.iload_n hC te_349_43 rfl ?_
      refine Wx.virtI hC te_349_44 mt_350 (args := [.inr 143, .inl x1]) (rest := []) rfl rfl rfl rfl rfl rfl rfl rfl ?_
      refine CWI.mono hC (fun r8 m7 H hy => ?_) H
      replace H := H hy
      exact Wx.ireturn hC te_349_47 rfl H
    · replace H := H.2 q
      refine Wx.iconst hC te_349_21 rfl ?_
      refine Wx.goto hC (t := 26) te_349_22 (by decide) ?_
      refine Wx.putI hC te_349_26 rfl rfl rfl rfl ?_
      refine Wx.aload_n hC te_349_29 rfl ?_
      refine Wx.getI hC te_349_30 rfl rfl rfl (fun c9 e1 e2 => ?_)
      rw [upm_eq] at e1
      subst e1
      refine Wx.ifc hC (t := 38) te_349_33 (by decide) (fun q => absurd q (show ¬ ((2 : Int) ≤ 0) by decide)) (fun q => ?_)
      refine Wx.iconst hC te_349_36 rfl ?_
      exact Wx.ireturn hC te_349_37 rfl H
  · replace H := H.2 q
    refine Wx.iconst hC te_349_10 rfl ?_
    refine Wx.goto hC (t := 26) te_349_11 (by decide) ?_
    refine Wx.putI hC te_349_26 rfl rfl rfl rfl ?_
    refine Wx.aload_n hC te_349_29 rfl ?_
    refine Wx.getI hC te_349_30 rfl rfl rfl (fun c10 e1 e2 => ?_)
    rw [upm_eq] at e1
    subst e1
    refine Wx.ifc hC (t := 38) te_349_33 (by decide) (fun q => absurd q (show ¬ ((1 : Int) ≤ 0) by decide)) (fun q => ?_)
    refine Wx.iconst hC te_349_36 rfl ?_
    exact Wx.ireturn hC te_349_37 rfl H
theorem w_351_0 {C : CXW} (hC : Cmono C) {S : Nat × (Nat → Int32)} {K : WK} {mem : MM} (H : (CWI C 240 [.inr 143] mem fun r2 m1 => InI r2 → ((r2 = 0 → (InI 0 → K (some 0) (upm m1 143 0 1))) ∧ (¬ (r2 = 0) → (CWV C 344 [.inr 143] (upm m1 143 0 0) fun m5 => (Wx C S M_351 K 33 [some (.inr 143), some (.inl 1), some (.inl 2)] [] m5)))))) : Wx C S M_351 K 0 [some (.inr 143), none, none] [] mem := by
  refine Wx.aload_n hC te_351_0 rfl ?_
  refine Wx.aload_n hC te_351_1 rfl ?_
  refine Wx.virtI hC te_351_2 mt_240 (args := [.inr 143]) (rest := [.inr 143]) rfl rfl rfl rfl rfl rfl rfl rfl ?_
  refine CWI.mono hC (fun r2 m1 H hy => ?_) H
  replace H := H hy
  refine Wx.ifc hC (t := 12) te_351_5 (by decide) (fun q => ?_) (fun q => ?_)
  · replace H := H.1 q
    refine Wx.iconst hC te_351_12 rfl ?_
    refine Wx.putI hC te_351_13 rfl rfl rfl rfl ?_
    refine Wx.aload_n hC te_351_16 rfl ?_
    refine Wx.getI hC te_351_17 rfl rfl rfl (fun c3 e1 e2 => ?_)
    rw [upm_eq] at e1
    subst e1
    refine Wx.ifc hC (t := 25) te_351_20 (by decide) (fun q => absurd q (show ¬ ((1 : Int) ≤ 0) by decide)) (fun q => ?_)
    refine Wx.iconst hC te_351_23 rfl ?_
    exact Wx.ireturn hC te_351_24 rfl H
  · replace H := H.2 q
    refine Wx.iconst hC te_351_8 rfl ?_
    refine Wx.goto hC (t := 13) te_351_9 (by decide) ?_
    refine Wx.putI hC te_351_13 rfl rfl rfl rfl ?_
    refine Wx.aload_n hC te_351_16 rfl ?_
    refine Wx.getI hC te_351_17 rfl rfl rfl (fun c4 e1 e2 => ?_)
    rw [upm_eq] at e1
    subst e1
    refine Wx.ifc hC (t := 25) te_351_20 (by decide) (fun q => ?_) (fun q => absurd (show (0 : Int) ≤ 0 by decide) q)
    refine Wx.aload_n hC te_351_25 rfl ?_
    refine Wx.virtV hC te_351_26 mt_344 (args := [.inr 143]) (rest := []) rfl rfl rfl rfl rfl rfl rfl rfl ?_
    refine CWV.mono hC (fun m5 H => ?_) H
    refine Wx.iconst hC te_351_29 rfl ?_
    refine Wx.istore_n hC te_351_30 rfl ?_
    refine Wx.iconst hC te_351_31 rfl ?_
    refine Wx.istore_n hC te_351_32 rfl ?_
    exact H
theorem w_351_33 {C : CXW} (hC : Cmono C) {S : Nat × (Nat → Int32)} {K : WK} {mem : MM} {x1 x2 : Int} (H : ((4 < x2 → (InI x1 → K (some x1) mem)) ∧ (¬ (4 < x2) → (CWI C 350 [.inr 143, .inl x2] mem fun r2 m1 => InI r2 → (InI (r2 * x1)) ∧ (CWI C 350 [.inr 143, .inl x1] m1 fun r4 m3 => InI r4 → (InI (r4 * x2)) ∧ (((r4 * x2) ≤ (r2 * x1) → (InI (x2 + 1)) ∧ (Wx C S M_351 K 33 [some (.inr 143), some (.inl x1), some (.inl (x2 + 1))] [] m3)) ∧ (¬ ((r4 * x2) ≤ (r2 * x1)) → (InI (x2 + 1)) ∧ (Wx C S M_351 K 33 [some (.inr 143), some (.inl x2), some (.inl (x2 + 1))] [] m3)))))))) : Wx C S M_351 K 33 [some (.inr 143), some (.inl x1), some (.inl x2)] [] mem := by
  refine Wx.iload_n hC te_351_33 rfl ?_
  refine Wx.iconst hC te_351_34 rfl ?_
  refine Wx.icmp hC (t := 63) te_351_35 (by decide) (fun q => ?_) (fun q => ?_)
  · replace H := H.1 q
    refine Wx.iload_n hC te_351_63 rfl ?_
    exact Wx.ireturn hC te_351_64 rfl H
  · replace H := H.2 q
    refine Wx.aload_n hC te_351_38 rfl ?_
    refine Wx.iload_n hC te_351_39 rfl ?_
    refine Wx.virtI hC te_351_40 mt_350 (args := [.inr 143, .inl x2]) (rest := []) rfl rfl rfl rfl rfl rfl rfl rfl ?_
    refine CWI.mono hC (fun r2 m1 H hy => ?_) H
    replace H := H hy
    refine Wx.iload_n hC te_351_43 rfl ?_
    refine Wx.imul hC te_351_44 H.1 ?_
    replace H := H.2
    refine Wx.aload_n hC te_351_45 rfl ?_
    refine Wx.iload_n hC te_351_46 rfl ?_
    refine Wx.virtI hC te_351_47 mt_350 (args := [.inr 143, .inl x1]) (rest := [.inl (r2 * x1)]) rfl rfl rfl rfl rfl rfl rfl rfl ?_
    refine CWI.mono hC (fun r4 m3 H hy => ?_) H
    replace H := H hy
    refine Wx.iload_n hC te_351_50 rfl ?_
    refine Wx.imul hC te_351_51 H.1 ?_
    replace H := H.2
    refine Wx.icmp hC (t := 57) te_351_52 (by decide) (fun q => ?_) (fun q => ?_)
    · replace H := H.1 q
      refine Wx.iinc hC te_351_57 rfl rfl H.1 ?_
      replace H := H.2
      refine Wx.goto hC (t := 33) te_351_60 (by decide) ?_
      exact H
    · replace H := H.2 q
      refine Wx.iload_n hC te_351_55 rfl ?_
      refine Wx.istore_n hC te_351_56 rfl ?_
      refine Wx.iinc hC te_351_57 rfl rfl H.1 ?_
      replace H := H.2
      refine Wx.goto hC (t := 33) te_351_60 (by decide) ?_
      exact H
end
section
/-! bounds, folds, counts of the reference -/
theorem up_rng {a b u : Int} (hb : 0 < b) (ha : 0 ≤ a) (h1 : b * (u - 1) < a) (h2 : a ≤ b * u) : 0 ≤ u ∧ u ≤ a := by
  constructor
  · rcases Int.lt_or_le u 0 with q | q
    · have := Int.mul_neg_of_pos_of_neg hb q
      omega
    · exact q
  · rcases Int.lt_or_le u 1 with q | q
    · omega
    · have : 1 * (u - 1) ≤ b * (u - 1) := Int.mul_le_mul_of_nonneg_right (by omega) (by omega)
      omega
theorem bits_less {s b : Int} (h : 0 ≤ s ∧ s ≤ 15) (h0 : ¬ s = 0) (e : b = ((fun (x y : Int32) => x &&& y) (Int32.ofInt s) (Int32.ofInt (s - 1))).toInt) : 0 ≤ b ∧ b < s := by
  have : s = 1 ∨ s = 2 ∨ s = 3 ∨ s = 4 ∨ s = 5 ∨ s = 6 ∨ s = 7 ∨ s = 8 ∨ s = 9 ∨ s = 10 ∨ s = 11 ∨ s = 12 ∨ s = 13 ∨ s = 14 ∨ s = 15 := by omega
  rw [e]
  rcases this with h | h | h | h | h | h | h | h | h | h | h | h | h | h | h <;> subst h <;> decide
section MORE
variable {S : Nat × (Nat → Int32)} {n : Nat} {mem : MM} {K : Int → MM → Prop}
theorem f_266 {x : Int} (h : 0 ≤ x ∧ x ≤ 15) (H : ∀ r, 0 ≤ r → r ≤ 15 → K r mem) : CWI (Ex S (n + 1)) 266 [.inl x] mem K := by
  have key : ∀ (N : Nat) (c s : Int), 0 ≤ c → 0 ≤ s → c + s ≤ 15 → s.toNat < N → Wx (Ex S n) S M_266 (fun r m => ∃ y, r = some y ∧ K y m) 4 [some (.inl x), some (.inl c), some (.inl s)] [] mem := by
    intro N
    induction N with
    | zero => intros; omega
    | succ N ih =>
      intro c s hc hs h15 hN
      refine w_266_4 (Ex.mono S n) ⟨fun q _ => ⟨_, rfl, H c hc (by omega)⟩, fun q => ⟨by unfold InI; omega, by unfold InI; omega, fun b e _ => ?_⟩⟩
      have := bits_less ⟨hs, by omega⟩ q e
      exact ih (c + 1) b (by omega) this.1 (by omega) (by omega)
  exact CW.of (k := 2) mt_266 rfl rfl (w_266_0 (Ex.mono S n) (key 16 0 x (by omega) h.1 (by omega) (by omega)))
theorem f_265b (hO : OpsOK mem) (hB : ∀ k, k < 6 → 1 ≤ mem 152 k ∧ mem 152 k ≤ 15) {o : Int} (h : 0 ≤ o ∧ o < 8) (H : ∀ u, 1 ≤ u → u ≤ 15 → K u mem) : CWI (Ex S (n + 1)) 265 [.inr 143, .inl o] mem K := by
  obtain ⟨h1, h2, -⟩ := hO.2.1 o.toNat (by omega)
  refine CW.of (k := 0) mt_265 rfl rfl (w_265_0 (Ex.mono S n) ⟨h, fun v e _ => ⟨by omega, fun v2 e2 _ _ => ⟨_, rfl, ?_⟩⟩⟩)
  have := hB v.toNat (by omega)
  exact H v2 (by omega) (by omega)
theorem f_263 (hO : OpsOK mem) (hU : UnOK mem) (hB : ∀ k, k < 6 → 1 ≤ mem 152 k ∧ mem 152 k ≤ 15) {x : Int} (H : ∀ r, 0 ≤ r → r ≤ 120 → K r mem) : CWI (Ex S (n + 2)) 263 [.inr 143, .inl x] mem K := by
  have h8 := hO.1
  have key : ∀ (N : Nat) (c : Int) (o : Int), 0 ≤ o → 0 ≤ c → c ≤ 15 * o → o ≤ mem 143 1 → (mem 143 1 - o).toNat < N → Wx (Ex S (n + 1)) S M_263 (fun r m => ∃ y, r = some y ∧ K y m) 4 [some (.inr 143), some (.inl x), some (.inl c), some (.inl o)] [] mem := by
    intro N
    induction N with
    | zero => intros; omega
    | succ N ih =>
      intro c o ho hc hc2 ho2 hN
      refine w_263_4 (Ex.mono S (n + 1)) (fun v1 e1 _ => ⟨fun q _ => ⟨_, rfl, H c hc (by omega)⟩, fun q => f_264 hO hU ⟨ho, by omega⟩ (fun u _ _ _ => ⟨fun _ => ⟨by unfold InI; omega, by unfold InI; omega, ih (c + 0) (o + 1) (by omega) (by omega) (by omega) (by omega) (by omega)⟩, fun _ => ?_⟩)⟩)
      exact f_265b hO hB ⟨ho, by omega⟩ (fun w w1 w2 _ => f_266 ⟨by omega, w2⟩ (fun r r1 r2 _ => ⟨by unfold InI; omega, by unfold InI; omega, ih (c + r) (o + 1) (by omega) (by omega) (by omega) (by omega) (by omega)⟩))
  exact CW.of (k := 2) mt_263 rfl rfl (w_263_0 (Ex.mono S (n + 1)) (key 9 0 0 (by omega) (by omega) (by omega) h8.1 (by omega)))
theorem f_354 (hO : OpsOK mem) (hU : UnOK mem) (hB : ∀ k, k < 6 → 1 ≤ mem 152 k ∧ mem 152 k ≤ 15) (hC : ∀ k, k < 3 → 1 ≤ mem 153 k ∧ mem 153 k ≤ 9) (H : ∀ r, 0 ≤ r → r ≤ 120 → K r mem) : CWI (Ex S (n + 3)) 354 [.inr 143] mem K := by
  have key : ∀ (N : Nat) (c : Int) (o : Int), 0 ≤ o → 0 ≤ c → c ≤ 120 → (3 - o).toNat < N → Wx (Ex S (n + 2)) S M_354 (fun r m => ∃ y, r = some y ∧ K y m) 4 [some (.inr 143), some (.inl c), some (.inl o)] [] mem := by
    intro N
    induction N with
    | zero => intros; omega
    | succ N ih =>
      intro c o ho hc hc2 hN
      refine w_354_4 (Ex.mono S (n + 2)) ⟨fun q _ => ⟨_, rfl, H c hc hc2⟩, fun q => f_263 hO hU hB (fun r r1 r2 _ => ⟨⟨ho, by omega⟩, fun v3 e3 _ => ?_⟩)⟩
      have := hC o.toNat (by omega)
      refine f_275 ⟨by omega, by omega⟩ ⟨by omega, by omega⟩ (fun u u1 u2 _ => ?_)
      have hu := up_rng (by omega) r1 u1 u2
      exact f_257 (fun _ _ => ⟨by unfold InI; omega, ih _ (o + 1) (by omega) (by omega) (by omega) (by omega)⟩)
  exact CW.of (k := 2) mt_354 rfl rfl (w_354_0 (Ex.mono S (n + 2)) (key 4 0 0 (by omega) (by omega) (by omega) (by omega)))
theorem f_335 (hO : OpsOK mem) (H : ∀ r, 0 ≤ r → r ≤ 48 → K r mem) : CWI (Ex S (n + 2)) 335 [.inr 143] mem K := by
  have h8 := hO.1
  have key : ∀ (N : Nat) (c : Int) (o : Int), 0 ≤ o → 0 ≤ c → c ≤ 6 * o → o ≤ mem 143 1 → (mem 143 1 - o).toNat < N → Wx (Ex S (n + 1)) S M_335 (fun r m => ∃ y, r = some y ∧ K y m) 4 [some (.inr 143), some (.inl c), some (.inl o)] [] mem := by
    intro N
    induction N with
    | zero => intros; omega
    | succ N ih =>
      intro c o ho hc hc2 ho2 hN
      refine w_335_4 (Ex.mono S (n + 1)) (fun v1 e1 _ => ⟨fun q _ => ⟨_, rfl, H c hc (by omega)⟩, fun q => f_246 hO ⟨ho, by omega⟩ (fun _ => ?_)⟩)
      have := hO.lat (o := o.toNat) (by omega)
      exact ⟨by unfold InI; omega, by unfold InI; omega, ih _ (o + 1) (by omega) (by omega) (by omega) (by omega) (by omega)⟩
  exact CW.of (k := 2) mt_335 rfl rfl (w_335_0 (Ex.mono S (n + 1)) (key 9 0 0 (by omega) (by omega) (by omega) h8.1 (by omega)))
theorem f_353 (hO : OpsOK mem) (hS : SoundM mem) (hU : UnOK mem) (hB : ∀ k, k < 6 → 1 ≤ mem 152 k ∧ mem 152 k ≤ 15) (hC : ∀ k, k < 3 → 1 ≤ mem 153 k ∧ mem 153 k ≤ 9) (H : ∀ r m', FrW mem m' → RN mem m' → NdsOK m' → K r m') : CWI (Ex S (n + 4)) 353 [.inr 143] mem K := by
  refine CW.of (k := 0) mt_353 rfl rfl (w_353_0 (Ex.mono S (n + 3)) (f_245 hO hS (fun m1 g1 g5 g2 g3 g4 => ?_)))
  have hN := NdsOK.of hO g1 g2 g3 g4
  have hRN : RN mem m1 := ⟨g5, fun _ => ⟨g2, g3⟩⟩
  refine f_255 hN (fun r m2 r1 r2 k1 _ => ?_)
  have kW := g1.w.tr k1.w
  have e : ∀ A i, (143 < A ∧ A < 154) → m2 A i = mem A i := fun A i q => kW A i (by omega) (by omega) (by omega) (by omega) (by omega) (by omega)
  refine f_354 (kW.ops hO) (fun k hk => by rw [e _ _ (by omega)]; exact hU k hk) (fun k hk => by rw [e _ _ (by omega)]; exact hB k hk) (fun k hk => by rw [e _ _ (by omega)]; exact hC k hk) (fun u u1 u2 _ => f_257 (fun _ _ => f_257 (fun _ _ _ => ⟨_, rfl, H _ m2 kW (hRN.tr (k1.rn (by omega))) (hN.fr k1)⟩)))
theorem RefOK.cn9 {m : MM} (h : RefOK m) : ∀ k, k < 3 → 1 ≤ m 153 k ∧ m 153 k ≤ 9 := fun k hk => by have := h.cn k hk; omega
theorem f_367 {x : Int} (h : RefOK mem) (H : Fin mem K) : CWI (Ex S (n + 5)) 367 [.inr 143, .inl x] mem K := by
  refine CW.of (k := 1) mt_367 rfl rfl (w_367_0 (Ex.mono S (n + 4)) (f_240 h.ops (fun hS _ => ⟨fun _ => ?_, fun z => absurd (by decide) z⟩) (fun _ _ => ⟨fun z => absurd rfl z, fun _ _ => H.at h FrQ.rf _⟩)))
  refine f_353 h.ops hS h.un h.bz h.cn9 (fun r m' k1 k2 k3 _ => ?_)
  have h' := k1.rest k2 h
  have hq := k1.f.q
  exact ⟨fun _ => ⟨fun _ => ⟨fun _ _ => H.at h' hq _, fun _ => f_354 h'.ops h'.un h'.bz h'.cn9 (fun u _ _ _ _ => H.at h' hq _)⟩, fun _ => f_255 k3 (fun u m'' _ _ q _ _ => H.at (q.w.rest (q.rn (by omega)) h') (hq.tr q.w.f.q) _)⟩, fun _ v _ _ _ => H.at h' hq _⟩
theorem f_366 {x : Int} (h : RefOK mem) (H : Fin mem K) : CWI (Ex S (n + 6)) 366 [.inr 143, .inl x] mem K := by
  have h' := h.th' (z := 0) (by omega)
  refine CW.of (k := 0) mt_366 rfl rfl (w_366_0 (Ex.mono S (n + 5)) ⟨fun _ => f_227 (fun _ _ _ => ⟨fun z => absurd z (by decide), fun _ => f_367 h' (fun r m' h1 h2 _ _ => H.at h1 (FrQ.th.tr h2) _)⟩) (fun _ _ => ⟨fun _ => ⟨fun _ => f_227 (fun a b _ => ⟨fun z => absurd z (by decide), fun _ => ⟨by unfold InI; omega, by omega, fun v _ _ _ => H.at h' FrQ.th _⟩⟩) (fun _ _ => ⟨fun _ _ => H.at h' FrQ.th _, fun z => absurd rfl z⟩), fun _ => f_335 h'.ops (fun r _ _ _ _ => H.at h' FrQ.th _)⟩, fun z => absurd rfl z⟩), fun _ v _ _ _ => H.at h' FrQ.th _⟩)
theorem f_355 {x : Int} (h : RefOK mem) (H : Fin mem K) : CWI (Ex S (n + 4)) 355 [.inr 143, .inl x] mem K := by
  refine CW.of (k := 1) mt_355 rfl rfl (w_355_0 (Ex.mono S (n + 3)) (f_240 h.ops (fun hS _ => ⟨fun z => absurd z (by decide), fun _ => ?_⟩) (fun _ _ => ⟨fun _ _ => H.thr h FrQ.rf 0 (by omega), fun z => absurd rfl z⟩)))
  have h' := h.th' (z := 0) (by omega)
  refine f_245 h'.ops hS.th (fun m4 g1 g5 g2 g3 g4 v5 e5 _ => ⟨by unfold InI; omega, ?_⟩)
  have hN := NdsOK.of h'.ops g1 g2 g3 g4
  have hm : RefOK m4 := g1.w.rest ⟨g5, fun _ => ⟨g2, g3⟩⟩ h'
  have hq : FrQ mem m4 := FrQ.th.tr g1.w.f.q
  refine f_227 (fun a1 a2 _ => ⟨fun z => absurd z (by decide), fun _ => ?_⟩) (fun _ _ => ⟨fun _ _ => H.thr hm hq 0 (by omega), fun z => absurd rfl z⟩)
  have hN2 : NdsOK (upm (upm m4 143 0 0) 143 18 x) := hN
  refine f_255 hN2 (fun r m5 _ _ k1 _ _ => ⟨_, rfl, H r _ ?_ ?_⟩)
  · have e : ∀ A i, ¬ A = 158 → ¬ (A = 143 ∧ i = 18) → upm m5 143 18 (-1) A i = upm m4 143 0 0 A i := fun A i q1 q2 => by rw [upm_ne q2, k1 A i q1, upm_ne q2]
    have hm' := hm.th' (z := 0) (by omega)
    refine Kp.rest (m := upm m4 143 0 0) (fun A i q => ?_) hm' (fun o ho => by rw [e _ _ (by omega) (by omega)]; exact hm'.sl o ho) (fun j hj => by rw [e _ _ (by omega) (by omega), e _ _ (by omega) (by omega), e _ _ (by omega) (by omega), e _ _ (by omega) (by omega)]; exact hm'.r48 j hj) (by rw [e _ _ (by omega) (by omega)]; exact hm'.nd)
    by_cases q2 : A = 143 ∧ i = 18
    · obtain ⟨rfl, rfl⟩ := q2
      rw [upm_eq]; exact hm'.lo.symm
    · exact e A i (by omega) q2
  · refine hq.tr (fun A i q => ?_)
    rw [upm_ne (by omega), k1 A i (by omega), upm_ne (by omega), upm_ne (by omega)]
theorem back {A0 i0 : Nat} {u w : Int} {m m9 : MM} (hA : A0 = 151 ∨ A0 = 153) (h : RefOK m) (hw : w = m A0 i0) (k : FrW (upm m A0 i0 u) m9) (r : RN (upm m A0 i0 u) m9) : RefOK (upm m9 A0 i0 w) ∧ FrQ m (upm m9 A0 i0 w) := by
  have e : ∀ A i, ¬ A = 154 → ¬ A = 155 → ¬ A = 156 → ¬ A = 157 → ¬ A = 158 → ¬ (A = 143 ∧ i = 12) → upm m9 A0 i0 w A i = m A i := fun A i e1 e2 e3 e4 e5 e6 => by
    by_cases q : A = A0 ∧ i = i0
    · obtain ⟨rfl, rfl⟩ := q
      rw [upm_eq]; exact hw
    · rw [upm_ne q, k A i e1 e2 e3 e4 e5 e6, upm_ne q]
  have s1 : R4 m (upm m A0 i0 u) := R4.same (fun A i q => upm_ne (by omega))
  have s2 : R4 m9 (upm m9 A0 i0 w) := R4.same (fun A i q => upm_ne (by omega))
  have hn := r.2 (by rw [upm_ne (by omega)]; exact h.nd)
  exact ⟨Kp.rest (fun A i q => e A i (by omega) (by omega) (by omega) (by omega) (by omega) (by omega)) h (fun o ho => by rw [e _ _ (by omega) (by omega) (by omega) (by omega) (by omega) (by omega)]; exact h.sl o ho) (s2 (r.1 (s1 h.r48))) (by rw [upm_ne (by omega)]; exact hn), fun A i q => e A i (by omega) (by omega) (by omega) (by omega) (by omega) (by omega)⟩
theorem OpsOK.lat1 {m : MM} {i0 : Nat} {u : Int} (h : OpsOK m) (hu : 1 ≤ u ∧ u ≤ 6) : OpsOK (upm m 151 i0 u) := by
  refine ⟨h.1, fun o ho => h.2.1 o ho, fun k hk => ?_⟩
  by_cases q : k = i0
  · subst q; rw [upm_eq]; exact hu
  · rw [upm_ne (fun z => q z.2)]; exact h.2.2 k hk
theorem f_352 {x : Int} (h : RefOK mem) (H : Fin mem K) : CWI (Ex S (n + 5)) 352 [.inr 143, .inl x] mem K := by
  refine CW.of (k := 1) mt_352 rfl rfl (w_352_0 (Ex.mono S (n + 4)) (f_227 (fun a1 a2 _ => ⟨fun _ => f_240 h.ops (fun hS _ => ⟨fun z => absurd z (by decide), fun _ => ⟨by omega, fun v6 e6 _ => ⟨fun q => ⟨by omega, fun v8 e8 _ => ?_⟩, fun _ _ => H.thr h FrQ.rf 0 (by omega)⟩⟩⟩) (fun _ _ => ⟨fun _ _ => H.thr h FrQ.rf 0 (by omega), fun z => absurd rfl z⟩), fun z => absurd (by decide) z⟩) (fun _ _ => ⟨fun z => absurd rfl z, fun _ _ => H.thr h FrQ.rf 0 (by omega)⟩)))
  have h' := h.th' (z := 0) (by omega)
  have e8' : v8 = v6 := by rw [e8, e6, upm_ne (by omega)]
  have hl := h.ops.2.2 x.toNat (by omega)
  refine ⟨by unfold InI; omega, by omega, f_353 (h'.ops.lat1 ⟨by omega, by omega⟩) hS h'.un h'.bz h'.cn9 (fun r m9 k1 k2 k3 _ => ⟨by omega, fun v11 e11 _ => ?_⟩)⟩
  have e11' : v11 = v8 - 1 := by rw [e11, k1 _ _ (by omega) (by omega) (by omega) (by omega) (by omega) (by omega), upm_eq]
  obtain ⟨b1, b2⟩ := back (w := v11 + 1) (Or.inl rfl) h' (by rw [e11', ← e8]; omega) k1 k2
  exact ⟨by unfold InI; omega, by omega, fun _ => ⟨_, rfl, H r _ b1 (FrQ.th.tr b2)⟩⟩
theorem f_357 {x : Int} (h : RefOK mem) (H : Fin mem K) : CWI (Ex S (n + 5)) 357 [.inr 143, .inl x] mem K := by
  refine CW.of (k := 1) mt_357 rfl rfl (w_357_0 (Ex.mono S (n + 4)) (f_227 (fun a1 a2 _ => ⟨fun _ => f_240 h.ops (fun hS _ => ⟨fun _ => ⟨by omega, fun v6 e6 _ => ?_⟩, fun z => absurd (by decide) z⟩) (fun _ _ => ⟨fun z => absurd rfl z, fun _ _ => H.thr h FrQ.rf 0 (by omega)⟩), fun z => absurd (by decide) z⟩) (fun _ _ => ⟨fun z => absurd rfl z, fun _ _ => H.thr h FrQ.rf 0 (by omega)⟩)))
  have h' := h.th' (z := 0) (by omega)
  have hl := h'.cn x.toNat (by omega)
  refine ⟨by unfold InI; omega, by omega, f_353 h'.ops hS h'.un h'.bz (fun k hk => ?_) (fun r m9 k1 k2 k3 _ => ⟨by omega, fun v11 e11 _ => ?_⟩)⟩
  · by_cases q : k = x.toNat
    · subst q; rw [upm_eq]; omega
    · rw [upm_ne (fun z => q z.2)]; exact h'.cn9 k hk
  have e11' : v11 = v6 + 1 := by rw [e11, k1 _ _ (by omega) (by omega) (by omega) (by omega) (by omega) (by omega), upm_eq]
  obtain ⟨b1, b2⟩ := back (w := v11 - 1) (Or.inr rfl) h' (by rw [e11', ← e6]; omega) k1 k2
  exact ⟨by unfold InI; omega, by omega, fun _ => ⟨_, rfl, H r _ b1 (FrQ.th.tr b2)⟩⟩
theorem f_343 {x : Int} (h : RefOK mem) (H : Fin mem K) : CWI (Ex S (n + 6)) 343 [.inr 143, .inl x] mem K := by
  refine CW.of (k := 0) mt_343 rfl rfl (w_343_0 (Ex.mono S (n + 5)) (f_240 h.ops (fun hS _ => ⟨fun z => absurd z (by decide), fun _ => ?_⟩) (fun _ _ => ⟨fun _ _ => H.thr h FrQ.rf 0 (by omega), fun z => absurd rfl z⟩)))
  have h' := h.th' (z := 0) (by omega)
  exact f_344 h'.ops hS.th (fun m' k1 k2 _ _ => ⟨fun _ v _ _ _ => H.at (k1.rest k2 h') (FrQ.th.tr k1.q) _, fun _ v _ _ _ => H.at (k1.rest k2 h') (FrQ.th.tr k1.q) _⟩)
theorem f_348 (h : RefOK mem) (H : Fin mem K) : CWI (Ex S (n + 6)) 348 [.inr 143] mem K := by
  refine CW.of (k := 0) mt_348 rfl rfl (w_348_0 (Ex.mono S (n + 5)) (f_240 h.ops (fun hS _ => ⟨fun z => absurd z (by decide), fun _ => ?_⟩) (fun _ _ => ⟨fun _ _ => H.thr h FrQ.rf 0 (by omega), fun z => absurd rfl z⟩)))
  have h' := h.th' (z := 0) (by omega)
  exact f_344 h'.ops hS.th (fun m' k1 k2 _ _ v _ _ _ => H.at (k1.rest k2 h') (FrQ.th.tr k1.q) _)
theorem f_350 (h : RefOK mem) (hR : RtOK mem) {x : Int} (hx : 1 ≤ x ∧ x ≤ 4) (H : ∀ r, 0 ≤ r → r ≤ 500 → K r mem) : CWI (Ex S (n + 3)) 350 [.inr 143, .inl x] mem K := by
  obtain ⟨q1, q2, q3, q4⟩ := hR
  have key : ∀ (N : Nat) (c : Int) (o : Int), 0 ≤ o → 0 ≤ c → c ≤ 500 → (3 - o).toNat < N → Wx (Ex S (n + 2)) S M_350 (fun r m => ∃ y, r = some y ∧ K y m) 20 [some (.inr 143), some (.inl x), some (.inl c), some (.inl o)] [] mem := by
    intro N
    induction N with
    | zero => intros; omega
    | succ N ih =>
      intro c o ho hc hc2 hN
      refine w_350_20 (Ex.mono S (n + 2)) ⟨fun q _ => ⟨_, rfl, H c hc hc2⟩, fun q => f_263 h.ops h.un h.bz (fun r r1 r2 _ => ?_)⟩
      have p : 0 ≤ x * r ∧ x * r ≤ 480 := by
        have a1 : 0 ≤ x * r := Int.mul_nonneg (by omega) (by omega)
        have a2 : x * r ≤ 4 * r := Int.mul_le_mul_of_nonneg_right hx.2 (by omega)
        omega
      refine ⟨by unfold InI; omega, ⟨ho, by omega⟩, fun v3 e3 _ => ?_⟩
      have := h.cn o.toNat (by omega)
      refine f_275 ⟨by omega, by omega⟩ ⟨by omega, by omega⟩ (fun u u1 u2 _ => ?_)
      have hu := up_rng (by omega) p.1 u1 u2
      exact f_257 (fun _ _ => ⟨by unfold InI; omega, ih _ (o + 1) (by omega) (by omega) (by omega) (by omega)⟩)
  refine CW.of (k := 2) mt_350 rfl rfl (w_350_0 (Ex.mono S (n + 2)) (fun v1 e1 _ => ?_))
  have p : 0 ≤ x * v1 ∧ x * v1 ≤ 400 := by
    have a1 : 0 ≤ x * v1 := Int.mul_nonneg (by omega) (by omega)
    have a2 : x * v1 ≤ 4 * v1 := Int.mul_le_mul_of_nonneg_right hx.2 (by omega)
    omega
  refine ⟨by unfold InI; omega, fun v2 e2 _ => f_275 ⟨by omega, by omega⟩ ⟨by omega, by omega⟩ (fun u u1 u2 _ => ?_)⟩
  have hu := up_rng (by omega) p.1 u1 u2
  exact f_257 (fun _ _ => key 4 _ 0 (by omega) (by omega) (by omega) (by omega))
theorem f_349 {x : Int} (h : RefOK mem) (H : Fin mem K) : CWI (Ex S (n + 6)) 349 [.inr 143, .inl x] mem K := by
  refine CW.of (k := 0) mt_349 rfl rfl (w_349_0 (Ex.mono S (n + 5)) (f_227 (fun a1 a2 _ => ⟨fun _ => f_240 h.ops (fun hS _ => ⟨fun _ => ?_, fun z => absurd (by decide) z⟩) (fun _ _ => ⟨fun z => absurd rfl z, fun _ _ => H.thr h FrQ.rf 0 (by omega)⟩), fun z => absurd (by decide) z⟩) (fun _ _ => ⟨fun z => absurd rfl z, fun _ _ => H.thr h FrQ.rf 0 (by omega)⟩)))
  have h' := h.th' (z := 0) (by omega)
  exact f_344 h'.ops hS.th (fun m' k1 k2 _ k4 => f_350 (k1.rest k2 h') k4 ⟨a1, a2⟩ (fun r _ _ _ _ => H.at (k1.rest k2 h') (FrQ.th.tr k1.q) _))
theorem mul4 {r x : Int} (h : 0 ≤ r ∧ r ≤ 500) (hx : 1 ≤ x ∧ x ≤ 4) : InI (r * x) := by
  have a1 : 0 ≤ r * x := Int.mul_nonneg (by omega) (by omega)
  have a2 : r * x ≤ r * 4 := Int.mul_le_mul_of_nonneg_left hx.2 (by omega)
  unfold InI; omega
theorem f_351 (h : RefOK mem) (H : Fin mem K) : CWI (Ex S (n + 6)) 351 [.inr 143] mem K := by
  refine CW.of (k := 2) mt_351 rfl rfl (w_351_0 (Ex.mono S (n + 5)) (f_240 h.ops (fun hS _ => ⟨fun z => absurd z (by decide), fun _ => ?_⟩) (fun _ _ => ⟨fun _ _ => H.thr h FrQ.rf 0 (by omega), fun z => absurd rfl z⟩)))
  have h' := h.th' (z := 0) (by omega)
  refine f_344 h'.ops hS.th (fun m' k1 k2 _ k4 => ?_)
  have hm := k1.rest k2 h'
  have hq := FrQ.th.tr k1.q
  have key : ∀ (N : Nat) (b k : Int), 1 ≤ b → b ≤ 4 → 1 ≤ k → (5 - k).toNat < N → Wx (Ex S (n + 5)) S M_351 (fun r m => ∃ y, r = some y ∧ K y m) 33 [some (.inr 143), some (.inl b), some (.inl k)] [] m' := by
    intro N
    induction N with
    | zero => intros; omega
    | succ N ih =>
      intro b k hb hb2 hk hN
      refine w_351_33 (Ex.mono S (n + 5)) ⟨fun q _ => H.at hm hq _, fun q => f_350 hm k4 ⟨hk, by omega⟩ (fun r r1 r2 _ => ⟨mul4 ⟨r1, r2⟩ ⟨hb, hb2⟩, f_350 hm k4 ⟨hb, hb2⟩ (fun s s1 s2 _ => ⟨mul4 ⟨s1, s2⟩ ⟨hk, by omega⟩, fun _ => ⟨by unfold InI; omega, ih b (k + 1) hb hb2 (by omega) (by omega)⟩, fun _ => ⟨by unfold InI; omega, ih k (k + 1) hk (by omega) (by omega) (by omega)⟩⟩)⟩)⟩
  exact key 6 1 2 (by omega) (by omega) (by omega) (by omega)
end MORE
end
section
/-! between regions with ranges and a memory -/
def memOf (h : PH) : MM := fun A i => match h[A]? with
  | some (.inl (0, _, .inl g)) => (g i).toInt
  | some (.inr (_, gs)) => (match gs[i]? with
    | some (.int z) => z.toInt
    | _ => 0)
  | _ => 0
theorem memOf_row {h : PH} {A n i : Nat} {g : Nat → Int32} (e : h[A]? = some (.inl (0, n, .inl g))) : memOf h A i = (g i).toInt := by unfold memOf; simp only [e]
theorem memOf_fld {h : PH} {A ci f : Nat} {gs : List Value} {z : Int32} (e : h[A]? = some (.inr (ci, gs))) (e2 : gs[f]? = some (.int z)) : memOf h A f = z.toInt := by unfold memOf; simp only [e, e2]
def shOf (rs : RS) (i : Nat) (c : CS) : Option SH := match c with
  | .inl (z, _, _) => some (.inl z)
  | .inr (.inr (.inr (ci, fs))) => some (.inr (ci, fs.map fun a => match a with
    | .inl _ => none
    | .inr k => (match rs[k]? with
      | some q => q.1[if isOne q.1 = true then 0 else i]?
      | none => none)))
  | _ => none
def shChk (rs : RS) : Bool := rs.all (fun q => (List.range q.1.length).all fun i => match q.1[i]? with
  | some A => (match shA A with
    | some s => decide (shOf rs i q.2 = some s)
    | none => true)
  | none => true) && (List.range 200).all fun A => match shA A with
  | some _ => rs.any fun q => q.1.contains A
  | none => true
set_option maxRecDepth 100000 in
theorem shA_lt {A : Nat} {s : SH} (h : shA A = some s) : A < 200 := by
  unfold shA at h
  split at h <;> first | omega | cases h
section BRIDGE
variable {rs : RS} {h h' : PH} {mm' : MM}
theorem shChk.at (H : shChk rs = true) {k i A : Nat} {q : List Nat × CS} {s : SH} (h1 : rs[k]? = some q) (h2 : q.1[i]? = some A) (h3 : shA A = some s) : shOf rs i q.2 = some s := by
  unfold shChk at H
  rw [Bool.and_eq_true, List.all_eq_true] at H
  have g := H.1 q (List.mem_of_getElem? h1)
  rw [List.all_eq_true] at g
  have g := g i (List.mem_range.mpr (List.getElem?_eq_some_iff.mp h2).1)
  rw [h2] at g
  simp only [h3] at g
  exact of_decide_eq_true g
def rngC (c : CS) (m : Nat → Int) : Prop := match c with
  | .inl (z, sd, rl) => ∀ j, j < z → ∃ r, rl[j % sd]? = some r ∧ r.1 ≤ m j ∧ m j ≤ r.2
  | .inr (.inr (.inr (_, fs))) => ∀ f lo hi, fs[f]? = some (.inl (lo, hi)) → lo ≤ m f ∧ m f ≤ hi
  | _ => True
def rngOK (rs : RS) (mem : MM) : Prop := ∀ (k i A : Nat) (q : List Nat × CS), rs[k]? = some q → q.1[i]? = some A → shA A ≠ none → rngC q.2 (mem A)
theorem HOK.rng (H : HOK rs h) : rngOK rs (memOf h) := by
  intro k i A q h1 h2 _
  obtain ⟨y, e1, e2⟩ := H k q i A h1 h2
  obtain ⟨ads, c⟩ := q
  rcases c with ⟨z, sd, rl⟩ | z | ⟨t, k'⟩ | ⟨ci, fs⟩
  · obtain ⟨g, rfl, g2⟩ := e2
    intro j hj
    obtain ⟨r, r1, r2, r3⟩ := g2 j hj
    exact ⟨r, r1, by rw [memOf_row e1]; exact r2, by rw [memOf_row e1]; exact r3⟩
  · trivial
  · trivial
  · obtain ⟨gs, rfl, g1, g2⟩ := e2
    intro f lo hi hf
    obtain ⟨w, w1, z, rfl, w2, w3⟩ := g2 f _ hf
    rw [memOf_fld e1 w1]
    exact ⟨w2, w3⟩
end BRIDGE
end
section
/-! a switch -/
theorem Wx.tsw {C : CXW} (hC : Cmono C) {S : Nat × (Nat → Int32)} {M : PM} {K : WK} {pc : Nat} {L : List (Option WV)} {st : List WV} {mem : MM} {d lo hi x : Int} {offs : Array Int} {a b t : Nat} {ts : List Nat} (ht : (pT M).find? (fun e => e.1 == pc) = some (pc, .tableswitch d lo hi offs, a, b)) (hn : hi - lo + 1 = offs.size) (hz : (pc : Int) + d = t) (hts : offs.toList.map (fun o => (pc : Int) + o) = ts.map fun (n : Nat) => (n : Int)) (H1 : x < lo ∨ hi < x → Wx C S M K t L st mem) (H2 : ∀ (i t' : Nat), ts[i]? = some t' → x = lo + i → Wx C S M K t' L st mem) : Wx C S M K pc L (.inl x :: st) mem :=
  Wx.go hC ht fun h0 lv h h1 h2 h3 => by
    have hx := wi (h2 _ List.mem_cons_self)
    have hst : ∀ u ∈ st, vOK u := fun u hu => h2 u (List.mem_cons_of_mem _ hu)
    refine ⟨?_, ?_⟩
    · intro q
      rw [hx] at q
      refine ⟨by show 0 ≤ (pc : Int) + d; omega, ?_⟩
      show Vx C S M [] (QK h0 K) ((pc : Int) + d).toNat _ _ _ _ _
      rw [show ((pc : Int) + d).toNat = t by omega]; exact H1 q h0 lv h h1 hst h3
    · intro q1 q2
      rw [hx] at q1 q2 ⊢
      have hl : (x - lo).toNat < offs.size := by omega
      have e1 : offs.toList[(x - lo).toNat]? = some (offs[(x - lo).toNat]'hl) := by simp
      have e2 : (offs.toList.map (fun o => (pc : Int) + o))[(x - lo).toNat]? = some ((pc : Int) + offs[(x - lo).toNat]'hl) := by rw [List.getElem?_map, e1]; rfl
      rw [hts, List.getElem?_map] at e2
      cases ht' : ts[(x - lo).toNat]? with
      | none => rw [ht'] at e2; cases e2
      | some t' =>
        rw [ht'] at e2
        have e3 : (t' : Int) = (pc : Int) + offs[(x - lo).toNat]'hl := Option.some.inj e2
        refine ⟨offs[(x - lo).toNat]'hl, by simp [hl], by show 0 ≤ (pc : Int) + _; omega, ?_⟩
        show Vx C S M [] (QK h0 K) ((pc : Int) + _).toNat _ _ _ _ _
        rw [show ((pc : Int) + offs[(x - lo).toNat]'hl).toNat = t' by omega]
        exact H2 _ t' ht' (by omega) h0 lv h h1 hst h3
end

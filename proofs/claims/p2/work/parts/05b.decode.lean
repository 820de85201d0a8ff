/-! laid by wip/p1/gen2.py: the instructions are what the bytes decode to -/
def xic (e : Nat) : Nat := match e with
  | 0 => 87
  | 1 => 109
  | 2 => 430
  | 3 => 443
  | _ => 0
abbrev xup : List String := ["java/lang/RuntimeException", "java/lang/Exception"]
def ilen (e : TE) : Nat := match e.2.1 with
  | .iload _ => 2
  | .lload _ => 2
  | .aload _ => 2
  | .istore _ => 2
  | .lstore _ => 2
  | .astore _ => 2
  | .bipush _ => 2
  | .ldc _ => 2
  | .newarray _ => 2
  | .sipush _ => 3
  | .ldc_w _ => 3
  | .iinc _ _ => 3
  | .goto _ => 3
  | .ifCond _ _ => 3
  | .if_icmp _ _ => 3
  | .getfield _ => 3
  | .putfield _ => 3
  | .invokevirtual _ => 3
  | .invokestatic _ => 3
  | .invokespecial _ => 3
  | .new _ => 3
  | .anewarray _ => 3
  | .multianewarray _ _ => 4
  | .tableswitch _ _ _ _ => e.2.2.1
  | _ => 1
def fin? (ci k : Nat) : Bool := match vwCl[ci]? with
  | some r => (r.2.1 k).2.2.2
  | none => true
def dcd (cc : ByteArray) (pc : Nat) (i : Instr) (n : Nat) : Bool := decide (decode cc pc = .ok (i, n))
def xok (o : Nat) (cc : ByteArray) (pc i a : Nat) : Bool := match XLs[a]? with
  | some x => x.1 == o && x.2.1 == i && x.2.2.2.2.2 == xic x.2.2.1 && decide (x.2.2.1 < 4) && decide (o = 9) && dcd cc (pc + 3) .dup 1 &&
      (if x.2.2.2.1 = 1 then dcd cc (pc + 4) (.ldc_w x.2.2.2.2.1) 3 && dcd cc (pc + 7) (.invokespecial x.2.2.2.2.2) 3 && dcd cc (pc + 10) .athrow 1 else dcd cc (pc + 4) (.ldc x.2.2.2.2.1) 2 && dcd cc (pc + 6) (.invokespecial x.2.2.2.2.2) 3 && dcd cc (pc + 9) .athrow 1)
  | none => false
def lkOK (o : Nat) (cc : ByteArray) (ini : Bool) (e : TE) : Bool := match e.2.1 with
  | .getfield i => decide (e.2.2.1 < 11) && (decide ((o, i, e.2.2.1, e.2.2.2, 0) ∈ FLs) || decide ((o, i, e.2.2.1, e.2.2.2, 1) ∈ FLs))
  | .putfield i => decide (e.2.2.1 < 11) && (if fin? e.2.2.1 e.2.2.2 then ini && decide ((o, i, e.2.2.1, e.2.2.2, 0) ∈ FLs) && e.2.2.1 == o else decide ((o, i, e.2.2.1, e.2.2.2, 0) ∈ FLs) || decide ((o, i, e.2.2.1, e.2.2.2, 1) ∈ FLs))
  | .invokevirtual i => decide ((o, i, e.2.2.1, e.2.2.2) ∈ MLs) && (e.2.2.2 == 0 || e.2.2.2 == 1)
  | .invokestatic i => decide ((o, i, e.2.2.1, e.2.2.2) ∈ MLs) && (e.2.2.2 == 7 || e.2.2.2 == 2 || e.2.2.2 == 3 || e.2.2.2 == 8)
  | .invokespecial i => e.2.2.2 == 98 || (decide ((o, i, e.2.2.1, e.2.2.2) ∈ MLs) && (e.2.2.2 == 6 || e.2.2.2 == 4 || e.2.2.2 == 5))
  | .new i => (e.2.2.2 == 0 && decide ((o, i, e.2.2.1) ∈ CLs) && decide (e.2.2.1 < 11)) || (e.2.2.2 == 1 && xok o cc e.1 i e.2.2.1)
  | .ldc i => e.2.2.2 == 98 || (match KLs[e.2.2.1]? with | some q => q.1 == o && q.2.1 == i | none => false)
  | .ldc_w i => e.2.2.2 == 98 || (match KLs[e.2.2.1]? with | some q => q.1 == o && q.2.1 == i | none => false)
  | .anewarray i => decide ((o, i, 90) ∈ CLs)
  | .multianewarray i d => decide ((o, i, 91) ∈ CLs) && d == 2
  | _ => true
def teK (o : Nat) (cc : ByteArray) (ini : Bool) (e : TE) : Bool := dcd cc e.1 e.2.1 (ilen e) && lkOK o cc ini e
def mOK (M : PM) : Bool := (pT M).all (teK (pO M) (pB M) (pK M == 2))
/-- kinds of the links beside kinds of the methods -/
noncomputable def mkK (f : Nat × Nat × Nat × Nat) : Bool := if f.2.2.2 = 6 ∨ f.2.2.2 = 7 then true else match MT[f.2.2.1]? with
  | some M => if f.2.2.2 = 0 ∨ f.2.2.2 = 1 then pK M == 0 else if f.2.2.2 = 2 ∨ f.2.2.2 = 3 then pK M == 1 else if f.2.2.2 = 4 ∨ f.2.2.2 = 5 then pK M == 2 else pK M == 3
  | none => false
set_option maxRecDepth 100000 in
theorem MLk_ok : MLs.all mkK = true := by decide +kernel
def mInfo (M : PM) : Bool := (match parseMethodDescriptor (pY M).desc with | some d => d.parameters.length + (if pK M = 0 ∨ pK M = 2 then 1 else 0) == pN M | none => false) && plainName (pY M).cls && decide (pL M ≤ 21) && decide (pO M < 15)
theorem all_app {α : Type} {p : α → Bool} {a b : List α} (h : a.all p = true) (g : b.all p = true) : (a ++ b).all p = true := by rw [List.all_append, h, g]; rfl

set_option maxRecDepth 100000 in
theorem dk_0_0 : tb_0_0.all (teK 9 cX9_init true) = true := by decide +kernel
set_option maxRecDepth 100000 in
theorem dk_0_1 : tb_0_1.all (teK 9 cX9_init true) = true := by decide +kernel
theorem dk_0 : tb_0.all (teK 9 cX9_init true) = true := all_app dk_0_0 (dk_0_1)
set_option maxRecDepth 100000 in
theorem dk_1_0 : tb_1_0.all (teK 0 cX0_init true) = true := by decide +kernel
set_option maxRecDepth 100000 in
theorem dk_1_1 : tb_1_1.all (teK 0 cX0_init true) = true := by decide +kernel
set_option maxRecDepth 100000 in
theorem dk_1_2 : tb_1_2.all (teK 0 cX0_init true) = true := by decide +kernel
theorem dk_1 : tb_1.all (teK 0 cX0_init true) = true := all_app dk_1_0 (all_app dk_1_1 (dk_1_2))
set_option maxRecDepth 100000 in
theorem dk_2 : tb_2.all (teK 7 cX7_init true) = true := by decide +kernel
set_option maxRecDepth 100000 in
theorem dk_3 : tb_3.all (teK 5 cX5_init true) = true := by decide +kernel
set_option maxRecDepth 100000 in
theorem dk_4_0 : tb_4_0.all (teK 6 cX6_init true) = true := by decide +kernel
set_option maxRecDepth 100000 in
theorem dk_4_1 : tb_4_1.all (teK 6 cX6_init true) = true := by decide +kernel
theorem dk_4 : tb_4.all (teK 6 cX6_init true) = true := all_app dk_4_0 (dk_4_1)
set_option maxRecDepth 100000 in
theorem dk_5 : tb_5.all (teK 1 cX1_init true) = true := by decide +kernel
set_option maxRecDepth 100000 in
theorem dk_6 : tb_6.all (teK 2 cX2_init true) = true := by decide +kernel
set_option maxRecDepth 100000 in
theorem dk_7 : tb_7.all (teK 4 cX4_init true) = true := by decide +kernel
set_option maxRecDepth 100000 in
theorem dk_8 : tb_8.all (teK 8 cX8_init true) = true := by decide +kernel
set_option maxRecDepth 100000 in
theorem dk_9 : tb_9.all (teK 3 cX3_init true) = true := by decide +kernel
set_option maxRecDepth 100000 in
theorem dk_10 : tb_10.all (teK 9 cX9_isSound false) = true := by decide +kernel
set_option maxRecDepth 100000 in
theorem dk_11 : tb_11.all (teK 9 cX9_refresh false) = true := by decide +kernel
set_option maxRecDepth 100000 in
theorem dk_12 : tb_12.all (teK 0 cX0_isWhole false) = true := by decide +kernel
set_option maxRecDepth 100000 in
theorem dk_13 : tb_13.all (teK 0 cX0_sourcesOf false) = true := by decide +kernel
set_option maxRecDepth 100000 in
theorem dk_14 : tb_14.all (teK 0 cX0_sourceAt false) = true := by decide +kernel
set_option maxRecDepth 100000 in
theorem dk_15 : tb_15.all (teK 0 cX0_distanceAt false) = true := by decide +kernel
set_option maxRecDepth 100000 in
theorem dk_16 : tb_16.all (teK 0 cX0_holdsSource false) = true := by decide +kernel
set_option maxRecDepth 100000 in
theorem dk_17_0 : tb_17_0.all (teK 7 cX7_weave false) = true := by decide +kernel
set_option maxRecDepth 100000 in
theorem dk_17_1 : tb_17_1.all (teK 7 cX7_weave false) = true := by decide +kernel
theorem dk_17 : tb_17.all (teK 7 cX7_weave false) = true := all_app dk_17_0 (dk_17_1)
set_option maxRecDepth 100000 in
theorem dk_18 : tb_18.all (teK 7 cX7_latencyBut false) = true := by decide +kernel
set_option maxRecDepth 100000 in
theorem dk_19 : tb_19.all (teK 0 cX0_latencyAt false) = true := by decide +kernel
set_option maxRecDepth 100000 in
theorem dk_20_0 : tb_20_0.all (teK 7 cX7_insert false) = true := by decide +kernel
set_option maxRecDepth 100000 in
theorem dk_20_1 : tb_20_1.all (teK 7 cX7_insert false) = true := by decide +kernel
set_option maxRecDepth 100000 in
theorem dk_20_2 : tb_20_2.all (teK 7 cX7_insert false) = true := by decide +kernel
theorem dk_20 : tb_20.all (teK 7 cX7_insert false) = true := all_app dk_20_0 (all_app dk_20_1 (dk_20_2))
set_option maxRecDepth 100000 in
theorem dk_21 : tb_21.all (teK 7 cX7_compareAt false) = true := by decide +kernel
set_option maxRecDepth 100000 in
theorem dk_22 : tb_22.all (teK 7 cX7_set false) = true := by decide +kernel
set_option maxRecDepth 100000 in
theorem dk_23_0 : tb_23_0.all (teK 7 cX7_weaveRows false) = true := by decide +kernel
set_option maxRecDepth 100000 in
theorem dk_23_1 : tb_23_1.all (teK 7 cX7_weaveRows false) = true := by decide +kernel
set_option maxRecDepth 100000 in
theorem dk_23_2 : tb_23_2.all (teK 7 cX7_weaveRows false) = true := by decide +kernel
theorem dk_23 : tb_23.all (teK 7 cX7_weaveRows false) = true := all_app dk_23_0 (all_app dk_23_1 (dk_23_2))
set_option maxRecDepth 100000 in
theorem dk_24 : tb_24.all (teK 0 cX0_rowAt false) = true := by decide +kernel
set_option maxRecDepth 100000 in
theorem dk_25 : tb_25.all (teK 0 cX0_placeAt false) = true := by decide +kernel
set_option maxRecDepth 100000 in
theorem dk_26 : tb_26.all (teK 7 cX7_weigh false) = true := by decide +kernel
set_option maxRecDepth 100000 in
theorem dk_27_0 : tb_27_0.all (teK 7 cX7_goOn false) = true := by decide +kernel
set_option maxRecDepth 100000 in
theorem dk_27_1 : tb_27_1.all (teK 7 cX7_goOn false) = true := by decide +kernel
theorem dk_27 : tb_27.all (teK 7 cX7_goOn false) = true := all_app dk_27_0 (dk_27_1)
set_option maxRecDepth 100000 in
theorem dk_28 : tb_28.all (teK 7 cX7_weighRing false) = true := by decide +kernel
set_option maxRecDepth 100000 in
theorem dk_29 : tb_29.all (teK 13 cJ9_min_7cf53 false) = true := by decide +kernel
set_option maxRecDepth 100000 in
theorem dk_30 : tb_30.all (teK 7 cX7_commonDivisor false) = true := by decide +kernel
set_option maxRecDepth 100000 in
theorem dk_31_0 : tb_31_0.all (teK 9 cX9_count false) = true := by decide +kernel
set_option maxRecDepth 100000 in
theorem dk_31_1 : tb_31_1.all (teK 9 cX9_count false) = true := by decide +kernel
theorem dk_31 : tb_31.all (teK 9 cX9_count false) = true := all_app dk_31_0 (dk_31_1)
set_option maxRecDepth 100000 in
theorem dk_32 : tb_32.all (teK 7 cX7_rounds false) = true := by decide +kernel
set_option maxRecDepth 100000 in
theorem dk_33 : tb_33.all (teK 9 cX9_roundUp false) = true := by decide +kernel
set_option maxRecDepth 100000 in
theorem dk_34 : tb_34.all (teK 13 cJ9_floorDiv_7cf53 false) = true := by decide +kernel
set_option maxRecDepth 100000 in
theorem dk_35 : tb_35.all (teK 0 cX0_byUnits false) = true := by decide +kernel
set_option maxRecDepth 100000 in
theorem dk_36 : tb_36.all (teK 0 cX0_usesOf false) = true := by decide +kernel
set_option maxRecDepth 100000 in
theorem dk_37 : tb_37.all (teK 0 cX0_unitAt false) = true := by decide +kernel
set_option maxRecDepth 100000 in
theorem dk_38 : tb_38.all (teK 0 cX0_busyAt false) = true := by decide +kernel
set_option maxRecDepth 100000 in
theorem dk_39 : tb_39.all (teK 12 cJ6_bitCount_0f7a4 false) = true := by decide +kernel
set_option maxRecDepth 100000 in
theorem dk_40 : tb_40.all (teK 13 cJ9_max_7cf53 false) = true := by decide +kernel
set_option maxRecDepth 100000 in
theorem dk_41 : tb_41.all (teK 9 cX9_foldBound false) = true := by decide +kernel
set_option maxRecDepth 100000 in
theorem dk_42 : tb_42.all (teK 0 cX0_latencySum false) = true := by decide +kernel
set_option maxRecDepth 100000 in
theorem dk_43 : tb_43.all (teK 11 cL_reckon false) = true := by decide +kernel
set_option maxRecDepth 100000 in
theorem dk_44 : tb_44.all (teK 9 cX9_reckon false) = true := by decide +kernel
set_option maxRecDepth 100000 in
theorem dk_45 : tb_45.all (teK 9 cX9_isSource false) = true := by decide +kernel
set_option maxRecDepth 100000 in
theorem dk_46 : tb_46.all (teK 9 cX9_append false) = true := by decide +kernel
set_option maxRecDepth 100000 in
theorem dk_47_0 : tb_47_0.all (teK 0 cX0_put false) = true := by decide +kernel
set_option maxRecDepth 100000 in
theorem dk_47_1 : tb_47_1.all (teK 0 cX0_put false) = true := by decide +kernel
theorem dk_47 : tb_47.all (teK 0 cX0_put false) = true := all_app dk_47_0 (dk_47_1)
set_option maxRecDepth 100000 in
theorem dk_48 : tb_48.all (teK 11 cL_load false) = true := by decide +kernel
set_option maxRecDepth 100000 in
theorem dk_49 : tb_49.all (teK 9 cX9_load false) = true := by decide +kernel
set_option maxRecDepth 100000 in
theorem dk_50 : tb_50.all (teK 9 cX9_isRowPlace false) = true := by decide +kernel
set_option maxRecDepth 100000 in
theorem dk_51 : tb_51.all (teK 11 cL_store false) = true := by decide +kernel
set_option maxRecDepth 100000 in
theorem dk_52 : tb_52.all (teK 9 cX9_store false) = true := by decide +kernel
set_option maxRecDepth 100000 in
theorem dk_53 : tb_53.all (teK 11 cL_drop false) = true := by decide +kernel
set_option maxRecDepth 100000 in
theorem dk_54 : tb_54.all (teK 9 cX9_drop false) = true := by decide +kernel
set_option maxRecDepth 100000 in
theorem dk_55 : tb_55.all (teK 11 cL_first false) = true := by decide +kernel
set_option maxRecDepth 100000 in
theorem dk_56 : tb_56.all (teK 9 cX9_first false) = true := by decide +kernel
set_option maxRecDepth 100000 in
theorem dk_57 : tb_57.all (teK 9 cX9_requireOp false) = true := by decide +kernel
set_option maxRecDepth 100000 in
theorem dk_58 : tb_58.all (teK 11 cL_kind false) = true := by decide +kernel
set_option maxRecDepth 100000 in
theorem dk_59_0 : tb_59_0.all (teK 9 cX9_kind false) = true := by decide +kernel
set_option maxRecDepth 100000 in
theorem dk_59_1 : tb_59_1.all (teK 9 cX9_kind false) = true := by decide +kernel
theorem dk_59 : tb_59.all (teK 9 cX9_kind false) = true := all_app dk_59_0 (dk_59_1)
set_option maxRecDepth 100000 in
theorem dk_60 : tb_60.all (teK 9 cX9_requireKind false) = true := by decide +kernel
set_option maxRecDepth 100000 in
theorem dk_61 : tb_61.all (teK 11 cL_unit false) = true := by decide +kernel
set_option maxRecDepth 100000 in
theorem dk_62 : tb_62.all (teK 9 cX9_unit false) = true := by decide +kernel
set_option maxRecDepth 100000 in
theorem dk_63 : tb_63.all (teK 9 cX9_requireUnit false) = true := by decide +kernel
set_option maxRecDepth 100000 in
theorem dk_64 : tb_64.all (teK 11 cL_op false) = true := by decide +kernel
set_option maxRecDepth 100000 in
theorem dk_65 : tb_65.all (teK 9 cX9_op false) = true := by decide +kernel
set_option maxRecDepth 100000 in
theorem dk_66 : tb_66.all (teK 9 cX9_requireWhat false) = true := by decide +kernel
set_option maxRecDepth 100000 in
theorem dk_67 : tb_67.all (teK 11 cL_need false) = true := by decide +kernel
set_option maxRecDepth 100000 in
theorem dk_68 : tb_68.all (teK 9 cX9_need false) = true := by decide +kernel
set_option maxRecDepth 100000 in
theorem dk_69 : tb_69.all (teK 9 cX9_requireSound false) = true := by decide +kernel
set_option maxRecDepth 100000 in
theorem dk_70 : tb_70.all (teK 9 cX9_requireNeed false) = true := by decide +kernel
set_option maxRecDepth 100000 in
theorem dk_71 : tb_71.all (teK 11 cL_far false) = true := by decide +kernel
set_option maxRecDepth 100000 in
theorem dk_72 : tb_72.all (teK 9 cX9_far false) = true := by decide +kernel
set_option maxRecDepth 100000 in
theorem dk_73 : tb_73.all (teK 9 cX9_requireRounds false) = true := by decide +kernel
set_option maxRecDepth 100000 in
theorem dk_74 : tb_74.all (teK 9 cX9_requireStep false) = true := by decide +kernel
set_option maxRecDepth 100000 in
theorem dk_75_0 : tb_75_0.all (teK 5 cX5_span false) = true := by decide +kernel
set_option maxRecDepth 100000 in
theorem dk_75_1 : tb_75_1.all (teK 5 cX5_span false) = true := by decide +kernel
set_option maxRecDepth 100000 in
theorem dk_75_2 : tb_75_2.all (teK 5 cX5_span false) = true := by decide +kernel
theorem dk_75 : tb_75.all (teK 5 cX5_span false) = true := all_app dk_75_0 (all_app dk_75_1 (dk_75_2))
set_option maxRecDepth 100000 in
theorem dk_76 : tb_76.all (teK 14 cJ7_fill_53178 false) = true := by decide +kernel
set_option maxRecDepth 100000 in
theorem dk_77 : tb_77.all (teK 5 cX5_goOver false) = true := by decide +kernel
set_option maxRecDepth 100000 in
theorem dk_78 : tb_78.all (teK 11 cL_height false) = true := by decide +kernel
set_option maxRecDepth 100000 in
theorem dk_79 : tb_79.all (teK 9 cX9_height false) = true := by decide +kernel
set_option maxRecDepth 100000 in
theorem dk_80 : tb_80.all (teK 5 cX5_above false) = true := by decide +kernel
set_option maxRecDepth 100000 in
theorem dk_81 : tb_81.all (teK 11 cL_uses false) = true := by decide +kernel
set_option maxRecDepth 100000 in
theorem dk_82 : tb_82.all (teK 9 cX9_uses false) = true := by decide +kernel
set_option maxRecDepth 100000 in
theorem dk_83 : tb_83.all (teK 11 cL_fits false) = true := by decide +kernel
set_option maxRecDepth 100000 in
theorem dk_84 : tb_84.all (teK 9 cX9_fits false) = true := by decide +kernel
set_option maxRecDepth 100000 in
theorem dk_85_0 : tb_85_0.all (teK 9 cX9_chartOf false) = true := by decide +kernel
set_option maxRecDepth 100000 in
theorem dk_85_1 : tb_85_1.all (teK 9 cX9_chartOf false) = true := by decide +kernel
theorem dk_85 : tb_85.all (teK 9 cX9_chartOf false) = true := all_app dk_85_0 (dk_85_1)
set_option maxRecDepth 100000 in
theorem dk_86_0 : tb_86_0.all (teK 6 cX6_holdsByUnits false) = true := by decide +kernel
set_option maxRecDepth 100000 in
theorem dk_86_1 : tb_86_1.all (teK 6 cX6_holdsByUnits false) = true := by decide +kernel
theorem dk_86 : tb_86.all (teK 6 cX6_holdsByUnits false) = true := all_app dk_86_0 (dk_86_1)
set_option maxRecDepth 100000 in
theorem dk_87_0 : tb_87_0.all (teK 6 cX6_take false) = true := by decide +kernel
set_option maxRecDepth 100000 in
theorem dk_87_1 : tb_87_1.all (teK 6 cX6_take false) = true := by decide +kernel
set_option maxRecDepth 100000 in
theorem dk_87_2 : tb_87_2.all (teK 6 cX6_take false) = true := by decide +kernel
set_option maxRecDepth 100000 in
theorem dk_87_3 : tb_87_3.all (teK 6 cX6_take false) = true := by decide +kernel
theorem dk_87 : tb_87.all (teK 6 cX6_take false) = true := all_app dk_87_0 (all_app dk_87_1 (all_app dk_87_2 (dk_87_3)))
set_option maxRecDepth 100000 in
theorem dk_88_0 : tb_88_0.all (teK 6 cX6_takeBusy false) = true := by decide +kernel
set_option maxRecDepth 100000 in
theorem dk_88_1 : tb_88_1.all (teK 6 cX6_takeBusy false) = true := by decide +kernel
theorem dk_88 : tb_88.all (teK 6 cX6_takeBusy false) = true := all_app dk_88_0 (dk_88_1)
set_option maxRecDepth 100000 in
theorem dk_89 : tb_89.all (teK 6 cX6_pairTwins false) = true := by decide +kernel
set_option maxRecDepth 100000 in
theorem dk_90 : tb_90.all (teK 6 cX6_areTwins false) = true := by decide +kernel
set_option maxRecDepth 100000 in
theorem dk_91_0 : tb_91_0.all (teK 6 cX6_place false) = true := by decide +kernel
set_option maxRecDepth 100000 in
theorem dk_91_1 : tb_91_1.all (teK 6 cX6_place false) = true := by decide +kernel
set_option maxRecDepth 100000 in
theorem dk_91_2 : tb_91_2.all (teK 6 cX6_place false) = true := by decide +kernel
set_option maxRecDepth 100000 in
theorem dk_91_3 : tb_91_3.all (teK 6 cX6_place false) = true := by decide +kernel
theorem dk_91 : tb_91.all (teK 6 cX6_place false) = true := all_app dk_91_0 (all_app dk_91_1 (all_app dk_91_2 (dk_91_3)))
set_option maxRecDepth 100000 in
theorem dk_92 : tb_92.all (teK 6 cX6_hasManyTies false) = true := by decide +kernel
set_option maxRecDepth 100000 in
theorem dk_93_0 : tb_93_0.all (teK 6 cX6_align false) = true := by decide +kernel
set_option maxRecDepth 100000 in
theorem dk_93_1 : tb_93_1.all (teK 6 cX6_align false) = true := by decide +kernel
set_option maxRecDepth 100000 in
theorem dk_93_2 : tb_93_2.all (teK 6 cX6_align false) = true := by decide +kernel
set_option maxRecDepth 100000 in
theorem dk_93_3 : tb_93_3.all (teK 6 cX6_align false) = true := by decide +kernel
set_option maxRecDepth 100000 in
theorem dk_93_4 : tb_93_4.all (teK 6 cX6_align false) = true := by decide +kernel
theorem dk_93 : tb_93.all (teK 6 cX6_align false) = true := all_app dk_93_0 (all_app dk_93_1 (all_app dk_93_2 (all_app dk_93_3 (dk_93_4))))
set_option maxRecDepth 100000 in
theorem dk_94 : tb_94.all (teK 13 cJ9_floorMod_7cf53 false) = true := by decide +kernel
set_option maxRecDepth 100000 in
theorem dk_95_0 : tb_95_0.all (teK 6 cX6_tighten false) = true := by decide +kernel
set_option maxRecDepth 100000 in
theorem dk_95_1 : tb_95_1.all (teK 6 cX6_tighten false) = true := by decide +kernel
set_option maxRecDepth 100000 in
theorem dk_95_2 : tb_95_2.all (teK 6 cX6_tighten false) = true := by decide +kernel
theorem dk_95 : tb_95.all (teK 6 cX6_tighten false) = true := all_app dk_95_0 (all_app dk_95_1 (dk_95_2))
set_option maxRecDepth 100000 in
theorem dk_96_0 : tb_96_0.all (teK 6 cX6_settle false) = true := by decide +kernel
set_option maxRecDepth 100000 in
theorem dk_96_1 : tb_96_1.all (teK 6 cX6_settle false) = true := by decide +kernel
set_option maxRecDepth 100000 in
theorem dk_96_2 : tb_96_2.all (teK 6 cX6_settle false) = true := by decide +kernel
theorem dk_96 : tb_96.all (teK 6 cX6_settle false) = true := all_app dk_96_0 (all_app dk_96_1 (dk_96_2))
set_option maxRecDepth 100000 in
theorem dk_97_0 : tb_97_0.all (teK 6 cX6_openTo false) = true := by decide +kernel
set_option maxRecDepth 100000 in
theorem dk_97_1 : tb_97_1.all (teK 6 cX6_openTo false) = true := by decide +kernel
set_option maxRecDepth 100000 in
theorem dk_97_2 : tb_97_2.all (teK 6 cX6_openTo false) = true := by decide +kernel
set_option maxRecDepth 100000 in
theorem dk_97_3 : tb_97_3.all (teK 6 cX6_openTo false) = true := by decide +kernel
theorem dk_97 : tb_97.all (teK 6 cX6_openTo false) = true := all_app dk_97_0 (all_app dk_97_1 (all_app dk_97_2 (dk_97_3)))
set_option maxRecDepth 100000 in
theorem dk_98 : tb_98.all (teK 6 cX6_turned false) = true := by decide +kernel
set_option maxRecDepth 100000 in
theorem dk_99_0 : tb_99_0.all (teK 6 cX6_windowOf false) = true := by decide +kernel
set_option maxRecDepth 100000 in
theorem dk_99_1 : tb_99_1.all (teK 6 cX6_windowOf false) = true := by decide +kernel
theorem dk_99 : tb_99.all (teK 6 cX6_windowOf false) = true := all_app dk_99_0 (dk_99_1)
set_option maxRecDepth 100000 in
theorem dk_100 : tb_100.all (teK 6 cX6_isHarder false) = true := by decide +kernel
set_option maxRecDepth 100000 in
theorem dk_101 : tb_101.all (teK 6 cX6_keepWitness false) = true := by decide +kernel
set_option maxRecDepth 100000 in
theorem dk_102 : tb_102.all (teK 6 cX6_lift false) = true := by decide +kernel
set_option maxRecDepth 100000 in
theorem dk_103_0 : tb_103_0.all (teK 6 cX6_findFirst false) = true := by decide +kernel
set_option maxRecDepth 100000 in
theorem dk_103_1 : tb_103_1.all (teK 6 cX6_findFirst false) = true := by decide +kernel
set_option maxRecDepth 100000 in
theorem dk_103_2 : tb_103_2.all (teK 6 cX6_findFirst false) = true := by decide +kernel
theorem dk_103 : tb_103.all (teK 6 cX6_findFirst false) = true := all_app dk_103_0 (all_app dk_103_1 (dk_103_2))
set_option maxRecDepth 100000 in
theorem dk_104_0 : tb_104_0.all (teK 6 cX6_tieAll false) = true := by decide +kernel
set_option maxRecDepth 100000 in
theorem dk_104_1 : tb_104_1.all (teK 6 cX6_tieAll false) = true := by decide +kernel
theorem dk_104 : tb_104.all (teK 6 cX6_tieAll false) = true := all_app dk_104_0 (dk_104_1)
set_option maxRecDepth 100000 in
theorem dk_105 : tb_105.all (teK 6 cX6_groupOf false) = true := by decide +kernel
set_option maxRecDepth 100000 in
theorem dk_106_0 : tb_106_0.all (teK 1 cX1_draw false) = true := by decide +kernel
set_option maxRecDepth 100000 in
theorem dk_106_1 : tb_106_1.all (teK 1 cX1_draw false) = true := by decide +kernel
theorem dk_106 : tb_106.all (teK 1 cX1_draw false) = true := all_app dk_106_0 (dk_106_1)
set_option maxRecDepth 100000 in
theorem dk_107_0 : tb_107_0.all (teK 1 cX1_drawTimes false) = true := by decide +kernel
set_option maxRecDepth 100000 in
theorem dk_107_1 : tb_107_1.all (teK 1 cX1_drawTimes false) = true := by decide +kernel
set_option maxRecDepth 100000 in
theorem dk_107_2 : tb_107_2.all (teK 1 cX1_drawTimes false) = true := by decide +kernel
theorem dk_107 : tb_107.all (teK 1 cX1_drawTimes false) = true := all_app dk_107_0 (all_app dk_107_1 (dk_107_2))
set_option maxRecDepth 100000 in
theorem dk_108 : tb_108.all (teK 1 cX1_stageOf false) = true := by decide +kernel
set_option maxRecDepth 100000 in
theorem dk_109_0 : tb_109_0.all (teK 1 cX1_drawLives false) = true := by decide +kernel
set_option maxRecDepth 100000 in
theorem dk_109_1 : tb_109_1.all (teK 1 cX1_drawLives false) = true := by decide +kernel
theorem dk_109 : tb_109.all (teK 1 cX1_drawLives false) = true := all_app dk_109_0 (dk_109_1)
set_option maxRecDepth 100000 in
theorem dk_110_0 : tb_110_0.all (teK 1 cX1_drawNames false) = true := by decide +kernel
set_option maxRecDepth 100000 in
theorem dk_110_1 : tb_110_1.all (teK 1 cX1_drawNames false) = true := by decide +kernel
set_option maxRecDepth 100000 in
theorem dk_110_2 : tb_110_2.all (teK 1 cX1_drawNames false) = true := by decide +kernel
theorem dk_110 : tb_110.all (teK 1 cX1_drawNames false) = true := all_app dk_110_0 (all_app dk_110_1 (dk_110_2))
set_option maxRecDepth 100000 in
theorem dk_111 : tb_111.all (teK 11 cL_least false) = true := by decide +kernel
set_option maxRecDepth 100000 in
theorem dk_112 : tb_112.all (teK 9 cX9_least false) = true := by decide +kernel

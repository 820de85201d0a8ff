/-! laid by wip/p1/gen2.py: the instructions are what the bytes decode to -/
def xic (e : Nat) : Nat := match e with
  | 0 => 87
  | 1 => 109
  | 2 => 430
  | 3 => 443
  | _ => 0
abbrev xup : List String := ["java/lang/RuntimeException", "java/lang/Exception"]
def ilen (e : TE) : Nat := match e.2.1 with
  | .iload _ => 2
  | .lload _ => 2
  | .aload _ => 2
  | .istore _ => 2
  | .lstore _ => 2
  | .astore _ => 2
  | .bipush _ => 2
  | .ldc _ => 2
  | .newarray _ => 2
  | .sipush _ => 3
  | .ldc_w _ => 3
  | .iinc _ _ => 3
  | .goto _ => 3
  | .ifCond _ _ => 3
  | .if_icmp _ _ => 3
  | .getfield _ => 3
  | .putfield _ => 3
  | .invokevirtual _ => 3
  | .invokestatic _ => 3
  | .invokespecial _ => 3
  | .new _ => 3
  | .anewarray _ => 3
  | .multianewarray _ _ => 4
  | .tableswitch _ _ _ _ => e.2.2.1
  | _ => 1
def fin? (ci k : Nat) : Bool := match vwCl[ci]? with
  | some r => (r.2.1 k).2.2.2
  | none => true
def dcd (cc : ByteArray) (pc : Nat) (i : Instr) (n : Nat) : Bool := decide (decode cc pc = .ok (i, n))
def xok (o : Nat) (cc : ByteArray) (pc i a : Nat) : Bool := match XLs[a]? with
  | some x => x.1 == o && x.2.1 == i && x.2.2.2.2.2 == xic x.2.2.1 && decide (x.2.2.1 < 4) && decide (o = 9) && dcd cc (pc + 3) .dup 1 &&
      (if x.2.2.2.1 = 1 then dcd cc (pc + 4) (.ldc_w x.2.2.2.2.1) 3 && dcd cc (pc + 7) (.invokespecial x.2.2.2.2.2) 3 && dcd cc (pc + 10) .athrow 1 else dcd cc (pc + 4) (.ldc x.2.2.2.2.1) 2 && dcd cc (pc + 6) (.invokespecial x.2.2.2.2.2) 3 && dcd cc (pc + 9) .athrow 1)
  | none => false
def lkOK (o : Nat) (cc : ByteArray) (ini : Bool) (e : TE) : Bool := match e.2.1 with
  | .getfield i => decide (e.2.2.1 < 11) && (decide ((o, i, e.2.2.1, e.2.2.2, 0) ∈ FLs) || decide ((o, i, e.2.2.1, e.2.2.2, 1) ∈ FLs))
  | .putfield i => decide (e.2.2.1 < 11) && (if fin? e.2.2.1 e.2.2.2 then ini && decide ((o, i, e.2.2.1, e.2.2.2, 0) ∈ FLs) && e.2.2.1 == o else decide ((o, i, e.2.2.1, e.2.2.2, 0) ∈ FLs) || decide ((o, i, e.2.2.1, e.2.2.2, 1) ∈ FLs))
  | .invokevirtual i => decide ((o, i, e.2.2.1, e.2.2.2) ∈ MLs) && (e.2.2.2 == 0 || e.2.2.2 == 1)
  | .invokestatic i => decide ((o, i, e.2.2.1, e.2.2.2) ∈ MLs) && (e.2.2.2 == 7 || e.2.2.2 == 2 || e.2.2.2 == 3 || e.2.2.2 == 8)
  | .invokespecial i => e.2.2.2 == 98 || (decide ((o, i, e.2.2.1, e.2.2.2) ∈ MLs) && (e.2.2.2 == 6 || e.2.2.2 == 4 || e.2.2.2 == 5))
  | .new i => (e.2.2.2 == 0 && decide ((o, i, e.2.2.1) ∈ CLs) && decide (e.2.2.1 < 11)) || (e.2.2.2 == 1 && xok o cc e.1 i e.2.2.1)
  | .ldc i => e.2.2.2 == 98 || (match KLs[e.2.2.1]? with | some q => q.1 == o && q.2.1 == i | none => false)
  | .ldc_w i => e.2.2.2 == 98 || (match KLs[e.2.2.1]? with | some q => q.1 == o && q.2.1 == i | none => false)
  | .anewarray i => decide ((o, i, 90) ∈ CLs)
  | .multianewarray i d => decide ((o, i, 91) ∈ CLs) && d == 2
  | _ => true
def teK (o : Nat) (cc : ByteArray) (ini : Bool) (e : TE) : Bool := dcd cc e.1 e.2.1 (ilen e) && lkOK o cc ini e
def mOK (M : PM) : Bool := (pT M).all (teK (pO M) (pB M) (pK M == 2))
noncomputable def mkK (f : Nat × Nat × Nat × Nat) : Bool := if f.2.2.2 = 6 ∨ f.2.2.2 = 7 then true else match MT[f.2.2.1]? with
  | some M => if f.2.2.2 = 0 ∨ f.2.2.2 = 1 then pK M == 0 else if f.2.2.2 = 2 ∨ f.2.2.2 = 3 then pK M == 1 else if f.2.2.2 = 4 ∨ f.2.2.2 = 5 then pK M == 2 else pK M == 3
  | none => false
set_option maxRecDepth 100000 in
theorem MLk_ok : MLs.all mkK = true := by decide +kernel
def bAt (cc : ByteArray) (p : Nat) : Option Nat := if h : p < cc.size then some cc[p].toNat else none
theorem u1_at {cc : ByteArray} {p b : Nat} (h : bAt cc p = some b) : (Jvm.ClassFile.Reader.u1 : Jvm.ClassFile.Decoder Nat).runAt cc p = .ok (b, p + 1) := by
  unfold bAt at h
  split at h
  · rename_i hp
    cases h
    have e : (Jvm.ClassFile.Reader.u1 : Jvm.ClassFile.Decoder Nat).runAt cc p = (dite (p < cc.size) (fun h => (MonadStateOf.set (p + 1) >>= fun _ => Pure.pure cc[p].toNat : Jvm.ClassFile.Decoder Nat)) (fun _ => throw (Jvm.ClassFile.HasTruncated.truncated p))) cc p := rfl
    rw [e, dif_pos hp]
    rfl
  · cases h
theorem of_bd {α β : Type} {m : Jvm.ClassFile.Decoder α} {f : α → Jvm.ClassFile.Decoder β} {cc : ByteArray} {p a p2 : Nat} {x : α} {r : Except Jvm.ClassFile.DecodeError (β × Nat)} (h1 : m.runAt cc p = .ok (x, p2)) (h2 : (f x).runAt cc p2 = r) : (m >>= f).runAt cc p = r := by
  have e : (m >>= f).runAt cc p = (m.runAt cc p).bind (fun y => (f y.1).runAt cc y.2) := rfl
  rw [e, h1]; exact h2
theorem dec_of {cc : ByteArray} {pc q : Nat} {I : Instr} (h : (Jvm.ClassFile.Decoder.instr pc).runAt cc pc = .ok (I, pc + q)) : decode cc pc = .ok (I, q) := by
  have e : decode cc pc = ((Jvm.ClassFile.Decoder.instr pc).runAt cc pc).bind (fun y => .ok (y.1, y.2 - pc)) := rfl
  rw [e, h]
  show Except.ok (I, pc + q - pc) = _
  rw [Nat.add_sub_cancel_left]
theorem u2_at {cc : ByteArray} {p a b : Nat} (h : bAt cc p = some a) (h2 : bAt cc (p + 1) = some b) : (Jvm.ClassFile.Reader.u2 : Jvm.ClassFile.Decoder Nat).runAt cc p = .ok (a * 256 + b, p + 2) := of_bd (a := 0) (u1_at h) (of_bd (a := 0) (u1_at h2) rfl)
theorem s2_at {cc : ByteArray} {p a b : Nat} {z : Int} (h : bAt cc p = some a) (h2 : bAt cc (p + 1) = some b) (hz : Jvm.ClassFile.Reader.signed 16 (a * 256 + b) = z) : (Jvm.ClassFile.Reader.s2 : Jvm.ClassFile.Decoder Int).runAt cc p = .ok (z, p + 2) := by
  have e : (Jvm.ClassFile.Reader.s2 : Jvm.ClassFile.Decoder Int).runAt cc p = ((Jvm.ClassFile.Reader.u2 : Jvm.ClassFile.Decoder Nat).runAt cc p).bind (fun y => .ok (Jvm.ClassFile.Reader.signed 16 y.1, y.2)) := rfl
  rw [e, u2_at h h2, ← hz]; rfl
theorem s1_at {cc : ByteArray} {p a : Nat} {z : Int} (h : bAt cc p = some a) (hz : Jvm.ClassFile.Reader.signed 8 a = z) : (Jvm.ClassFile.Reader.s1 : Jvm.ClassFile.Decoder Int).runAt cc p = .ok (z, p + 1) := by
  have e : (Jvm.ClassFile.Reader.s1 : Jvm.ClassFile.Decoder Int).runAt cc p = ((Jvm.ClassFile.Reader.u1 : Jvm.ClassFile.Decoder Nat).runAt cc p).bind (fun y => .ok (Jvm.ClassFile.Reader.signed 8 y.1, y.2)) := rfl
  rw [e, u1_at h, ← hz]; rfl
theorem sg16 {z : Int} (h : -32768 ≤ z ∧ z < 32768) : Jvm.ClassFile.Reader.signed 16 ((z % 65536).toNat / 256 * 256 + (z % 65536).toNat % 256) = z := by
  unfold Jvm.ClassFile.Reader.signed
  have e1 : (2 : Nat) ^ (16 - 1) = 32768 := by decide
  have e2 : (2 : Nat) ^ 16 = 65536 := by decide
  rw [e1, e2]
  split <;> omega
theorem sg8 {z : Int} (h : -128 ≤ z ∧ z < 128) : Jvm.ClassFile.Reader.signed 8 (z % 256).toNat = z := by
  unfold Jvm.ClassFile.Reader.signed
  have e1 : (2 : Nat) ^ (8 - 1) = 128 := by decide
  have e2 : (2 : Nat) ^ 8 = 256 := by decide
  rw [e1, e2]
  split <;> omega
def b16 (n : Nat) : List Nat := [n / 256, n % 256]
def byO : Instr → List Nat
  | .iaload => [46]
  | .laload => [47]
  | .aaload => [50]
  | .iastore => [79]
  | .lastore => [80]
  | .aastore => [83]
  | .pop => [87]
  | .dup => [89]
  | .dup2 => [92]
  | .iadd => [96]
  | .isub => [100]
  | .imul => [104]
  | .idiv => [108]
  | .irem => [112]
  | .ineg => [116]
  | .ishl => [120]
  | .lshl => [121]
  | .ishr => [122]
  | .iushr => [124]
  | .iand => [126]
  | .land => [127]
  | .ior => [128]
  | .lor => [129]
  | .ixor => [130]
  | .i2l => [133]
  | .lcmp => [148]
  | .ireturn => [172]
  | .lreturn => [173]
  | .areturn => [176]
  | .return_ => [177]
  | .arraylength => [190]
  | .athrow => [191]
  | .iload i => [21, i]
  | .lload i => [22, i]
  | .aload i => [25, i]
  | .istore i => [54, i]
  | .lstore i => [55, i]
  | .astore i => [58, i]
  | .ldc i => [18, i]
  | .iload_n i => [26 + i.val]
  | .lload_n i => [30 + i.val]
  | .aload_n i => [42 + i.val]
  | .istore_n i => [59 + i.val]
  | .lstore_n i => [63 + i.val]
  | .astore_n i => [75 + i.val]
  | .ldc_w i => 19 :: b16 i
  | .getfield i => 180 :: b16 i
  | .putfield i => 181 :: b16 i
  | .invokevirtual i => 182 :: b16 i
  | .invokespecial i => 183 :: b16 i
  | .invokestatic i => 184 :: b16 i
  | .new i => 187 :: b16 i
  | .anewarray i => 189 :: b16 i
  | .iconst i => if -1 ≤ i ∧ i ≤ 5 then [(i + 3).toNat] else []
  | .lconst i => [9 + i.val]
  | .bipush z => if -128 ≤ z ∧ z < 128 then [16, (z % 256).toNat] else []
  | .sipush z => if -32768 ≤ z ∧ z < 32768 then 17 :: b16 (z % 65536).toNat else []
  | .iinc i z => if -128 ≤ z ∧ z < 128 then [132, i, (z % 256).toNat] else []
  | .goto z => if -32768 ≤ z ∧ z < 32768 then 167 :: b16 (z % 65536).toNat else []
  | .ifCond .eq z => if -32768 ≤ z ∧ z < 32768 then 153 :: b16 (z % 65536).toNat else []
  | .ifCond .ne z => if -32768 ≤ z ∧ z < 32768 then 154 :: b16 (z % 65536).toNat else []
  | .ifCond .lt z => if -32768 ≤ z ∧ z < 32768 then 155 :: b16 (z % 65536).toNat else []
  | .ifCond .ge z => if -32768 ≤ z ∧ z < 32768 then 156 :: b16 (z % 65536).toNat else []
  | .ifCond .gt z => if -32768 ≤ z ∧ z < 32768 then 157 :: b16 (z % 65536).toNat else []
  | .ifCond .le z => if -32768 ≤ z ∧ z < 32768 then 158 :: b16 (z % 65536).toNat else []
  | .if_icmp .eq z => if -32768 ≤ z ∧ z < 32768 then 159 :: b16 (z % 65536).toNat else []
  | .if_icmp .ne z => if -32768 ≤ z ∧ z < 32768 then 160 :: b16 (z % 65536).toNat else []
  | .if_icmp .lt z => if -32768 ≤ z ∧ z < 32768 then 161 :: b16 (z % 65536).toNat else []
  | .if_icmp .ge z => if -32768 ≤ z ∧ z < 32768 then 162 :: b16 (z % 65536).toNat else []
  | .if_icmp .gt z => if -32768 ≤ z ∧ z < 32768 then 163 :: b16 (z % 65536).toNat else []
  | .if_icmp .le z => if -32768 ≤ z ∧ z < 32768 then 164 :: b16 (z % 65536).toNat else []
  | .newarray .boolean => [188, 4]
  | .newarray .char => [188, 5]
  | .newarray .float => [188, 6]
  | .newarray .double => [188, 7]
  | .newarray .byte => [188, 8]
  | .newarray .short => [188, 9]
  | .newarray .int => [188, 10]
  | .newarray .long => [188, 11]
  | _ => []
def hasB (cc : ByteArray) : Nat → List Nat → Prop
  | _, [] => True
  | p, b :: l => bAt cc p = some b ∧ hasB cc (p + 1) l
theorem b16_at {n : Nat} : n / 256 * 256 + n % 256 = n := by omega
theorem ins_f : ∃ f : Nat → Nat → Jvm.ClassFile.Decoder Instr, (∀ pc, Jvm.ClassFile.Decoder.instr pc = (Jvm.ClassFile.Reader.u1 >>= f pc)) ∧ (∀ pc, f pc 46 = Pure.pure Instr.iaload) ∧ (∀ pc, f pc 47 = Pure.pure Instr.laload) ∧ (∀ pc, f pc 50 = Pure.pure Instr.aaload) ∧ (∀ pc, f pc 79 = Pure.pure Instr.iastore) ∧ (∀ pc, f pc 80 = Pure.pure Instr.lastore) ∧ (∀ pc, f pc 83 = Pure.pure Instr.aastore) ∧ (∀ pc, f pc 87 = Pure.pure Instr.pop) ∧ (∀ pc, f pc 89 = Pure.pure Instr.dup) ∧ (∀ pc, f pc 92 = Pure.pure Instr.dup2) ∧ (∀ pc, f pc 96 = Pure.pure Instr.iadd) ∧ (∀ pc, f pc 100 = Pure.pure Instr.isub) ∧ (∀ pc, f pc 104 = Pure.pure Instr.imul) ∧ (∀ pc, f pc 108 = Pure.pure Instr.idiv) ∧ (∀ pc, f pc 112 = Pure.pure Instr.irem) ∧ (∀ pc, f pc 116 = Pure.pure Instr.ineg) ∧ (∀ pc, f pc 120 = Pure.pure Instr.ishl) ∧ (∀ pc, f pc 121 = Pure.pure Instr.lshl) ∧ (∀ pc, f pc 122 = Pure.pure Instr.ishr) ∧ (∀ pc, f pc 124 = Pure.pure Instr.iushr) ∧ (∀ pc, f pc 126 = Pure.pure Instr.iand) ∧ (∀ pc, f pc 127 = Pure.pure Instr.land) ∧ (∀ pc, f pc 128 = Pure.pure Instr.ior) ∧ (∀ pc, f pc 129 = Pure.pure Instr.lor) ∧ (∀ pc, f pc 130 = Pure.pure Instr.ixor) ∧ (∀ pc, f pc 133 = Pure.pure Instr.i2l) ∧ (∀ pc, f pc 148 = Pure.pure Instr.lcmp) ∧ (∀ pc, f pc 172 = Pure.pure Instr.ireturn) ∧ (∀ pc, f pc 173 = Pure.pure Instr.lreturn) ∧ (∀ pc, f pc 176 = Pure.pure Instr.areturn) ∧ (∀ pc, f pc 177 = Pure.pure Instr.return_) ∧ (∀ pc, f pc 190 = Pure.pure Instr.arraylength) ∧ (∀ pc, f pc 191 = Pure.pure Instr.athrow) ∧ (∀ pc, f pc 21 = (Jvm.ClassFile.Reader.u1 >>= fun i => Pure.pure (Instr.iload i))) ∧ (∀ pc, f pc 22 = (Jvm.ClassFile.Reader.u1 >>= fun i => Pure.pure (Instr.lload i))) ∧ (∀ pc, f pc 25 = (Jvm.ClassFile.Reader.u1 >>= fun i => Pure.pure (Instr.aload i))) ∧ (∀ pc, f pc 54 = (Jvm.ClassFile.Reader.u1 >>= fun i => Pure.pure (Instr.istore i))) ∧ (∀ pc, f pc 55 = (Jvm.ClassFile.Reader.u1 >>= fun i => Pure.pure (Instr.lstore i))) ∧ (∀ pc, f pc 58 = (Jvm.ClassFile.Reader.u1 >>= fun i => Pure.pure (Instr.astore i))) ∧ (∀ pc, f pc 18 = (Jvm.ClassFile.Reader.u1 >>= fun i => Pure.pure (Instr.ldc i))) ∧ (∀ pc, f pc 26 = Pure.pure (Instr.iload_n 0)) ∧ (∀ pc, f pc 27 = Pure.pure (Instr.iload_n 1)) ∧ (∀ pc, f pc 28 = Pure.pure (Instr.iload_n 2)) ∧ (∀ pc, f pc 29 = Pure.pure (Instr.iload_n 3)) ∧ (∀ pc, f pc 30 = Pure.pure (Instr.lload_n 0)) ∧ (∀ pc, f pc 31 = Pure.pure (Instr.lload_n 1)) ∧ (∀ pc, f pc 32 = Pure.pure (Instr.lload_n 2)) ∧ (∀ pc, f pc 33 = Pure.pure (Instr.lload_n 3)) ∧ (∀ pc, f pc 42 = Pure.pure (Instr.aload_n 0)) ∧ (∀ pc, f pc 43 = Pure.pure (Instr.aload_n 1)) ∧ (∀ pc, f pc 44 = Pure.pure (Instr.aload_n 2)) ∧ (∀ pc, f pc 45 = Pure.pure (Instr.aload_n 3)) ∧ (∀ pc, f pc 59 = Pure.pure (Instr.istore_n 0)) ∧ (∀ pc, f pc 60 = Pure.pure (Instr.istore_n 1)) ∧ (∀ pc, f pc 61 = Pure.pure (Instr.istore_n 2)) ∧ (∀ pc, f pc 62 = Pure.pure (Instr.istore_n 3)) ∧ (∀ pc, f pc 63 = Pure.pure (Instr.lstore_n 0)) ∧ (∀ pc, f pc 64 = Pure.pure (Instr.lstore_n 1)) ∧ (∀ pc, f pc 65 = Pure.pure (Instr.lstore_n 2)) ∧ (∀ pc, f pc 66 = Pure.pure (Instr.lstore_n 3)) ∧ (∀ pc, f pc 75 = Pure.pure (Instr.astore_n 0)) ∧ (∀ pc, f pc 76 = Pure.pure (Instr.astore_n 1)) ∧ (∀ pc, f pc 77 = Pure.pure (Instr.astore_n 2)) ∧ (∀ pc, f pc 78 = Pure.pure (Instr.astore_n 3)) ∧ (∀ pc, f pc 19 = (Jvm.ClassFile.Reader.u2 >>= fun i => Pure.pure (Instr.ldc_w i))) ∧ (∀ pc, f pc 180 = (Jvm.ClassFile.Reader.u2 >>= fun i => Pure.pure (Instr.getfield i))) ∧ (∀ pc, f pc 181 = (Jvm.ClassFile.Reader.u2 >>= fun i => Pure.pure (Instr.putfield i))) ∧ (∀ pc, f pc 182 = (Jvm.ClassFile.Reader.u2 >>= fun i => Pure.pure (Instr.invokevirtual i))) ∧ (∀ pc, f pc 183 = (Jvm.ClassFile.Reader.u2 >>= fun i => Pure.pure (Instr.invokespecial i))) ∧ (∀ pc, f pc 184 = (Jvm.ClassFile.Reader.u2 >>= fun i => Pure.pure (Instr.invokestatic i))) ∧ (∀ pc, f pc 187 = (Jvm.ClassFile.Reader.u2 >>= fun i => Pure.pure (Instr.new i))) ∧ (∀ pc, f pc 189 = (Jvm.ClassFile.Reader.u2 >>= fun i => Pure.pure (Instr.anewarray i))) ∧ (∀ pc, f pc 2 = Pure.pure (Instr.iconst (-1))) ∧ (∀ pc, f pc 3 = Pure.pure (Instr.iconst 0)) ∧ (∀ pc, f pc 4 = Pure.pure (Instr.iconst 1)) ∧ (∀ pc, f pc 5 = Pure.pure (Instr.iconst 2)) ∧ (∀ pc, f pc 6 = Pure.pure (Instr.iconst 3)) ∧ (∀ pc, f pc 7 = Pure.pure (Instr.iconst 4)) ∧ (∀ pc, f pc 8 = Pure.pure (Instr.iconst 5)) ∧ (∀ pc, f pc 9 = Pure.pure (Instr.lconst 0)) ∧ (∀ pc, f pc 10 = Pure.pure (Instr.lconst 1)) ∧ (∀ pc, f pc 16 = (Jvm.ClassFile.Reader.s1 >>= fun i => Pure.pure (Instr.bipush i))) ∧ (∀ pc, f pc 17 = (Jvm.ClassFile.Reader.s2 >>= fun i => Pure.pure (Instr.sipush i))) ∧ (∀ pc, f pc 132 = (Jvm.ClassFile.Reader.u1 >>= fun i => Jvm.ClassFile.Reader.s1 >>= fun z => Pure.pure (Instr.iinc i z))) ∧ (∀ pc, f pc 167 = (Jvm.ClassFile.Reader.s2 >>= fun i => Pure.pure (Instr.goto i))) ∧ (∀ pc, f pc 153 = (Jvm.ClassFile.Reader.s2 >>= fun i => Pure.pure (Instr.ifCond .eq i))) ∧ (∀ pc, f pc 154 = (Jvm.ClassFile.Reader.s2 >>= fun i => Pure.pure (Instr.ifCond .ne i))) ∧ (∀ pc, f pc 155 = (Jvm.ClassFile.Reader.s2 >>= fun i => Pure.pure (Instr.ifCond .lt i))) ∧ (∀ pc, f pc 156 = (Jvm.ClassFile.Reader.s2 >>= fun i => Pure.pure (Instr.ifCond .ge i))) ∧ (∀ pc, f pc 157 = (Jvm.ClassFile.Reader.s2 >>= fun i => Pure.pure (Instr.ifCond .gt i))) ∧ (∀ pc, f pc 158 = (Jvm.ClassFile.Reader.s2 >>= fun i => Pure.pure (Instr.ifCond .le i))) ∧ (∀ pc, f pc 159 = (Jvm.ClassFile.Reader.s2 >>= fun i => Pure.pure (Instr.if_icmp .eq i))) ∧ (∀ pc, f pc 160 = (Jvm.ClassFile.Reader.s2 >>= fun i => Pure.pure (Instr.if_icmp .ne i))) ∧ (∀ pc, f pc 161 = (Jvm.ClassFile.Reader.s2 >>= fun i => Pure.pure (Instr.if_icmp .lt i))) ∧ (∀ pc, f pc 162 = (Jvm.ClassFile.Reader.s2 >>= fun i => Pure.pure (Instr.if_icmp .ge i))) ∧ (∀ pc, f pc 163 = (Jvm.ClassFile.Reader.s2 >>= fun i => Pure.pure (Instr.if_icmp .gt i))) ∧ (∀ pc, f pc 164 = (Jvm.ClassFile.Reader.s2 >>= fun i => Pure.pure (Instr.if_icmp .le i))) ∧ (∀ pc, f pc 188 = Jvm.ClassFile.Decoder.newarray pc) := ⟨_, fun _ => rfl, fun _ => rfl, fun _ => rfl, fun _ => rfl, fun _ => rfl, fun _ => rfl, fun _ => rfl, fun _ => rfl, fun _ => rfl, fun _ => rfl, fun _ => rfl, fun _ => rfl, fun _ => rfl, fun _ => rfl, fun _ => rfl, fun _ => rfl, fun _ => rfl, fun _ => rfl, fun _ => rfl, fun _ => rfl, fun _ => rfl, fun _ => rfl, fun _ => rfl, fun _ => rfl, fun _ => rfl, fun _ => rfl, fun _ => rfl, fun _ => rfl, fun _ => rfl, fun _ => rfl, fun _ => rfl, fun _ => rfl, fun _ => rfl, fun _ => rfl, fun _ => rfl, fun _ => rfl, fun _ => rfl, fun _ => rfl, fun _ => rfl, fun _ => rfl, fun _ => rfl, fun _ => rfl, fun _ => rfl, fun _ => rfl, fun _ => rfl, fun _ => rfl, fun _ => rfl, fun _ => rfl, fun _ => rfl, fun _ => rfl, fun _ => rfl, fun _ => rfl, fun _ => rfl, fun _ => rfl, fun _ => rfl, fun _ => rfl, fun _ => rfl, fun _ => rfl, fun _ => rfl, fun _ => rfl, fun _ => rfl, fun _ => rfl, fun _ => rfl, fun _ => rfl, fun _ => rfl, fun _ => rfl, fun _ => rfl, fun _ => rfl, fun _ => rfl, fun _ => rfl, fun _ => rfl, fun _ => rfl, fun _ => rfl, fun _ => rfl, fun _ => rfl, fun _ => rfl, fun _ => rfl, fun _ => rfl, fun _ => rfl, fun _ => rfl, fun _ => rfl, fun _ => rfl, fun _ => rfl, fun _ => rfl, fun _ => rfl, fun _ => rfl, fun _ => rfl, fun _ => rfl, fun _ => rfl, fun _ => rfl, fun _ => rfl, fun _ => rfl, fun _ => rfl, fun _ => rfl, fun _ => rfl, fun _ => rfl, fun _ => rfl, fun _ => rfl⟩
noncomputable def insF : Nat → Nat → Jvm.ClassFile.Decoder Instr := ins_f.choose
theorem insE (pc : Nat) : Jvm.ClassFile.Decoder.instr pc = (Jvm.ClassFile.Reader.u1 >>= insF pc) := ins_f.choose_spec.1 pc
theorem fx_iaload (pc : Nat) : insF pc 46 = Pure.pure Instr.iaload := ins_f.choose_spec.2.1 pc
theorem fx_laload (pc : Nat) : insF pc 47 = Pure.pure Instr.laload := ins_f.choose_spec.2.2.1 pc
theorem fx_aaload (pc : Nat) : insF pc 50 = Pure.pure Instr.aaload := ins_f.choose_spec.2.2.2.1 pc
theorem fx_iastore (pc : Nat) : insF pc 79 = Pure.pure Instr.iastore := ins_f.choose_spec.2.2.2.2.1 pc
theorem fx_lastore (pc : Nat) : insF pc 80 = Pure.pure Instr.lastore := ins_f.choose_spec.2.2.2.2.2.1 pc
theorem fx_aastore (pc : Nat) : insF pc 83 = Pure.pure Instr.aastore := ins_f.choose_spec.2.2.2.2.2.2.1 pc
theorem fx_pop (pc : Nat) : insF pc 87 = Pure.pure Instr.pop := ins_f.choose_spec.2.2.2.2.2.2.2.1 pc
theorem fx_dup (pc : Nat) : insF pc 89 = Pure.pure Instr.dup := ins_f.choose_spec.2.2.2.2.2.2.2.2.1 pc
theorem fx_dup2 (pc : Nat) : insF pc 92 = Pure.pure Instr.dup2 := ins_f.choose_spec.2.2.2.2.2.2.2.2.2.1 pc
theorem fx_iadd (pc : Nat) : insF pc 96 = Pure.pure Instr.iadd := ins_f.choose_spec.2.2.2.2.2.2.2.2.2.2.1 pc
theorem fx_isub (pc : Nat) : insF pc 100 = Pure.pure Instr.isub := ins_f.choose_spec.2.2.2.2.2.2.2.2.2.2.2.1 pc
theorem fx_imul (pc : Nat) : insF pc 104 = Pure.pure Instr.imul := ins_f.choose_spec.2.2.2.2.2.2.2.2.2.2.2.2.1 pc
theorem fx_idiv (pc : Nat) : insF pc 108 = Pure.pure Instr.idiv := ins_f.choose_spec.2.2.2.2.2.2.2.2.2.2.2.2.2.1 pc
theorem fx_irem (pc : Nat) : insF pc 112 = Pure.pure Instr.irem := ins_f.choose_spec.2.2.2.2.2.2.2.2.2.2.2.2.2.2.1 pc
theorem fx_ineg (pc : Nat) : insF pc 116 = Pure.pure Instr.ineg := ins_f.choose_spec.2.2.2.2.2.2.2.2.2.2.2.2.2.2.2.1 pc
theorem fx_ishl (pc : Nat) : insF pc 120 = Pure.pure Instr.ishl := ins_f.choose_spec.2.2.2.2.2.2.2.2.2.2.2.2.2.2.2.2.1 pc
theorem fx_lshl (pc : Nat) : insF pc 121 = Pure.pure Instr.lshl := ins_f.choose_spec.2.2.2.2.2.2.2.2.2.2.2.2.2.2.2.2.2.1 pc
theorem fx_ishr (pc : Nat) : insF pc 122 = Pure.pure Instr.ishr := ins_f.choose_spec.2.2.2.2.2.2.2.2.2.2.2.2.2.2.2.2.2.2.1 pc
theorem fx_iushr (pc : Nat) : insF pc 124 = Pure.pure Instr.iushr := ins_f.choose_spec.2.2.2.2.2.2.2.2.2.2.2.2.2.2.2.2.2.2.2.1 pc
theorem fx_iand (pc : Nat) : insF pc 126 = Pure.pure Instr.iand := ins_f.choose_spec.2.2.2.2.2.2.2.2.2.2.2.2.2.2.2.2.2.2.2.2.1 pc
theorem fx_land (pc : Nat) : insF pc 127 = Pure.pure Instr.land := ins_f.choose_spec.2.2.2.2.2.2.2.2.2.2.2.2.2.2.2.2.2.2.2.2.2.1 pc
theorem fx_ior (pc : Nat) : insF pc 128 = Pure.pure Instr.ior := ins_f.choose_spec.2.2.2.2.2.2.2.2.2.2.2.2.2.2.2.2.2.2.2.2.2.2.1 pc
theorem fx_lor (pc : Nat) : insF pc 129 = Pure.pure Instr.lor := ins_f.choose_spec.2.2.2.2.2.2.2.2.2.2.2.2.2.2.2.2.2.2.2.2.2.2.2.1 pc
theorem fx_ixor (pc : Nat) : insF pc 130 = Pure.pure Instr.ixor := ins_f.choose_spec.2.2.2.2.2.2.2.2.2.2.2.2.2.2.2.2.2.2.2.2.2.2.2.2.1 pc
theorem fx_i2l (pc : Nat) : insF pc 133 = Pure.pure Instr.i2l := ins_f.choose_spec.2.2.2.2.2.2.2.2.2.2.2.2.2.2.2.2.2.2.2.2.2.2.2.2.2.1 pc
theorem fx_lcmp (pc : Nat) : insF pc 148 = Pure.pure Instr.lcmp := ins_f.choose_spec.2.2.2.2.2.2.2.2.2.2.2.2.2.2.2.2.2.2.2.2.2.2.2.2.2.2.1 pc
theorem fx_ireturn (pc : Nat) : insF pc 172 = Pure.pure Instr.ireturn := ins_f.choose_spec.2.2.2.2.2.2.2.2.2.2.2.2.2.2.2.2.2.2.2.2.2.2.2.2.2.2.2.1 pc
theorem fx_lreturn (pc : Nat) : insF pc 173 = Pure.pure Instr.lreturn := ins_f.choose_spec.2.2.2.2.2.2.2.2.2.2.2.2.2.2.2.2.2.2.2.2.2.2.2.2.2.2.2.2.1 pc
theorem fx_areturn (pc : Nat) : insF pc 176 = Pure.pure Instr.areturn := ins_f.choose_spec.2.2.2.2.2.2.2.2.2.2.2.2.2.2.2.2.2.2.2.2.2.2.2.2.2.2.2.2.2.1 pc
theorem fx_return_ (pc : Nat) : insF pc 177 = Pure.pure Instr.return_ := ins_f.choose_spec.2.2.2.2.2.2.2.2.2.2.2.2.2.2.2.2.2.2.2.2.2.2.2.2.2.2.2.2.2.2.1 pc
theorem fx_arraylength (pc : Nat) : insF pc 190 = Pure.pure Instr.arraylength := ins_f.choose_spec.2.2.2.2.2.2.2.2.2.2.2.2.2.2.2.2.2.2.2.2.2.2.2.2.2.2.2.2.2.2.2.1 pc
theorem fx_athrow (pc : Nat) : insF pc 191 = Pure.pure Instr.athrow := ins_f.choose_spec.2.2.2.2.2.2.2.2.2.2.2.2.2.2.2.2.2.2.2.2.2.2.2.2.2.2.2.2.2.2.2.2.1 pc
theorem fx_iload (pc : Nat) : insF pc 21 = (Jvm.ClassFile.Reader.u1 >>= fun i => Pure.pure (Instr.iload i)) := ins_f.choose_spec.2.2.2.2.2.2.2.2.2.2.2.2.2.2.2.2.2.2.2.2.2.2.2.2.2.2.2.2.2.2.2.2.2.1 pc
theorem fx_lload (pc : Nat) : insF pc 22 = (Jvm.ClassFile.Reader.u1 >>= fun i => Pure.pure (Instr.lload i)) := ins_f.choose_spec.2.2.2.2.2.2.2.2.2.2.2.2.2.2.2.2.2.2.2.2.2.2.2.2.2.2.2.2.2.2.2.2.2.2.1 pc
theorem fx_aload (pc : Nat) : insF pc 25 = (Jvm.ClassFile.Reader.u1 >>= fun i => Pure.pure (Instr.aload i)) := ins_f.choose_spec.2.2.2.2.2.2.2.2.2.2.2.2.2.2.2.2.2.2.2.2.2.2.2.2.2.2.2.2.2.2.2.2.2.2.2.1 pc
theorem fx_istore (pc : Nat) : insF pc 54 = (Jvm.ClassFile.Reader.u1 >>= fun i => Pure.pure (Instr.istore i)) := ins_f.choose_spec.2.2.2.2.2.2.2.2.2.2.2.2.2.2.2.2.2.2.2.2.2.2.2.2.2.2.2.2.2.2.2.2.2.2.2.2.1 pc
theorem fx_lstore (pc : Nat) : insF pc 55 = (Jvm.ClassFile.Reader.u1 >>= fun i => Pure.pure (Instr.lstore i)) := ins_f.choose_spec.2.2.2.2.2.2.2.2.2.2.2.2.2.2.2.2.2.2.2.2.2.2.2.2.2.2.2.2.2.2.2.2.2.2.2.2.2.1 pc
theorem fx_astore (pc : Nat) : insF pc 58 = (Jvm.ClassFile.Reader.u1 >>= fun i => Pure.pure (Instr.astore i)) := ins_f.choose_spec.2.2.2.2.2.2.2.2.2.2.2.2.2.2.2.2.2.2.2.2.2.2.2.2.2.2.2.2.2.2.2.2.2.2.2.2.2.2.1 pc
theorem fx_ldc (pc : Nat) : insF pc 18 = (Jvm.ClassFile.Reader.u1 >>= fun i => Pure.pure (Instr.ldc i)) := ins_f.choose_spec.2.2.2.2.2.2.2.2.2.2.2.2.2.2.2.2.2.2.2.2.2.2.2.2.2.2.2.2.2.2.2.2.2.2.2.2.2.2.2.1 pc
theorem fx_iload_n0 (pc : Nat) : insF pc 26 = Pure.pure (Instr.iload_n 0) := ins_f.choose_spec.2.2.2.2.2.2.2.2.2.2.2.2.2.2.2.2.2.2.2.2.2.2.2.2.2.2.2.2.2.2.2.2.2.2.2.2.2.2.2.2.1 pc
theorem fx_iload_n1 (pc : Nat) : insF pc 27 = Pure.pure (Instr.iload_n 1) := ins_f.choose_spec.2.2.2.2.2.2.2.2.2.2.2.2.2.2.2.2.2.2.2.2.2.2.2.2.2.2.2.2.2.2.2.2.2.2.2.2.2.2.2.2.2.1 pc
theorem fx_iload_n2 (pc : Nat) : insF pc 28 = Pure.pure (Instr.iload_n 2) := ins_f.choose_spec.2.2.2.2.2.2.2.2.2.2.2.2.2.2.2.2.2.2.2.2.2.2.2.2.2.2.2.2.2.2.2.2.2.2.2.2.2.2.2.2.2.2.1 pc
theorem fx_iload_n3 (pc : Nat) : insF pc 29 = Pure.pure (Instr.iload_n 3) := ins_f.choose_spec.2.2.2.2.2.2.2.2.2.2.2.2.2.2.2.2.2.2.2.2.2.2.2.2.2.2.2.2.2.2.2.2.2.2.2.2.2.2.2.2.2.2.2.1 pc
theorem fx_lload_n0 (pc : Nat) : insF pc 30 = Pure.pure (Instr.lload_n 0) := ins_f.choose_spec.2.2.2.2.2.2.2.2.2.2.2.2.2.2.2.2.2.2.2.2.2.2.2.2.2.2.2.2.2.2.2.2.2.2.2.2.2.2.2.2.2.2.2.2.1 pc
theorem fx_lload_n1 (pc : Nat) : insF pc 31 = Pure.pure (Instr.lload_n 1) := ins_f.choose_spec.2.2.2.2.2.2.2.2.2.2.2.2.2.2.2.2.2.2.2.2.2.2.2.2.2.2.2.2.2.2.2.2.2.2.2.2.2.2.2.2.2.2.2.2.2.1 pc
theorem fx_lload_n2 (pc : Nat) : insF pc 32 = Pure.pure (Instr.lload_n 2) := ins_f.choose_spec.2.2.2.2.2.2.2.2.2.2.2.2.2.2.2.2.2.2.2.2.2.2.2.2.2.2.2.2.2.2.2.2.2.2.2.2.2.2.2.2.2.2.2.2.2.2.1 pc
theorem fx_lload_n3 (pc : Nat) : insF pc 33 = Pure.pure (Instr.lload_n 3) := ins_f.choose_spec.2.2.2.2.2.2.2.2.2.2.2.2.2.2.2.2.2.2.2.2.2.2.2.2.2.2.2.2.2.2.2.2.2.2.2.2.2.2.2.2.2.2.2.2.2.2.2.1 pc
theorem fx_aload_n0 (pc : Nat) : insF pc 42 = Pure.pure (Instr.aload_n 0) := ins_f.choose_spec.2.2.2.2.2.2.2.2.2.2.2.2.2.2.2.2.2.2.2.2.2.2.2.2.2.2.2.2.2.2.2.2.2.2.2.2.2.2.2.2.2.2.2.2.2.2.2.2.1 pc
theorem fx_aload_n1 (pc : Nat) : insF pc 43 = Pure.pure (Instr.aload_n 1) := ins_f.choose_spec.2.2.2.2.2.2.2.2.2.2.2.2.2.2.2.2.2.2.2.2.2.2.2.2.2.2.2.2.2.2.2.2.2.2.2.2.2.2.2.2.2.2.2.2.2.2.2.2.2.1 pc
theorem fx_aload_n2 (pc : Nat) : insF pc 44 = Pure.pure (Instr.aload_n 2) := ins_f.choose_spec.2.2.2.2.2.2.2.2.2.2.2.2.2.2.2.2.2.2.2.2.2.2.2.2.2.2.2.2.2.2.2.2.2.2.2.2.2.2.2.2.2.2.2.2.2.2.2.2.2.2.1 pc
theorem fx_aload_n3 (pc : Nat) : insF pc 45 = Pure.pure (Instr.aload_n 3) := ins_f.choose_spec.2.2.2.2.2.2.2.2.2.2.2.2.2.2.2.2.2.2.2.2.2.2.2.2.2.2.2.2.2.2.2.2.2.2.2.2.2.2.2.2.2.2.2.2.2.2.2.2.2.2.2.1 pc
theorem fx_istore_n0 (pc : Nat) : insF pc 59 = Pure.pure (Instr.istore_n 0) := ins_f.choose_spec.2.2.2.2.2.2.2.2.2.2.2.2.2.2.2.2.2.2.2.2.2.2.2.2.2.2.2.2.2.2.2.2.2.2.2.2.2.2.2.2.2.2.2.2.2.2.2.2.2.2.2.2.1 pc
theorem fx_istore_n1 (pc : Nat) : insF pc 60 = Pure.pure (Instr.istore_n 1) := ins_f.choose_spec.2.2.2.2.2.2.2.2.2.2.2.2.2.2.2.2.2.2.2.2.2.2.2.2.2.2.2.2.2.2.2.2.2.2.2.2.2.2.2.2.2.2.2.2.2.2.2.2.2.2.2.2.2.1 pc
theorem fx_istore_n2 (pc : Nat) : insF pc 61 = Pure.pure (Instr.istore_n 2) := ins_f.choose_spec.2.2.2.2.2.2.2.2.2.2.2.2.2.2.2.2.2.2.2.2.2.2.2.2.2.2.2.2.2.2.2.2.2.2.2.2.2.2.2.2.2.2.2.2.2.2.2.2.2.2.2.2.2.2.1 pc
theorem fx_istore_n3 (pc : Nat) : insF pc 62 = Pure.pure (Instr.istore_n 3) := ins_f.choose_spec.2.2.2.2.2.2.2.2.2.2.2.2.2.2.2.2.2.2.2.2.2.2.2.2.2.2.2.2.2.2.2.2.2.2.2.2.2.2.2.2.2.2.2.2.2.2.2.2.2.2.2.2.2.2.2.1 pc
theorem fx_lstore_n0 (pc : Nat) : insF pc 63 = Pure.pure (Instr.lstore_n 0) := ins_f.choose_spec.2.2.2.2.2.2.2.2.2.2.2.2.2.2.2.2.2.2.2.2.2.2.2.2.2.2.2.2.2.2.2.2.2.2.2.2.2.2.2.2.2.2.2.2.2.2.2.2.2.2.2.2.2.2.2.2.1 pc
theorem fx_lstore_n1 (pc : Nat) : insF pc 64 = Pure.pure (Instr.lstore_n 1) := ins_f.choose_spec.2.2.2.2.2.2.2.2.2.2.2.2.2.2.2.2.2.2.2.2.2.2.2.2.2.2.2.2.2.2.2.2.2.2.2.2.2.2.2.2.2.2.2.2.2.2.2.2.2.2.2.2.2.2.2.2.2.1 pc
theorem fx_lstore_n2 (pc : Nat) : insF pc 65 = Pure.pure (Instr.lstore_n 2) := ins_f.choose_spec.2.2.2.2.2.2.2.2.2.2.2.2.2.2.2.2.2.2.2.2.2.2.2.2.2.2.2.2.2.2.2.2.2.2.2.2.2.2.2.2.2.2.2.2.2.2.2.2.2.2.2.2.2.2.2.2.2.2.1 pc
theorem fx_lstore_n3 (pc : Nat) : insF pc 66 = Pure.pure (Instr.lstore_n 3) := ins_f.choose_spec.2.2.2.2.2.2.2.2.2.2.2.2.2.2.2.2.2.2.2.2.2.2.2.2.2.2.2.2.2.2.2.2.2.2.2.2.2.2.2.2.2.2.2.2.2.2.2.2.2.2.2.2.2.2.2.2.2.2.2.1 pc
theorem fx_astore_n0 (pc : Nat) : insF pc 75 = Pure.pure (Instr.astore_n 0) := ins_f.choose_spec.2.2.2.2.2.2.2.2.2.2.2.2.2.2.2.2.2.2.2.2.2.2.2.2.2.2.2.2.2.2.2.2.2.2.2.2.2.2.2.2.2.2.2.2.2.2.2.2.2.2.2.2.2.2.2.2.2.2.2.2.1 pc
theorem fx_astore_n1 (pc : Nat) : insF pc 76 = Pure.pure (Instr.astore_n 1) := ins_f.choose_spec.2.2.2.2.2.2.2.2.2.2.2.2.2.2.2.2.2.2.2.2.2.2.2.2.2.2.2.2.2.2.2.2.2.2.2.2.2.2.2.2.2.2.2.2.2.2.2.2.2.2.2.2.2.2.2.2.2.2.2.2.2.1 pc
theorem fx_astore_n2 (pc : Nat) : insF pc 77 = Pure.pure (Instr.astore_n 2) := ins_f.choose_spec.2.2.2.2.2.2.2.2.2.2.2.2.2.2.2.2.2.2.2.2.2.2.2.2.2.2.2.2.2.2.2.2.2.2.2.2.2.2.2.2.2.2.2.2.2.2.2.2.2.2.2.2.2.2.2.2.2.2.2.2.2.2.1 pc
theorem fx_astore_n3 (pc : Nat) : insF pc 78 = Pure.pure (Instr.astore_n 3) := ins_f.choose_spec.2.2.2.2.2.2.2.2.2.2.2.2.2.2.2.2.2.2.2.2.2.2.2.2.2.2.2.2.2.2.2.2.2.2.2.2.2.2.2.2.2.2.2.2.2.2.2.2.2.2.2.2.2.2.2.2.2.2.2.2.2.2.2.1 pc
theorem fx_ldc_w (pc : Nat) : insF pc 19 = (Jvm.ClassFile.Reader.u2 >>= fun i => Pure.pure (Instr.ldc_w i)) := ins_f.choose_spec.2.2.2.2.2.2.2.2.2.2.2.2.2.2.2.2.2.2.2.2.2.2.2.2.2.2.2.2.2.2.2.2.2.2.2.2.2.2.2.2.2.2.2.2.2.2.2.2.2.2.2.2.2.2.2.2.2.2.2.2.2.2.2.2.1 pc
theorem fx_getfield (pc : Nat) : insF pc 180 = (Jvm.ClassFile.Reader.u2 >>= fun i => Pure.pure (Instr.getfield i)) := ins_f.choose_spec.2.2.2.2.2.2.2.2.2.2.2.2.2.2.2.2.2.2.2.2.2.2.2.2.2.2.2.2.2.2.2.2.2.2.2.2.2.2.2.2.2.2.2.2.2.2.2.2.2.2.2.2.2.2.2.2.2.2.2.2.2.2.2.2.2.1 pc
theorem fx_putfield (pc : Nat) : insF pc 181 = (Jvm.ClassFile.Reader.u2 >>= fun i => Pure.pure (Instr.putfield i)) := ins_f.choose_spec.2.2.2.2.2.2.2.2.2.2.2.2.2.2.2.2.2.2.2.2.2.2.2.2.2.2.2.2.2.2.2.2.2.2.2.2.2.2.2.2.2.2.2.2.2.2.2.2.2.2.2.2.2.2.2.2.2.2.2.2.2.2.2.2.2.2.1 pc
theorem fx_invokevirtual (pc : Nat) : insF pc 182 = (Jvm.ClassFile.Reader.u2 >>= fun i => Pure.pure (Instr.invokevirtual i)) := ins_f.choose_spec.2.2.2.2.2.2.2.2.2.2.2.2.2.2.2.2.2.2.2.2.2.2.2.2.2.2.2.2.2.2.2.2.2.2.2.2.2.2.2.2.2.2.2.2.2.2.2.2.2.2.2.2.2.2.2.2.2.2.2.2.2.2.2.2.2.2.2.1 pc
theorem fx_invokespecial (pc : Nat) : insF pc 183 = (Jvm.ClassFile.Reader.u2 >>= fun i => Pure.pure (Instr.invokespecial i)) := ins_f.choose_spec.2.2.2.2.2.2.2.2.2.2.2.2.2.2.2.2.2.2.2.2.2.2.2.2.2.2.2.2.2.2.2.2.2.2.2.2.2.2.2.2.2.2.2.2.2.2.2.2.2.2.2.2.2.2.2.2.2.2.2.2.2.2.2.2.2.2.2.2.1 pc
theorem fx_invokestatic (pc : Nat) : insF pc 184 = (Jvm.ClassFile.Reader.u2 >>= fun i => Pure.pure (Instr.invokestatic i)) := ins_f.choose_spec.2.2.2.2.2.2.2.2.2.2.2.2.2.2.2.2.2.2.2.2.2.2.2.2.2.2.2.2.2.2.2.2.2.2.2.2.2.2.2.2.2.2.2.2.2.2.2.2.2.2.2.2.2.2.2.2.2.2.2.2.2.2.2.2.2.2.2.2.2.1 pc
theorem fx_new (pc : Nat) : insF pc 187 = (Jvm.ClassFile.Reader.u2 >>= fun i => Pure.pure (Instr.new i)) := ins_f.choose_spec.2.2.2.2.2.2.2.2.2.2.2.2.2.2.2.2.2.2.2.2.2.2.2.2.2.2.2.2.2.2.2.2.2.2.2.2.2.2.2.2.2.2.2.2.2.2.2.2.2.2.2.2.2.2.2.2.2.2.2.2.2.2.2.2.2.2.2.2.2.2.1 pc
theorem fx_anewarray (pc : Nat) : insF pc 189 = (Jvm.ClassFile.Reader.u2 >>= fun i => Pure.pure (Instr.anewarray i)) := ins_f.choose_spec.2.2.2.2.2.2.2.2.2.2.2.2.2.2.2.2.2.2.2.2.2.2.2.2.2.2.2.2.2.2.2.2.2.2.2.2.2.2.2.2.2.2.2.2.2.2.2.2.2.2.2.2.2.2.2.2.2.2.2.2.2.2.2.2.2.2.2.2.2.2.2.1 pc
theorem fx_iconstm1 (pc : Nat) : insF pc 2 = Pure.pure (Instr.iconst (-1)) := ins_f.choose_spec.2.2.2.2.2.2.2.2.2.2.2.2.2.2.2.2.2.2.2.2.2.2.2.2.2.2.2.2.2.2.2.2.2.2.2.2.2.2.2.2.2.2.2.2.2.2.2.2.2.2.2.2.2.2.2.2.2.2.2.2.2.2.2.2.2.2.2.2.2.2.2.2.1 pc
theorem fx_iconst0 (pc : Nat) : insF pc 3 = Pure.pure (Instr.iconst 0) := ins_f.choose_spec.2.2.2.2.2.2.2.2.2.2.2.2.2.2.2.2.2.2.2.2.2.2.2.2.2.2.2.2.2.2.2.2.2.2.2.2.2.2.2.2.2.2.2.2.2.2.2.2.2.2.2.2.2.2.2.2.2.2.2.2.2.2.2.2.2.2.2.2.2.2.2.2.2.1 pc
theorem fx_iconst1 (pc : Nat) : insF pc 4 = Pure.pure (Instr.iconst 1) := ins_f.choose_spec.2.2.2.2.2.2.2.2.2.2.2.2.2.2.2.2.2.2.2.2.2.2.2.2.2.2.2.2.2.2.2.2.2.2.2.2.2.2.2.2.2.2.2.2.2.2.2.2.2.2.2.2.2.2.2.2.2.2.2.2.2.2.2.2.2.2.2.2.2.2.2.2.2.2.1 pc
theorem fx_iconst2 (pc : Nat) : insF pc 5 = Pure.pure (Instr.iconst 2) := ins_f.choose_spec.2.2.2.2.2.2.2.2.2.2.2.2.2.2.2.2.2.2.2.2.2.2.2.2.2.2.2.2.2.2.2.2.2.2.2.2.2.2.2.2.2.2.2.2.2.2.2.2.2.2.2.2.2.2.2.2.2.2.2.2.2.2.2.2.2.2.2.2.2.2.2.2.2.2.2.1 pc
theorem fx_iconst3 (pc : Nat) : insF pc 6 = Pure.pure (Instr.iconst 3) := ins_f.choose_spec.2.2.2.2.2.2.2.2.2.2.2.2.2.2.2.2.2.2.2.2.2.2.2.2.2.2.2.2.2.2.2.2.2.2.2.2.2.2.2.2.2.2.2.2.2.2.2.2.2.2.2.2.2.2.2.2.2.2.2.2.2.2.2.2.2.2.2.2.2.2.2.2.2.2.2.2.1 pc
theorem fx_iconst4 (pc : Nat) : insF pc 7 = Pure.pure (Instr.iconst 4) := ins_f.choose_spec.2.2.2.2.2.2.2.2.2.2.2.2.2.2.2.2.2.2.2.2.2.2.2.2.2.2.2.2.2.2.2.2.2.2.2.2.2.2.2.2.2.2.2.2.2.2.2.2.2.2.2.2.2.2.2.2.2.2.2.2.2.2.2.2.2.2.2.2.2.2.2.2.2.2.2.2.2.1 pc
theorem fx_iconst5 (pc : Nat) : insF pc 8 = Pure.pure (Instr.iconst 5) := ins_f.choose_spec.2.2.2.2.2.2.2.2.2.2.2.2.2.2.2.2.2.2.2.2.2.2.2.2.2.2.2.2.2.2.2.2.2.2.2.2.2.2.2.2.2.2.2.2.2.2.2.2.2.2.2.2.2.2.2.2.2.2.2.2.2.2.2.2.2.2.2.2.2.2.2.2.2.2.2.2.2.2.1 pc
theorem fx_lconst0 (pc : Nat) : insF pc 9 = Pure.pure (Instr.lconst 0) := ins_f.choose_spec.2.2.2.2.2.2.2.2.2.2.2.2.2.2.2.2.2.2.2.2.2.2.2.2.2.2.2.2.2.2.2.2.2.2.2.2.2.2.2.2.2.2.2.2.2.2.2.2.2.2.2.2.2.2.2.2.2.2.2.2.2.2.2.2.2.2.2.2.2.2.2.2.2.2.2.2.2.2.2.1 pc
theorem fx_lconst1 (pc : Nat) : insF pc 10 = Pure.pure (Instr.lconst 1) := ins_f.choose_spec.2.2.2.2.2.2.2.2.2.2.2.2.2.2.2.2.2.2.2.2.2.2.2.2.2.2.2.2.2.2.2.2.2.2.2.2.2.2.2.2.2.2.2.2.2.2.2.2.2.2.2.2.2.2.2.2.2.2.2.2.2.2.2.2.2.2.2.2.2.2.2.2.2.2.2.2.2.2.2.2.1 pc
theorem fx_bipush (pc : Nat) : insF pc 16 = (Jvm.ClassFile.Reader.s1 >>= fun i => Pure.pure (Instr.bipush i)) := ins_f.choose_spec.2.2.2.2.2.2.2.2.2.2.2.2.2.2.2.2.2.2.2.2.2.2.2.2.2.2.2.2.2.2.2.2.2.2.2.2.2.2.2.2.2.2.2.2.2.2.2.2.2.2.2.2.2.2.2.2.2.2.2.2.2.2.2.2.2.2.2.2.2.2.2.2.2.2.2.2.2.2.2.2.2.1 pc
theorem fx_sipush (pc : Nat) : insF pc 17 = (Jvm.ClassFile.Reader.s2 >>= fun i => Pure.pure (Instr.sipush i)) := ins_f.choose_spec.2.2.2.2.2.2.2.2.2.2.2.2.2.2.2.2.2.2.2.2.2.2.2.2.2.2.2.2.2.2.2.2.2.2.2.2.2.2.2.2.2.2.2.2.2.2.2.2.2.2.2.2.2.2.2.2.2.2.2.2.2.2.2.2.2.2.2.2.2.2.2.2.2.2.2.2.2.2.2.2.2.2.1 pc
theorem fx_iinc (pc : Nat) : insF pc 132 = (Jvm.ClassFile.Reader.u1 >>= fun i => Jvm.ClassFile.Reader.s1 >>= fun z => Pure.pure (Instr.iinc i z)) := ins_f.choose_spec.2.2.2.2.2.2.2.2.2.2.2.2.2.2.2.2.2.2.2.2.2.2.2.2.2.2.2.2.2.2.2.2.2.2.2.2.2.2.2.2.2.2.2.2.2.2.2.2.2.2.2.2.2.2.2.2.2.2.2.2.2.2.2.2.2.2.2.2.2.2.2.2.2.2.2.2.2.2.2.2.2.2.2.1 pc
theorem fx_goto (pc : Nat) : insF pc 167 = (Jvm.ClassFile.Reader.s2 >>= fun i => Pure.pure (Instr.goto i)) := ins_f.choose_spec.2.2.2.2.2.2.2.2.2.2.2.2.2.2.2.2.2.2.2.2.2.2.2.2.2.2.2.2.2.2.2.2.2.2.2.2.2.2.2.2.2.2.2.2.2.2.2.2.2.2.2.2.2.2.2.2.2.2.2.2.2.2.2.2.2.2.2.2.2.2.2.2.2.2.2.2.2.2.2.2.2.2.2.2.1 pc
theorem fx_ifCondeq (pc : Nat) : insF pc 153 = (Jvm.ClassFile.Reader.s2 >>= fun i => Pure.pure (Instr.ifCond .eq i)) := ins_f.choose_spec.2.2.2.2.2.2.2.2.2.2.2.2.2.2.2.2.2.2.2.2.2.2.2.2.2.2.2.2.2.2.2.2.2.2.2.2.2.2.2.2.2.2.2.2.2.2.2.2.2.2.2.2.2.2.2.2.2.2.2.2.2.2.2.2.2.2.2.2.2.2.2.2.2.2.2.2.2.2.2.2.2.2.2.2.2.1 pc
theorem fx_ifCondne (pc : Nat) : insF pc 154 = (Jvm.ClassFile.Reader.s2 >>= fun i => Pure.pure (Instr.ifCond .ne i)) := ins_f.choose_spec.2.2.2.2.2.2.2.2.2.2.2.2.2.2.2.2.2.2.2.2.2.2.2.2.2.2.2.2.2.2.2.2.2.2.2.2.2.2.2.2.2.2.2.2.2.2.2.2.2.2.2.2.2.2.2.2.2.2.2.2.2.2.2.2.2.2.2.2.2.2.2.2.2.2.2.2.2.2.2.2.2.2.2.2.2.2.1 pc
theorem fx_ifCondlt (pc : Nat) : insF pc 155 = (Jvm.ClassFile.Reader.s2 >>= fun i => Pure.pure (Instr.ifCond .lt i)) := ins_f.choose_spec.2.2.2.2.2.2.2.2.2.2.2.2.2.2.2.2.2.2.2.2.2.2.2.2.2.2.2.2.2.2.2.2.2.2.2.2.2.2.2.2.2.2.2.2.2.2.2.2.2.2.2.2.2.2.2.2.2.2.2.2.2.2.2.2.2.2.2.2.2.2.2.2.2.2.2.2.2.2.2.2.2.2.2.2.2.2.2.1 pc
theorem fx_ifCondge (pc : Nat) : insF pc 156 = (Jvm.ClassFile.Reader.s2 >>= fun i => Pure.pure (Instr.ifCond .ge i)) := ins_f.choose_spec.2.2.2.2.2.2.2.2.2.2.2.2.2.2.2.2.2.2.2.2.2.2.2.2.2.2.2.2.2.2.2.2.2.2.2.2.2.2.2.2.2.2.2.2.2.2.2.2.2.2.2.2.2.2.2.2.2.2.2.2.2.2.2.2.2.2.2.2.2.2.2.2.2.2.2.2.2.2.2.2.2.2.2.2.2.2.2.2.1 pc
theorem fx_ifCondgt (pc : Nat) : insF pc 157 = (Jvm.ClassFile.Reader.s2 >>= fun i => Pure.pure (Instr.ifCond .gt i)) := ins_f.choose_spec.2.2.2.2.2.2.2.2.2.2.2.2.2.2.2.2.2.2.2.2.2.2.2.2.2.2.2.2.2.2.2.2.2.2.2.2.2.2.2.2.2.2.2.2.2.2.2.2.2.2.2.2.2.2.2.2.2.2.2.2.2.2.2.2.2.2.2.2.2.2.2.2.2.2.2.2.2.2.2.2.2.2.2.2.2.2.2.2.2.1 pc
theorem fx_ifCondle (pc : Nat) : insF pc 158 = (Jvm.ClassFile.Reader.s2 >>= fun i => Pure.pure (Instr.ifCond .le i)) := ins_f.choose_spec.2.2.2.2.2.2.2.2.2.2.2.2.2.2.2.2.2.2.2.2.2.2.2.2.2.2.2.2.2.2.2.2.2.2.2.2.2.2.2.2.2.2.2.2.2.2.2.2.2.2.2.2.2.2.2.2.2.2.2.2.2.2.2.2.2.2.2.2.2.2.2.2.2.2.2.2.2.2.2.2.2.2.2.2.2.2.2.2.2.2.1 pc
theorem fx_if_icmpeq (pc : Nat) : insF pc 159 = (Jvm.ClassFile.Reader.s2 >>= fun i => Pure.pure (Instr.if_icmp .eq i)) := ins_f.choose_spec.2.2.2.2.2.2.2.2.2.2.2.2.2.2.2.2.2.2.2.2.2.2.2.2.2.2.2.2.2.2.2.2.2.2.2.2.2.2.2.2.2.2.2.2.2.2.2.2.2.2.2.2.2.2.2.2.2.2.2.2.2.2.2.2.2.2.2.2.2.2.2.2.2.2.2.2.2.2.2.2.2.2.2.2.2.2.2.2.2.2.2.1 pc
theorem fx_if_icmpne (pc : Nat) : insF pc 160 = (Jvm.ClassFile.Reader.s2 >>= fun i => Pure.pure (Instr.if_icmp .ne i)) := ins_f.choose_spec.2.2.2.2.2.2.2.2.2.2.2.2.2.2.2.2.2.2.2.2.2.2.2.2.2.2.2.2.2.2.2.2.2.2.2.2.2.2.2.2.2.2.2.2.2.2.2.2.2.2.2.2.2.2.2.2.2.2.2.2.2.2.2.2.2.2.2.2.2.2.2.2.2.2.2.2.2.2.2.2.2.2.2.2.2.2.2.2.2.2.2.2.1 pc
theorem fx_if_icmplt (pc : Nat) : insF pc 161 = (Jvm.ClassFile.Reader.s2 >>= fun i => Pure.pure (Instr.if_icmp .lt i)) := ins_f.choose_spec.2.2.2.2.2.2.2.2.2.2.2.2.2.2.2.2.2.2.2.2.2.2.2.2.2.2.2.2.2.2.2.2.2.2.2.2.2.2.2.2.2.2.2.2.2.2.2.2.2.2.2.2.2.2.2.2.2.2.2.2.2.2.2.2.2.2.2.2.2.2.2.2.2.2.2.2.2.2.2.2.2.2.2.2.2.2.2.2.2.2.2.2.2.1 pc
theorem fx_if_icmpge (pc : Nat) : insF pc 162 = (Jvm.ClassFile.Reader.s2 >>= fun i => Pure.pure (Instr.if_icmp .ge i)) := ins_f.choose_spec.2.2.2.2.2.2.2.2.2.2.2.2.2.2.2.2.2.2.2.2.2.2.2.2.2.2.2.2.2.2.2.2.2.2.2.2.2.2.2.2.2.2.2.2.2.2.2.2.2.2.2.2.2.2.2.2.2.2.2.2.2.2.2.2.2.2.2.2.2.2.2.2.2.2.2.2.2.2.2.2.2.2.2.2.2.2.2.2.2.2.2.2.2.2.1 pc
theorem fx_if_icmpgt (pc : Nat) : insF pc 163 = (Jvm.ClassFile.Reader.s2 >>= fun i => Pure.pure (Instr.if_icmp .gt i)) := ins_f.choose_spec.2.2.2.2.2.2.2.2.2.2.2.2.2.2.2.2.2.2.2.2.2.2.2.2.2.2.2.2.2.2.2.2.2.2.2.2.2.2.2.2.2.2.2.2.2.2.2.2.2.2.2.2.2.2.2.2.2.2.2.2.2.2.2.2.2.2.2.2.2.2.2.2.2.2.2.2.2.2.2.2.2.2.2.2.2.2.2.2.2.2.2.2.2.2.2.1 pc
theorem fx_if_icmple (pc : Nat) : insF pc 164 = (Jvm.ClassFile.Reader.s2 >>= fun i => Pure.pure (Instr.if_icmp .le i)) := ins_f.choose_spec.2.2.2.2.2.2.2.2.2.2.2.2.2.2.2.2.2.2.2.2.2.2.2.2.2.2.2.2.2.2.2.2.2.2.2.2.2.2.2.2.2.2.2.2.2.2.2.2.2.2.2.2.2.2.2.2.2.2.2.2.2.2.2.2.2.2.2.2.2.2.2.2.2.2.2.2.2.2.2.2.2.2.2.2.2.2.2.2.2.2.2.2.2.2.2.2.1 pc
theorem fx_newarray (pc : Nat) : insF pc 188 = Jvm.ClassFile.Decoder.newarray pc := ins_f.choose_spec.2.2.2.2.2.2.2.2.2.2.2.2.2.2.2.2.2.2.2.2.2.2.2.2.2.2.2.2.2.2.2.2.2.2.2.2.2.2.2.2.2.2.2.2.2.2.2.2.2.2.2.2.2.2.2.2.2.2.2.2.2.2.2.2.2.2.2.2.2.2.2.2.2.2.2.2.2.2.2.2.2.2.2.2.2.2.2.2.2.2.2.2.2.2.2.2.2 pc
theorem d_o {cc : ByteArray} {pc b q : Nat} {I : Instr} {g : Jvm.ClassFile.Decoder Instr} (h : bAt cc pc = some b) (e : insF pc b = g) (H : g.runAt cc (pc + 1) = .ok (I, pc + q)) : decode cc pc = .ok (I, q) := dec_of (by
  rw [insE, ← e] at *
  exact of_bd (a := 0) (u1_at h) H)
theorem d_0 {cc : ByteArray} {pc b : Nat} {I : Instr} (h : bAt cc pc = some b) (e : insF pc b = Pure.pure I) : decode cc pc = .ok (I, 1) := d_o h e rfl
theorem d_u1 {cc : ByteArray} {pc b i : Nat} {I : Nat → Instr} (h : bAt cc pc = some b) (h1 : bAt cc (pc + 1) = some i) (e : insF pc b = (Jvm.ClassFile.Reader.u1 >>= fun i => Pure.pure (I i))) : decode cc pc = .ok (I i, 2) := d_o h e (of_bd (a := 0) (u1_at h1) rfl)
theorem d_u2 {cc : ByteArray} {pc b i : Nat} {I : Nat → Instr} (h : hasB cc pc (b :: b16 i)) (e : insF pc b = (Jvm.ClassFile.Reader.u2 >>= fun i => Pure.pure (I i))) : decode cc pc = .ok (I i, 3) := d_o h.1 e (of_bd (a := 0) (u2_at h.2.1 h.2.2.1) (by rw [b16_at]; rfl))
theorem d_s2 {cc : ByteArray} {pc b : Nat} {z : Int} {I : Int → Instr} (hz : -32768 ≤ z ∧ z < 32768) (h : hasB cc pc (b :: b16 (z % 65536).toNat)) (e : insF pc b = (Jvm.ClassFile.Reader.s2 >>= fun i => Pure.pure (I i))) : decode cc pc = .ok (I z, 3) := d_o h.1 e (of_bd (a := 0) (s2_at h.2.1 h.2.2.1 (sg16 hz)) rfl)
theorem by_ok {cc : ByteArray} {pc : Nat} (I : Instr) (hb : ¬ byO I = []) (h : hasB cc pc (byO I)) : decode cc pc = .ok (I, (byO I).length) := by
  cases I with
  | iaload => exact d_0 h.1 (fx_iaload pc)
  | laload => exact d_0 h.1 (fx_laload pc)
  | aaload => exact d_0 h.1 (fx_aaload pc)
  | iastore => exact d_0 h.1 (fx_iastore pc)
  | lastore => exact d_0 h.1 (fx_lastore pc)
  | aastore => exact d_0 h.1 (fx_aastore pc)
  | pop => exact d_0 h.1 (fx_pop pc)
  | dup => exact d_0 h.1 (fx_dup pc)
  | dup2 => exact d_0 h.1 (fx_dup2 pc)
  | iadd => exact d_0 h.1 (fx_iadd pc)
  | isub => exact d_0 h.1 (fx_isub pc)
  | imul => exact d_0 h.1 (fx_imul pc)
  | idiv => exact d_0 h.1 (fx_idiv pc)
  | irem => exact d_0 h.1 (fx_irem pc)
  | ineg => exact d_0 h.1 (fx_ineg pc)
  | ishl => exact d_0 h.1 (fx_ishl pc)
  | lshl => exact d_0 h.1 (fx_lshl pc)
  | ishr => exact d_0 h.1 (fx_ishr pc)
  | iushr => exact d_0 h.1 (fx_iushr pc)
  | iand => exact d_0 h.1 (fx_iand pc)
  | land => exact d_0 h.1 (fx_land pc)
  | ior => exact d_0 h.1 (fx_ior pc)
  | lor => exact d_0 h.1 (fx_lor pc)
  | ixor => exact d_0 h.1 (fx_ixor pc)
  | i2l => exact d_0 h.1 (fx_i2l pc)
  | lcmp => exact d_0 h.1 (fx_lcmp pc)
  | ireturn => exact d_0 h.1 (fx_ireturn pc)
  | lreturn => exact d_0 h.1 (fx_lreturn pc)
  | areturn => exact d_0 h.1 (fx_areturn pc)
  | return_ => exact d_0 h.1 (fx_return_ pc)
  | arraylength => exact d_0 h.1 (fx_arraylength pc)
  | athrow => exact d_0 h.1 (fx_athrow pc)
  | iload i => exact d_u1 (I := .iload) h.1 h.2.1 (fx_iload pc)
  | lload i => exact d_u1 (I := .lload) h.1 h.2.1 (fx_lload pc)
  | aload i => exact d_u1 (I := .aload) h.1 h.2.1 (fx_aload pc)
  | istore i => exact d_u1 (I := .istore) h.1 h.2.1 (fx_istore pc)
  | lstore i => exact d_u1 (I := .lstore) h.1 h.2.1 (fx_lstore pc)
  | astore i => exact d_u1 (I := .astore) h.1 h.2.1 (fx_astore pc)
  | ldc i => exact d_u1 (I := .ldc) h.1 h.2.1 (fx_ldc pc)
  | iload_n i =>
    obtain ⟨i, hi⟩ := i
    have q : i = 0 ∨ i = 1 ∨ i = 2 ∨ i = 3 := by omega
    rcases q with rfl | rfl | rfl | rfl
    · exact d_0 h.1 (fx_iload_n0 pc)
    · exact d_0 h.1 (fx_iload_n1 pc)
    · exact d_0 h.1 (fx_iload_n2 pc)
    · exact d_0 h.1 (fx_iload_n3 pc)
  | lload_n i =>
    obtain ⟨i, hi⟩ := i
    have q : i = 0 ∨ i = 1 ∨ i = 2 ∨ i = 3 := by omega
    rcases q with rfl | rfl | rfl | rfl
    · exact d_0 h.1 (fx_lload_n0 pc)
    · exact d_0 h.1 (fx_lload_n1 pc)
    · exact d_0 h.1 (fx_lload_n2 pc)
    · exact d_0 h.1 (fx_lload_n3 pc)
  | aload_n i =>
    obtain ⟨i, hi⟩ := i
    have q : i = 0 ∨ i = 1 ∨ i = 2 ∨ i = 3 := by omega
    rcases q with rfl | rfl | rfl | rfl
    · exact d_0 h.1 (fx_aload_n0 pc)
    · exact d_0 h.1 (fx_aload_n1 pc)
    · exact d_0 h.1 (fx_aload_n2 pc)
    · exact d_0 h.1 (fx_aload_n3 pc)
  | istore_n i =>
    obtain ⟨i, hi⟩ := i
    have q : i = 0 ∨ i = 1 ∨ i = 2 ∨ i = 3 := by omega
    rcases q with rfl | rfl | rfl | rfl
    · exact d_0 h.1 (fx_istore_n0 pc)
    · exact d_0 h.1 (fx_istore_n1 pc)
    · exact d_0 h.1 (fx_istore_n2 pc)
    · exact d_0 h.1 (fx_istore_n3 pc)
  | lstore_n i =>
    obtain ⟨i, hi⟩ := i
    have q : i = 0 ∨ i = 1 ∨ i = 2 ∨ i = 3 := by omega
    rcases q with rfl | rfl | rfl | rfl
    · exact d_0 h.1 (fx_lstore_n0 pc)
    · exact d_0 h.1 (fx_lstore_n1 pc)
    · exact d_0 h.1 (fx_lstore_n2 pc)
    · exact d_0 h.1 (fx_lstore_n3 pc)
  | astore_n i =>
    obtain ⟨i, hi⟩ := i
    have q : i = 0 ∨ i = 1 ∨ i = 2 ∨ i = 3 := by omega
    rcases q with rfl | rfl | rfl | rfl
    · exact d_0 h.1 (fx_astore_n0 pc)
    · exact d_0 h.1 (fx_astore_n1 pc)
    · exact d_0 h.1 (fx_astore_n2 pc)
    · exact d_0 h.1 (fx_astore_n3 pc)
  | ldc_w i => exact d_u2 (I := .ldc_w) h (fx_ldc_w pc)
  | getfield i => exact d_u2 (I := .getfield) h (fx_getfield pc)
  | putfield i => exact d_u2 (I := .putfield) h (fx_putfield pc)
  | invokevirtual i => exact d_u2 (I := .invokevirtual) h (fx_invokevirtual pc)
  | invokespecial i => exact d_u2 (I := .invokespecial) h (fx_invokespecial pc)
  | invokestatic i => exact d_u2 (I := .invokestatic) h (fx_invokestatic pc)
  | new i => exact d_u2 (I := .new) h (fx_new pc)
  | anewarray i => exact d_u2 (I := .anewarray) h (fx_anewarray pc)
  | iconst z =>
    by_cases q : -1 ≤ z ∧ z ≤ 5
    · have a : z = -1 ∨ z = 0 ∨ z = 1 ∨ z = 2 ∨ z = 3 ∨ z = 4 ∨ z = 5 := by omega
      rcases a with rfl | rfl | rfl | rfl | rfl | rfl | rfl
      · exact d_0 h.1 (fx_iconstm1 pc)
      · exact d_0 h.1 (fx_iconst0 pc)
      · exact d_0 h.1 (fx_iconst1 pc)
      · exact d_0 h.1 (fx_iconst2 pc)
      · exact d_0 h.1 (fx_iconst3 pc)
      · exact d_0 h.1 (fx_iconst4 pc)
      · exact d_0 h.1 (fx_iconst5 pc)
    · exact absurd (if_neg q) hb
  | lconst i =>
    obtain ⟨i, hi⟩ := i
    have q : i = 0 ∨ i = 1 := by omega
    rcases q with rfl | rfl
    · exact d_0 h.1 (fx_lconst0 pc)
    · exact d_0 h.1 (fx_lconst1 pc)
  | bipush z =>
    by_cases q : -128 ≤ z ∧ z < 128
    · have e : byO (.bipush z) = [16, (z % 256).toNat] := if_pos q
      rw [e] at h ⊢
      exact d_o h.1 (fx_bipush pc) (of_bd (a := 0) (s1_at h.2.1 (sg8 q)) rfl)
    · exact absurd (if_neg q) hb
  | sipush z =>
    by_cases q : -32768 ≤ z ∧ z < 32768
    · have e : byO (.sipush z) = 17 :: b16 (z % 65536).toNat := if_pos q
      rw [e] at h ⊢
      exact d_s2 (I := .sipush) q h (fx_sipush pc)
    · exact absurd (if_neg q) hb
  | iinc i z =>
    by_cases q : -128 ≤ z ∧ z < 128
    · have e : byO (.iinc i z) = [132, i, (z % 256).toNat] := if_pos q
      rw [e] at h ⊢
      exact d_o h.1 (fx_iinc pc) (of_bd (a := 0) (u1_at h.2.1) (of_bd (a := 0) (s1_at h.2.2.1 (sg8 q)) rfl))
    · exact absurd (if_neg q) hb
  | goto z =>
    by_cases q : -32768 ≤ z ∧ z < 32768
    · have e : byO (.goto z) = 167 :: b16 (z % 65536).toNat := if_pos q
      rw [e] at h ⊢
      exact d_s2 (I := .goto) q h (fx_goto pc)
    · exact absurd (if_neg q) hb
  | ifCond c z =>
    by_cases q : -32768 ≤ z ∧ z < 32768
    · cases c with
      | eq =>
        have e : byO (.ifCond .eq z) = 153 :: b16 (z % 65536).toNat := if_pos q
        rw [e] at h ⊢
        exact d_s2 (I := .ifCond .eq) q h (fx_ifCondeq pc)
      | ne =>
        have e : byO (.ifCond .ne z) = 154 :: b16 (z % 65536).toNat := if_pos q
        rw [e] at h ⊢
        exact d_s2 (I := .ifCond .ne) q h (fx_ifCondne pc)
      | lt =>
        have e : byO (.ifCond .lt z) = 155 :: b16 (z % 65536).toNat := if_pos q
        rw [e] at h ⊢
        exact d_s2 (I := .ifCond .lt) q h (fx_ifCondlt pc)
      | ge =>
        have e : byO (.ifCond .ge z) = 156 :: b16 (z % 65536).toNat := if_pos q
        rw [e] at h ⊢
        exact d_s2 (I := .ifCond .ge) q h (fx_ifCondge pc)
      | gt =>
        have e : byO (.ifCond .gt z) = 157 :: b16 (z % 65536).toNat := if_pos q
        rw [e] at h ⊢
        exact d_s2 (I := .ifCond .gt) q h (fx_ifCondgt pc)
      | le =>
        have e : byO (.ifCond .le z) = 158 :: b16 (z % 65536).toNat := if_pos q
        rw [e] at h ⊢
        exact d_s2 (I := .ifCond .le) q h (fx_ifCondle pc)
    · exact absurd (by cases c <;> exact if_neg q) hb
  | if_icmp c z =>
    by_cases q : -32768 ≤ z ∧ z < 32768
    · cases c with
      | eq =>
        have e : byO (.if_icmp .eq z) = 159 :: b16 (z % 65536).toNat := if_pos q
        rw [e] at h ⊢
        exact d_s2 (I := .if_icmp .eq) q h (fx_if_icmpeq pc)
      | ne =>
        have e : byO (.if_icmp .ne z) = 160 :: b16 (z % 65536).toNat := if_pos q
        rw [e] at h ⊢
        exact d_s2 (I := .if_icmp .ne) q h (fx_if_icmpne pc)
      | lt =>
        have e : byO (.if_icmp .lt z) = 161 :: b16 (z % 65536).toNat := if_pos q
        rw [e] at h ⊢
        exact d_s2 (I := .if_icmp .lt) q h (fx_if_icmplt pc)
      | ge =>
        have e : byO (.if_icmp .ge z) = 162 :: b16 (z % 65536).toNat := if_pos q
        rw [e] at h ⊢
        exact d_s2 (I := .if_icmp .ge) q h (fx_if_icmpge pc)
      | gt =>
        have e : byO (.if_icmp .gt z) = 163 :: b16 (z % 65536).toNat := if_pos q
        rw [e] at h ⊢
        exact d_s2 (I := .if_icmp .gt) q h (fx_if_icmpgt pc)
      | le =>
        have e : byO (.if_icmp .le z) = 164 :: b16 (z % 65536).toNat := if_pos q
        rw [e] at h ⊢
        exact d_s2 (I := .if_icmp .le) q h (fx_if_icmple pc)
    · exact absurd (by cases c <;> exact if_neg q) hb
  | newarray t =>
    cases t <;> exact d_o h.1 (fx_newarray pc) (of_bd (a := 0) (u1_at h.2.1) rfl)
  | _ => exact absurd rfl hb
def prB : List Nat → List UInt8 → Bool
  | [], _ => true
  | b :: l, x :: r => Nat.beq x.toNat b && prB l r
  | _ :: _, [] => false
theorem bAt_of {cc : ByteArray} {p : Nat} {x : UInt8} {r : List UInt8} (h : cc.data.toList.drop p = x :: r) : bAt cc p = some x.toNat ∧ cc.data.toList.drop (p + 1) = r := by
  have e : cc.data.toList[p]? = some x := by
    have := congrArg (fun l : List UInt8 => l[0]?) h
    simpa using this
  have hp : p < cc.data.toList.length := (List.getElem?_eq_some_iff.mp e).1
  constructor
  · have hs : p < cc.size := by simpa using hp
    unfold bAt
    rw [dif_pos hs]
    have e2 := (List.getElem?_eq_some_iff.mp e).2
    rw [← e2]
    rfl
  · rw [← List.drop_drop, h]; rfl
theorem prB_ok {cc : ByteArray} : ∀ (l : List Nat) (p : Nat), prB l (cc.data.toList.drop p) = true → hasB cc p l
  | [], _, _ => trivial
  | b :: l, p, h => by
    cases e : cc.data.toList.drop p with
    | nil => rw [e] at h; cases h
    | cons x r =>
      rw [e] at h
      have h : (Nat.beq x.toNat b && prB l r) = true := h
      rw [Bool.and_eq_true] at h
      obtain ⟨h1, h2⟩ := bAt_of e
      refine ⟨by rw [h1, Nat.eq_of_beq_eq_true h.1], prB_ok l (p + 1) ?_⟩
      rw [h2]; exact h.2
def ckI' (cc : ByteArray) (L : List UInt8) (e : TE) : Bool := match byO e.2.1 with
  | [] => dcd cc e.1 e.2.1 (ilen e)
  | b :: l => prB (b :: l) L && Nat.beq (l.length + 1) (ilen e)
theorem ckI_ok {cc : ByteArray} {e : TE} (h : ckI' cc (cc.data.toList.drop e.1) e = true) : dcd cc e.1 e.2.1 (ilen e) = true := by
  unfold ckI' at h
  split at h
  · exact h
  · rename_i b l hq
    rw [Bool.and_eq_true] at h
    have h2 := Nat.eq_of_beq_eq_true h.2
    have h3 := by_ok e.2.1 (by rw [hq]; exact List.cons_ne_nil _ _) (by rw [hq]; exact prB_ok _ _ h.1)
    unfold dcd
    rw [decide_eq_true_eq, h3, hq, ← h2]
    rfl
def qd (cc : ByteArray) : List TE → List UInt8 → Nat → Bool
  | [], _, _ => true
  | e :: T, L, p => Nat.ble p e.1 && ckI' cc (L.drop (e.1 - p)) e && qd cc T (L.drop (e.1 - p)) e.1
theorem qd_ok {cc : ByteArray} : ∀ (T : List TE) (p : Nat), qd cc T (cc.data.toList.drop p) p = true → ∀ e ∈ T, dcd cc e.1 e.2.1 (ilen e) = true
  | [], _, _ => fun _ h => absurd h List.not_mem_nil
  | e :: T, p, h => by
    have h : (Nat.ble p e.1 && ckI' cc ((cc.data.toList.drop p).drop (e.1 - p)) e && qd cc T ((cc.data.toList.drop p).drop (e.1 - p)) e.1) = true := h
    rw [Bool.and_eq_true, Bool.and_eq_true] at h
    have h1 := Nat.le_of_ble_eq_true h.1.1
    have e1 : (cc.data.toList.drop p).drop (e.1 - p) = cc.data.toList.drop e.1 := by rw [List.drop_drop]; congr 1; omega
    rw [e1] at h
    intro x hx
    rcases List.mem_cons.mp hx with rfl | hx
    · exact ckI_ok h.1.2
    · exact qd_ok T e.1 h.2 x hx
def in5 (a b c d f : Nat) : List (Nat × Nat × Nat × Nat × Nat) → Bool
  | [] => false
  | x :: l => (Nat.beq x.2.1 b && (Nat.beq x.1 a && (Nat.beq x.2.2.1 c && (Nat.beq x.2.2.2.1 d && Nat.beq x.2.2.2.2 f)))) || in5 a b c d f l
theorem in5_ok {a b c d f : Nat} : ∀ l, in5 a b c d f l = true → (a, b, c, d, f) ∈ l
  | [], h => by cases h
  | x :: l, h => by
    have h : ((Nat.beq x.2.1 b && (Nat.beq x.1 a && (Nat.beq x.2.2.1 c && (Nat.beq x.2.2.2.1 d && Nat.beq x.2.2.2.2 f)))) || in5 a b c d f l) = true := h
    rw [Bool.or_eq_true] at h
    rcases h with h | h
    · simp only [Bool.and_eq_true] at h
      obtain ⟨h1, h2, h3, h4, h5⟩ := h
      obtain ⟨x1, x2, x3, x4, x5⟩ := x
      have e1 : x2 = b := Nat.eq_of_beq_eq_true h1
      have e2 : x1 = a := Nat.eq_of_beq_eq_true h2
      have e3 : x3 = c := Nat.eq_of_beq_eq_true h3
      have e4 : x4 = d := Nat.eq_of_beq_eq_true h4
      have e5 : x5 = f := Nat.eq_of_beq_eq_true h5
      rw [e1, e2, e3, e4, e5]
      exact List.mem_cons_self
    · exact List.mem_cons_of_mem _ (in5_ok l h)
def in4 (a b c d : Nat) : List (Nat × Nat × Nat × Nat) → Bool
  | [] => false
  | x :: l => (Nat.beq x.2.1 b && (Nat.beq x.1 a && (Nat.beq x.2.2.1 c && Nat.beq x.2.2.2 d))) || in4 a b c d l
theorem in4_ok {a b c d : Nat} : ∀ l, in4 a b c d l = true → (a, b, c, d) ∈ l
  | [], h => by cases h
  | x :: l, h => by
    have h : ((Nat.beq x.2.1 b && (Nat.beq x.1 a && (Nat.beq x.2.2.1 c && Nat.beq x.2.2.2 d))) || in4 a b c d l) = true := h
    rw [Bool.or_eq_true] at h
    rcases h with h | h
    · simp only [Bool.and_eq_true] at h
      obtain ⟨h1, h2, h3, h4⟩ := h
      obtain ⟨x1, x2, x3, x4⟩ := x
      have e1 : x2 = b := Nat.eq_of_beq_eq_true h1
      have e2 : x1 = a := Nat.eq_of_beq_eq_true h2
      have e3 : x3 = c := Nat.eq_of_beq_eq_true h3
      have e4 : x4 = d := Nat.eq_of_beq_eq_true h4
      rw [e1, e2, e3, e4]
      exact List.mem_cons_self
    · exact List.mem_cons_of_mem _ (in4_ok l h)
def lkQ (o : Nat) (cc : ByteArray) (ini : Bool) (e : TE) : Bool := match e.2.1 with
  | .getfield i => decide (e.2.2.1 < 11) && (in5 o i e.2.2.1 e.2.2.2 0 FLs || in5 o i e.2.2.1 e.2.2.2 1 FLs)
  | .invokevirtual i => in4 o i e.2.2.1 e.2.2.2 MLs && (e.2.2.2 == 0 || e.2.2.2 == 1)
  | .invokestatic i => in4 o i e.2.2.1 e.2.2.2 MLs && (e.2.2.2 == 7 || e.2.2.2 == 2 || e.2.2.2 == 3 || e.2.2.2 == 8)
  | _ => lkOK o cc ini e
theorem lkQ_ok {o : Nat} {cc : ByteArray} {ini : Bool} {e : TE} (h : lkQ o cc ini e = true) : lkOK o cc ini e = true := by
  obtain ⟨p, I, a, b⟩ := e
  cases I with
  | getfield i =>
    have h : (decide (a < 11) && (in5 o i a b 0 FLs || in5 o i a b 1 FLs)) = true := h
    show (decide (a < 11) && (decide ((o, i, a, b, 0) ∈ FLs) || decide ((o, i, a, b, 1) ∈ FLs))) = true
    rw [Bool.and_eq_true, Bool.or_eq_true] at h ⊢
    exact ⟨h.1, h.2.imp (fun q => decide_eq_true (in5_ok _ q)) (fun q => decide_eq_true (in5_ok _ q))⟩
  | invokevirtual i =>
    have h : (in4 o i a b MLs && (b == 0 || b == 1)) = true := h
    show (decide ((o, i, a, b) ∈ MLs) && (b == 0 || b == 1)) = true
    rw [Bool.and_eq_true] at h ⊢
    exact ⟨decide_eq_true (in4_ok _ h.1), h.2⟩
  | invokestatic i =>
    have h : (in4 o i a b MLs && (b == 7 || b == 2 || b == 3 || b == 8)) = true := h
    show (decide ((o, i, a, b) ∈ MLs) && (b == 7 || b == 2 || b == 3 || b == 8)) = true
    rw [Bool.and_eq_true] at h ⊢
    exact ⟨decide_eq_true (in4_ok _ h.1), h.2⟩
  | _ => exact h
def qk (o : Nat) (cc : ByteArray) (ini : Bool) (T : List TE) : Bool := qd cc T cc.data.toList 0 && T.all (lkQ o cc ini)
theorem qk_ok {o : Nat} {cc : ByteArray} {ini : Bool} {T : List TE} (h : qk o cc ini T = true) : T.all (teK o cc ini) = true := by
  unfold qk at h
  rw [Bool.and_eq_true] at h
  rw [List.all_eq_true]
  intro e he
  unfold teK
  rw [Bool.and_eq_true]
  exact ⟨qd_ok T 0 (by rw [List.drop_zero]; exact h.1) e he, lkQ_ok (List.all_eq_true.mp h.2 e he)⟩

/-! pm: the machine as a pure thing. A heap is a list of cells; a reference is a place in that list. What a run comes to is said by a predicate (weakest precondition), step by step; Ex n: with at most n calls open. -/
abbrev PE : Type := (Nat × vp_A) ⊕ (Nat × List Value)
abbrev PH : Type := List PE
abbrev LV : Type := List (Nat × Value)
abbrev Rs : Type := Option Value ⊕ Nat
abbrev Kt : Type := Nat → LV → List Value → PH → Nat → Nat → Prop
def px_g (lv : LV) (i : Nat) : Option Value := (lv.find? (fun q => q.1 == i)).map (fun q => q.2)
def px_s1 (lv : LV) (i : Nat) (v : Value) : LV := (i, v) :: lv.filter (fun q => !(q.1 == i) && !(q.1 + 1 == i && q.2.category == 2))
def px_s2 (lv : LV) (i : Nat) (v : Value) : LV := (i, v) :: lv.filter (fun q => !(q.1 == i) && (!(q.1 == i + 1) && !(q.1 + 1 == i && q.2.category == 2)))
def ftyX (ci : Nat) : Nat → FieldType := match ci with
  | 0 => tyX0
  | 1 => tyX1
  | 2 => tyX2
  | 3 => tyX3
  | 4 => tyX4
  | 5 => tyX5
  | 6 => tyX6
  | 7 => tyX7
  | 8 => tyX8
  | 9 => tyX9
  | _ => tyX10
def fnum (ci : Nat) : Nat := match vwCl[ci]? with
  | some r => r.2.2
  | none => 0
def dflt (ci : Nat) : List Value := (List.range (fnum ci)).map (fun j => defaultValue (ftyX ci j))
/-- the stack's top as numbers -/
def on1 (st : List Value) (f : Int32 → List Value → Prop) : Prop := match st with
  | .int x :: r => f x r
  | _ => False
def on2 (st : List Value) (f : Int32 → Int32 → List Value → Prop) : Prop := match st with
  | .int y :: .int x :: r => f x y r
  | _ => False
def onL2 (st : List Value) (f : Int64 → Int64 → List Value → Prop) : Prop := match st with
  | .long y :: .long x :: r => f x y r
  | _ => False
def onLI (st : List Value) (f : Int64 → Int32 → List Value → Prop) : Prop := match st with
  | .int y :: .long x :: r => f x y r
  | _ => False
def onR (st : List Value) (f : Nat → List Value → Prop) : Prop := match st with
  | .ref a :: r => f a r
  | _ => False
def jmp (pc : Nat) (off : Int) (f : Nat → Prop) : Prop := 0 ≤ (pc : Int) + off ∧ f ((pc : Int) + off).toNat
def ccI (c : ClassFile.Cond) (x y : Int32) : Prop := match c with
  | .eq => x = y
  | .ne => ¬ x = y
  | .lt => x < y
  | .ge => y ≤ x
  | .gt => y < x
  | .le => x ≤ y
def brn (c : Prop) (t f : Prop) : Prop := (c → t) ∧ (¬ c → f)
def p_iald (S : Nat × (Nat → Int32)) (h : PH) (st : List Value) (k : List Value → Prop) : Prop := match st with
  | .int i :: .ref a :: r => (match h[a]? with
    | some (.inl (0, n, .inl g)) => vp_in i n ∧ k (.int (g i.toNatClampNeg) :: r)
    | _ => False)
  | .int i :: .retAddr _ :: r => vp_in i S.1 ∧ k (.int (S.2 i.toNatClampNeg) :: r)
  | _ => False
def p_iast (h : PH) (st : List Value) (k : List Value → PH → Prop) : Prop := match st with
  | .int x :: .int i :: .ref a :: r => (match h[a]? with
    | some (.inl (0, n, .inl g)) => vp_in i n ∧ k r (h.set a (.inl (0, n, .inl (upd g i.toNatClampNeg x))))
    | _ => False)
  | _ => False
def p_lald (h : PH) (st : List Value) (k : List Value → Prop) : Prop := match st with
  | .int i :: .ref a :: r => (match h[a]? with
    | some (.inl (1, n, .inr (.inl g))) => vp_in i n ∧ k (.long (g i.toNatClampNeg) :: r)
    | _ => False)
  | _ => False
def p_last (h : PH) (st : List Value) (k : List Value → PH → Prop) : Prop := match st with
  | .long x :: .int i :: .ref a :: r => (match h[a]? with
    | some (.inl (1, n, .inr (.inl g))) => vp_in i n ∧ k r (h.set a (.inl (1, n, .inr (.inl (vp_updL g i.toNatClampNeg x)))))
    | _ => False)
  | _ => False
def p_aald (h : PH) (st : List Value) (k : List Value → Prop) : Prop := match st with
  | .int i :: .ref a :: r => (match h[a]? with
    | some (.inl (t, n, .inr (.inr (.inr (.inr g))))) => (t = 2 ∨ t = 3) ∧ vp_in i n ∧ ∃ q, g i.toNatClampNeg = some q ∧ k (.ref q :: r)
    | _ => False)
  | _ => False
def p_aast (h : PH) (st : List Value) (k : List Value → PH → Prop) : Prop := match st with
  | .ref v :: .int i :: .ref a :: r => (match h[a]?, h[v]? with
    | some (.inl (2, n, .inr (.inr (.inr (.inr g))))), some (.inr (1, _)) => vp_in i n ∧ k r (h.set a (.inl (2, n, .inr (.inr (.inr (.inr (va_up g i.toNatClampNeg (some v))))))))
    | _, _ => False)
  | _ => False
def p_alen (S : Nat × (Nat → Int32)) (h : PH) (st : List Value) (k : List Value → Prop) : Prop := match st with
  | .ref a :: r => (match h[a]? with
    | some (.inl (t, x)) => t < 4 ∧ k (.int (Int32.ofNat x.1) :: r)
    | _ => False)
  | .retAddr _ :: r => k (.int (Int32.ofNat S.1) :: r)
  | _ => False
def p_get (h : PH) (ci f : Nat) (st : List Value) (k : List Value → Prop) : Prop := match st with
  | .ref a :: r => (match h[a]? with
    | some (.inr (cj, fs)) => cj = ci ∧ f < fnum ci ∧ ∃ v, fs[f]? = some v ∧ k (v :: r)
    | _ => False)
  | _ => False
def p_put (h : PH) (ci f : Nat) (st : List Value) (k : List Value → PH → Prop) : Prop := match st with
  | v :: .ref a :: r => (match h[a]? with
    | some (.inr (cj, fs)) => cj = ci ∧ f < fnum ci ∧ f < fs.length ∧ narrow (ftyX ci f) v = v ∧ fits (ftyX ci f) v = true ∧ k r (h.set a (.inr (cj, fs.set f v)))
    | _ => False)
  | _ => False
/-- System.arraycopy of ints -/
def p_copy (h : PH) (st : List Value) (k : List Value → PH → Prop) : Prop := match st with
  | .int n :: .int dp :: .ref a1 :: .int sp :: .ref a0 :: r => (match h[a0]?, h[a1]? with
    | some (.inl (0, n0, .inl f)), some (.inl (0, n1, .inl g)) => ¬ sp < 0 ∧ ¬ dp < 0 ∧ ¬ n < 0 ∧ sp.toNatClampNeg + n.toNatClampNeg ≤ n0 ∧ dp.toNatClampNeg + n.toNatClampNeg ≤ n1 ∧ k r (h.set a1 (.inl (0, n1, .inl (va_cpy f g sp.toNatClampNeg dp.toNatClampNeg n.toNatClampNeg))))
    | _, _ => False)
  | _ => False
def p_new2 (h : PH) (st : List Value) (k : List Value → PH → Nat → Nat → Prop) : Prop := match st with
  | .int m :: .int n :: r => ¬ n < 0 ∧ ¬ m < 0 ∧ n.toNatClampNeg ≤ 1000 ∧ m.toNatClampNeg ≤ 1000 ∧
      k (.ref h.length :: r) ((h ++ [.inl (3, n.toNatClampNeg, .inr (.inr (.inr (.inr (fun i => if i < n.toNatClampNeg then some (h.length + 1 + i) else none)))))]) ++ List.replicate n.toNatClampNeg (.inl (0, m.toNatClampNeg, .inl (fun _ => 0)))) (1 + n.toNatClampNeg) (n.toNatClampNeg + n.toNatClampNeg * m.toNatClampNeg)
  | _ => False
/-- caught at a call: the rows of the table, with the number that is returned then -/
def p_catch (hd : List (Nat × Nat × Nat × Int)) (pc e : Nat) : Option Int := (hd.find? (fun q => decide (q.1 ≤ pc) && decide (pc < q.2.1) && q.2.2.1 == e)).map (fun q => q.2.2.2)
/-- what comes back from a call -/
def p_back (M : PM) (hd : List (Nat × Nat × Nat × Int)) (Q : Rs → PH → Prop) (K : Kt) (pc : Nat) (lv : LV) (rest : List Value) (c s : Nat) : Rs → PH → Prop := fun r h => match r with
  | .inl v => K (pc + 3) lv (v.toList ++ rest) h c s
  | .inr e => match p_catch hd pc e with
    | some z => Q (.inl (some (.int (Int32.ofInt z)))) h
    | none => Q (.inr e) h
def p_call (C : Nat → List Value → PH → (Rs → PH → Prop) → Prop) (M : PM) (hd : List (Nat × Nat × Nat × Int)) (Q : Rs → PH → Prop) (K : Kt) (pc μ : Nat) (virt : Bool) (lv : LV) (st : List Value) (h : PH) (c s : Nat) : Prop := match MT[μ]? with
  | none => False
  | some N => pN N ≤ st.length ∧ ((st.drop (pN N)).map Value.category).sum ≤ 8 ∧ c + pC N ≤ pC M ∧ s + pS N ≤ pS M ∧
      (virt = true → ∃ a fs, (st.take (pN N)).getLast? = some (.ref a) ∧ h[a]? = some (.inr (pO N, fs))) ∧
      C μ (st.take (pN N)).reverse h (p_back M hd Q K pc lv (st.drop (pN N)) (c + pC N) (s + pS N))
def pmI (C : Nat → List Value → PH → (Rs → PH → Prop) → Prop) (S : Nat × (Nat → Int32)) (M : PM) (hd : List (Nat × Nat × Nat × Int)) (Q : Rs → PH → Prop) (K : Kt) (te : TE) (lv : LV) (st : List Value) (h : PH) (c s : Nat) : Prop :=
  match te.2.1 with
  | .iconst z => K (te.1 + 1) lv (.int (Int32.ofInt z) :: st) h c s
  | .bipush z => K (te.1 + 2) lv (.int (Int8.ofInt z).toInt32 :: st) h c s
  | .sipush z => K (te.1 + 3) lv (.int (Int16.ofInt z).toInt32 :: st) h c s
  | .lconst n => K (te.1 + 1) lv (.long (Int64.ofNat n) :: st) h c s
  | .ldc _ => ∃ q, KLs[te.2.2.1]? = some q ∧ te.2.2.2 = 0 ∧ K (te.1 + 2) lv (.int q.2.2 :: st) h c s
  | .ldc_w _ => ∃ q, KLs[te.2.2.1]? = some q ∧ te.2.2.2 = 0 ∧ K (te.1 + 3) lv (.int q.2.2 :: st) h c s
  | .iload i => ∃ x, px_g lv i = some (.int x) ∧ K (te.1 + 2) lv (.int x :: st) h c s
  | .iload_n i => ∃ x, px_g lv i = some (.int x) ∧ K (te.1 + 1) lv (.int x :: st) h c s
  | .lload i => ∃ x, px_g lv i = some (.long x) ∧ K (te.1 + 2) lv (.long x :: st) h c s
  | .aload i => ∃ v, px_g lv i = some v ∧ (∃ a, v = .ref a ∨ v = .retAddr a) ∧ K (te.1 + 2) lv (v :: st) h c s
  | .aload_n i => ∃ v, px_g lv i = some v ∧ (∃ a, v = .ref a ∨ v = .retAddr a) ∧ K (te.1 + 1) lv (v :: st) h c s
  | .istore i => i < pL M ∧ on1 st fun x r => K (te.1 + 2) (px_s1 lv i (.int x)) r h c s
  | .istore_n i => (i : Nat) < pL M ∧ on1 st fun x r => K (te.1 + 1) (px_s1 lv i (.int x)) r h c s
  | .lstore i => i + 1 < pL M ∧ ∃ x r, st = .long x :: r ∧ K (te.1 + 2) (px_s2 lv i (.long x)) r h c s
  | .astore i => i < pL M ∧ onR st fun x r => K (te.1 + 2) (px_s1 lv i (.ref x)) r h c s
  | .astore_n i => (i : Nat) < pL M ∧ onR st fun x r => K (te.1 + 1) (px_s1 lv i (.ref x)) r h c s
  | .iinc i z => i < pL M ∧ ∃ x, px_g lv i = some (.int x) ∧ K (te.1 + 3) (px_s1 lv i (.int (x + Int32.ofInt z))) st h c s
  | .iadd => on2 st fun x y r => K (te.1 + 1) lv (.int (x + y) :: r) h c s
  | .isub => on2 st fun x y r => K (te.1 + 1) lv (.int (x - y) :: r) h c s
  | .imul => on2 st fun x y r => K (te.1 + 1) lv (.int (x * y) :: r) h c s
  | .idiv => on2 st fun x y r => ¬ y = 0 ∧ K (te.1 + 1) lv (.int (x / y) :: r) h c s
  | .irem => on2 st fun x y r => ¬ y = 0 ∧ K (te.1 + 1) lv (.int (x - x / y * y) :: r) h c s
  | .ineg => on1 st fun x r => K (te.1 + 1) lv (.int (-x) :: r) h c s
  | .ishl => on2 st fun x y r => K (te.1 + 1) lv (.int (x <<< (y &&& 31)) :: r) h c s
  | .ishr => on2 st fun x y r => K (te.1 + 1) lv (.int (x >>> (y &&& 31)) :: r) h c s
  | .iushr => on2 st fun x y r => K (te.1 + 1) lv (.int (x.toUInt32 >>> (y.toUInt32 &&& Int32.toUInt32 31)).toInt32 :: r) h c s
  | .iand => on2 st fun x y r => K (te.1 + 1) lv (.int (x &&& y) :: r) h c s
  | .ior => on2 st fun x y r => K (te.1 + 1) lv (.int (x ||| y) :: r) h c s
  | .ixor => on2 st fun x y r => K (te.1 + 1) lv (.int (x ^^^ y) :: r) h c s
  | .i2l => on1 st fun x r => K (te.1 + 1) lv (.long x.toInt64 :: r) h c s
  | .lcmp => onL2 st fun x y r => K (te.1 + 1) lv (.int (lg_cmp x y) :: r) h c s
  | .lshl => onLI st fun x y r => K (te.1 + 1) lv (.long (x <<< (y.toInt64 &&& 63)) :: r) h c s
  | .lor => onL2 st fun x y r => K (te.1 + 1) lv (.long (x ||| y) :: r) h c s
  | .land => onL2 st fun x y r => K (te.1 + 1) lv (.long (x &&& y) :: r) h c s
  | .dup => ∃ v r, st = v :: r ∧ v.category = 1 ∧ K (te.1 + 1) lv (v :: v :: r) h c s
  | .dup2 => ∃ v w r, st = v :: w :: r ∧ v.category = 1 ∧ w.category = 1 ∧ K (te.1 + 1) lv (v :: w :: v :: w :: r) h c s
  | .pop => ∃ v r, st = v :: r ∧ v.category = 1 ∧ K (te.1 + 1) lv r h c s
  | .goto z => jmp te.1 z fun t => K t lv st h c s
  | .ifCond cc z => on1 st fun x r => jmp te.1 z fun t => brn (ccI cc x 0) (K t lv r h c s) (K (te.1 + 3) lv r h c s)
  | .if_icmp cc z => on2 st fun x y r => jmp te.1 z fun t => brn (ccI cc x y) (K t lv r h c s) (K (te.1 + 3) lv r h c s)
  | .tableswitch d lo hi offs => on1 st fun x r => (x.toInt < lo ∨ hi < x.toInt → jmp te.1 d fun t => K t lv r h c s) ∧ (¬ x.toInt < lo → ¬ hi < x.toInt → ∃ off, offs[(x.toInt - lo).toNat]? = some off ∧ jmp te.1 off fun t => K t lv r h c s)
  | .iaload => p_iald S h st fun st => K (te.1 + 1) lv st h c s
  | .iastore => p_iast h st fun st h => K (te.1 + 1) lv st h c s
  | .laload => p_lald h st fun st => K (te.1 + 1) lv st h c s
  | .lastore => p_last h st fun st h => K (te.1 + 1) lv st h c s
  | .aaload => p_aald h st fun st => K (te.1 + 1) lv st h c s
  | .aastore => p_aast h st fun st h => K (te.1 + 1) lv st h c s
  | .arraylength => p_alen S h st fun st => K (te.1 + 1) lv st h c s
  | .getfield _ => p_get h te.2.2.1 te.2.2.2 st fun st => K (te.1 + 3) lv st h c s
  | .putfield _ => p_put h te.2.2.1 te.2.2.2 st fun st h => K (te.1 + 3) lv st h c s
  | .newarray t => on1 st fun x r => ¬ x < 0 ∧ x.toNatClampNeg ≤ 10000 ∧ c + 1 ≤ pC M ∧ s + x.toNatClampNeg ≤ pS M ∧
      ((t = .int ∧ K (te.1 + 2) lv (.ref h.length :: r) (h ++ [.inl (0, x.toNatClampNeg, .inl (fun _ => 0))]) (c + 1) (s + x.toNatClampNeg)) ∨ (t = .long ∧ K (te.1 + 2) lv (.ref h.length :: r) (h ++ [.inl (1, x.toNatClampNeg, .inr (.inl (fun _ => 0)))]) (c + 1) (s + x.toNatClampNeg)))
  | .anewarray _ => on1 st fun x r => ¬ x < 0 ∧ x.toNatClampNeg ≤ 10000 ∧ c + 1 ≤ pC M ∧ s + x.toNatClampNeg ≤ pS M ∧ K (te.1 + 3) lv (.ref h.length :: r) (h ++ [.inl (2, x.toNatClampNeg, .inr (.inr (.inr (.inr (fun _ => none)))))]) (c + 1) (s + x.toNatClampNeg)
  | .multianewarray _ _ => p_new2 h st fun st h dc ds => c + dc ≤ pC M ∧ s + ds ≤ pS M ∧ K (te.1 + 4) lv st h (c + dc) (s + ds)
  | .new _ => (te.2.2.2 = 0 ∧ c + 1 ≤ pC M ∧ s + fnum te.2.2.1 ≤ pS M ∧ K (te.1 + 3) lv (.ref h.length :: st) (h ++ [.inr (te.2.2.1, dflt te.2.2.1)]) (c + 1) (s + fnum te.2.2.1)) ∨
      (te.2.2.2 = 1 ∧ hd = [] ∧ c + 1 ≤ pC M ∧ s + 6 ≤ pS M ∧ (st.map Value.category).sum ≤ 8 ∧ ∃ x, XLs[te.2.2.1]? = some x ∧ Q (.inr x.2.2.1) h)
  | .invokevirtual _ => p_call C M hd Q K te.1 te.2.2.1 true lv st h c s
  | .invokestatic _ => (te.2.2.2 = 7 ∧ p_copy h st fun st h => (st.map Value.category).sum ≤ 8 ∧ K (te.1 + 3) lv st h c s) ∨ (te.2.2.2 ≠ 7 ∧ p_call C M hd Q K te.1 te.2.2.1 false lv st h c s)
  | .invokespecial _ => (te.2.2.2 = 6 ∧ onR st fun _ r => (r.map Value.category).sum ≤ 8 ∧ K (te.1 + 3) lv r h c s) ∨ ((te.2.2.2 = 4 ∨ te.2.2.2 = 5) ∧ p_call C M hd Q K te.1 te.2.2.1 true lv st h c s)
  | .ireturn => ∃ x, st = [.int x] ∧ (∃ t, pR M = some t ∧ narrow t (.int x) = .int x) ∧ Q (.inl (some (.int x))) h
  | .lreturn => ∃ x, st = [.long x] ∧ pR M = some .long ∧ Q (.inl (some (.long x))) h
  | .areturn => ∃ a, st = [.ref a] ∧ (∃ t, pR M = some (.object t)) ∧ Q (.inl (some (.ref a))) h
  | .return_ => st = [] ∧ pR M = none ∧ Q (.inl none) h
  | _ => False
/-- a body from a place on comes to its end with Q: the least thing that the steps allow -/
def Vx (C : Nat → List Value → PH → (Rs → PH → Prop) → Prop) (S : Nat × (Nat → Int32)) (M : PM) (hd : List (Nat × Nat × Nat × Int)) (Q : Rs → PH → Prop) : Kt := fun pc lv st h c s =>
  ∀ X : Kt, (∀ pc lv st h c s, (∃ te, (pT M).find? (fun e => e.1 == pc) = some te ∧ pmI C S M hd Q X te lv st h c s) → X pc lv st h c s) → X pc lv st h c s
/-- at most n calls open: method μ comes, from args and h, to an end with Q -/
def Ex (S : Nat × (Nat → Int32)) : Nat → Nat → List Value → PH → (Rs → PH → Prop) → Prop
  | 0, _, _, _, _ => False
  | n + 1, μ, args, h, Q => ∃ M, MT[μ]? = some M ∧ (args.map Value.category).sum ≤ pL M ∧ Vx (Ex S n) S M (if pK M = 3 then hdOf μ else []) Q 0 (lv_args 0 args) [] h 0 0

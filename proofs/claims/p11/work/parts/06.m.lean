/-! pm: the machine as a pure thing. A heap is a list of cells; a reference is a place in that list. What a run comes to is said by a predicate (weakest precondition), step by step; Ex n: with at most n calls open. -/
abbrev PE : Type := (Nat × vp_A) ⊕ (Nat × List Value)
abbrev PH : Type := List PE
abbrev LV : Type := List (Nat × Value)
abbrev Rs : Type := Option Value ⊕ Nat
abbrev Kt : Type := Nat → LV → List Value → PH → Nat → Nat → Prop
def px_g (lv : LV) (i : Nat) : Option Value := (lv.find? (fun q => q.1 == i)).map (fun q => q.2)
def px_s1 (lv : LV) (i : Nat) (v : Value) : LV := (i, v) :: lv.filter (fun q => !(q.1 == i) && !(q.1 + 1 == i && q.2.category == 2))
def px_s2 (lv : LV) (i : Nat) (v : Value) : LV := (i, v) :: lv.filter (fun q => !(q.1 == i) && (!(q.1 == i + 1) && !(q.1 + 1 == i && q.2.category == 2)))
def ftyX (ci : Nat) : Nat → FieldType := match ci with
  | 0 => tyX0
  | 1 => tyX1
  | 2 => tyX2
  | 3 => tyX3
  | 4 => tyX4
  | 5 => tyX5
  | 6 => tyX6
  | 7 => tyX7
  | 8 => tyX8
  | 9 => tyX9
  | _ => tyX10
def fnum (ci : Nat) : Nat := match vwCl[ci]? with
  | some r => r.2.2
  | none => 0
def dflt (ci : Nat) : List Value := (List.range (fnum ci)).map (fun j => defaultValue (ftyX ci j))
/-- the stack's top as numbers -/
def on1 (st : List Value) (f : Int32 → List Value → Prop) : Prop := match st with
  | .int x :: r => f x r
  | _ => False
def on2 (st : List Value) (f : Int32 → Int32 → List Value → Prop) : Prop := match st with
  | .int y :: .int x :: r => f x y r
  | _ => False
def onL2 (st : List Value) (f : Int64 → Int64 → List Value → Prop) : Prop := match st with
  | .long y :: .long x :: r => f x y r
  | _ => False
def onLI (st : List Value) (f : Int64 → Int32 → List Value → Prop) : Prop := match st with
  | .int y :: .long x :: r => f x y r
  | _ => False
def onR (st : List Value) (f : Nat → List Value → Prop) : Prop := match st with
  | .ref a :: r => f a r
  | _ => False
def jmp (pc : Nat) (off : Int) (f : Nat → Prop) : Prop := 0 ≤ (pc : Int) + off ∧ f ((pc : Int) + off).toNat
def ccI (c : ClassFile.Cond) (x y : Int32) : Prop := match c with
  | .eq => x = y
  | .ne => ¬ x = y
  | .lt => x < y
  | .ge => y ≤ x
  | .gt => y < x
  | .le => x ≤ y
def brn (c : Prop) (t f : Prop) : Prop := (c → t) ∧ (¬ c → f)
def p_iald (S : Nat × (Nat → Int32)) (h : PH) (st : List Value) (k : List Value → Prop) : Prop := match st with
  | .int i :: .ref a :: r => (match h[a]? with
    | some (.inl (0, n, .inl g)) => vp_in i n ∧ k (.int (g i.toNatClampNeg) :: r)
    | _ => False)
  | .int i :: .retAddr _ :: r => vp_in i S.1 ∧ k (.int (S.2 i.toNatClampNeg) :: r)
  | _ => False
def p_iast (h : PH) (st : List Value) (k : List Value → PH → Prop) : Prop := match st with
  | .int x :: .int i :: .ref a :: r => (match h[a]? with
    | some (.inl (0, n, .inl g)) => vp_in i n ∧ k r (h.set a (.inl (0, n, .inl (upd g i.toNatClampNeg x))))
    | _ => False)
  | _ => False
def p_lald (h : PH) (st : List Value) (k : List Value → Prop) : Prop := match st with
  | .int i :: .ref a :: r => (match h[a]? with
    | some (.inl (1, n, .inr (.inl g))) => vp_in i n ∧ k (.long (g i.toNatClampNeg) :: r)
    | _ => False)
  | _ => False
def p_last (h : PH) (st : List Value) (k : List Value → PH → Prop) : Prop := match st with
  | .long x :: .int i :: .ref a :: r => (match h[a]? with
    | some (.inl (1, n, .inr (.inl g))) => vp_in i n ∧ k r (h.set a (.inl (1, n, .inr (.inl (vp_updL g i.toNatClampNeg x)))))
    | _ => False)
  | _ => False
def p_aald (h : PH) (st : List Value) (k : List Value → Prop) : Prop := match st with
  | .int i :: .ref a :: r => (match h[a]? with
    | some (.inl (t, n, .inr (.inr (.inr (.inr g))))) => (t = 2 ∨ t = 3) ∧ vp_in i n ∧ ∃ q, g i.toNatClampNeg = some q ∧ k (.ref q :: r)
    | _ => False)
  | _ => False
def p_aast (h : PH) (st : List Value) (k : List Value → PH → Prop) : Prop := match st with
  | .ref v :: .int i :: .ref a :: r => (match h[a]?, h[v]? with
    | some (.inl (2, n, .inr (.inr (.inr (.inr g))))), some (.inr (1, _)) => vp_in i n ∧ k r (h.set a (.inl (2, n, .inr (.inr (.inr (.inr (va_up g i.toNatClampNeg (some v))))))))
    | _, _ => False)
  | _ => False
def p_alen (S : Nat × (Nat → Int32)) (h : PH) (st : List Value) (k : List Value → Prop) : Prop := match st with
  | .ref a :: r => (match h[a]? with
    | some (.inl (t, x)) => t < 4 ∧ k (.int (Int32.ofNat x.1) :: r)
    | _ => False)
  | .retAddr _ :: r => k (.int (Int32.ofNat S.1) :: r)
  | _ => False
def p_get (h : PH) (ci f : Nat) (st : List Value) (k : List Value → Prop) : Prop := match st with
  | .ref a :: r => (match h[a]? with
    | some (.inr (cj, fs)) => cj = ci ∧ f < fnum ci ∧ ∃ v, fs[f]? = some v ∧ k (v :: r)
    | _ => False)
  | _ => False
def p_put (h : PH) (ci f : Nat) (st : List Value) (k : List Value → PH → Prop) : Prop := match st with
  | v :: .ref a :: r => (match h[a]? with
    | some (.inr (cj, fs)) => cj = ci ∧ f < fnum ci ∧ f < fs.length ∧ narrow (ftyX ci f) v = v ∧ fits (ftyX ci f) v = true ∧ k r (h.set a (.inr (cj, fs.set f v)))
    | _ => False)
  | _ => False
/-- System.arraycopy of ints -/
def p_copy (h : PH) (st : List Value) (k : List Value → PH → Prop) : Prop := match st with
  | .int n :: .int dp :: .ref a1 :: .int sp :: .ref a0 :: r => (match h[a0]?, h[a1]? with
    | some (.inl (0, n0, .inl f)), some (.inl (0, n1, .inl g)) => ¬ sp < 0 ∧ ¬ dp < 0 ∧ ¬ n < 0 ∧ sp.toNatClampNeg + n.toNatClampNeg ≤ n0 ∧ dp.toNatClampNeg + n.toNatClampNeg ≤ n1 ∧ k r (h.set a1 (.inl (0, n1, .inl (va_cpy f g sp.toNatClampNeg dp.toNatClampNeg n.toNatClampNeg))))
    | _, _ => False)
  | _ => False
def p_new2 (h : PH) (st : List Value) (k : List Value → PH → Nat → Nat → Prop) : Prop := match st with
  | .int m :: .int n :: r => ¬ n < 0 ∧ ¬ m < 0 ∧ n.toNatClampNeg ≤ 1000 ∧ m.toNatClampNeg ≤ 1000 ∧
      k (.ref h.length :: r) ((h ++ [.inl (3, n.toNatClampNeg, .inr (.inr (.inr (.inr (fun i => if i < n.toNatClampNeg then some (h.length + 1 + i) else none)))))]) ++ List.replicate n.toNatClampNeg (.inl (0, m.toNatClampNeg, .inl (fun _ => 0)))) (1 + n.toNatClampNeg) (n.toNatClampNeg + n.toNatClampNeg * m.toNatClampNeg)
  | _ => False
/-- caught at a call: the rows of the table, with the number that is returned then -/
def p_catch (hd : List (Nat × Nat × Nat × Int)) (pc e : Nat) : Option Int := (hd.find? (fun q => decide (q.1 ≤ pc) && decide (pc < q.2.1) && q.2.2.1 == e)).map (fun q => q.2.2.2)
/-- what comes back from a call -/
def p_back (M : PM) (hd : List (Nat × Nat × Nat × Int)) (Q : Rs → PH → Prop) (K : Kt) (pc : Nat) (lv : LV) (rest : List Value) (c s : Nat) : Rs → PH → Prop := fun r h => match r with
  | .inl v => K (pc + 3) lv (v.toList ++ rest) h c s
  | .inr e => match p_catch hd pc e with
    | some z => Q (.inl (some (.int (Int32.ofInt z)))) h
    | none => Q (.inr e) h
def p_call (C : Nat → List Value → PH → (Rs → PH → Prop) → Prop) (M : PM) (hd : List (Nat × Nat × Nat × Int)) (Q : Rs → PH → Prop) (K : Kt) (pc μ : Nat) (virt : Bool) (lv : LV) (st : List Value) (h : PH) (c s : Nat) : Prop := match MT[μ]? with
  | none => False
  | some N => pN N ≤ st.length ∧ ((st.drop (pN N)).map Value.category).sum ≤ 8 ∧ c + pC N ≤ pC M ∧ s + pS N ≤ pS M ∧
      (virt = true → ∃ a fs, (st.take (pN N)).getLast? = some (.ref a) ∧ h[a]? = some (.inr (pO N, fs))) ∧
      C μ (st.take (pN N)).reverse h (p_back M hd Q K pc lv (st.drop (pN N)) (c + pC N) (s + pS N))
def pmI (C : Nat → List Value → PH → (Rs → PH → Prop) → Prop) (S : Nat × (Nat → Int32)) (M : PM) (hd : List (Nat × Nat × Nat × Int)) (Q : Rs → PH → Prop) (K : Kt) (te : TE) (lv : LV) (st : List Value) (h : PH) (c s : Nat) : Prop :=
  match te.2.1 with
  | .iconst z => K (te.1 + 1) lv (.int (Int32.ofInt z) :: st) h c s
  | .bipush z => K (te.1 + 2) lv (.int (Int8.ofInt z).toInt32 :: st) h c s
  | .sipush z => K (te.1 + 3) lv (.int (Int16.ofInt z).toInt32 :: st) h c s
  | .lconst n => K (te.1 + 1) lv (.long (Int64.ofNat n) :: st) h c s
  | .ldc _ => ∃ q, KLs[te.2.2.1]? = some q ∧ te.2.2.2 = 0 ∧ K (te.1 + 2) lv (.int q.2.2 :: st) h c s
  | .ldc_w _ => ∃ q, KLs[te.2.2.1]? = some q ∧ te.2.2.2 = 0 ∧ K (te.1 + 3) lv (.int q.2.2 :: st) h c s
  | .iload i => ∃ x, px_g lv i = some (.int x) ∧ K (te.1 + 2) lv (.int x :: st) h c s
  | .iload_n i => ∃ x, px_g lv i = some (.int x) ∧ K (te.1 + 1) lv (.int x :: st) h c s
  | .lload i => ∃ x, px_g lv i = some (.long x) ∧ K (te.1 + 2) lv (.long x :: st) h c s
  | .aload i => ∃ v, px_g lv i = some v ∧ (∃ a, v = .ref a ∨ v = .retAddr a) ∧ K (te.1 + 2) lv (v :: st) h c s
  | .aload_n i => ∃ v, px_g lv i = some v ∧ (∃ a, v = .ref a ∨ v = .retAddr a) ∧ K (te.1 + 1) lv (v :: st) h c s
  | .istore i => i < pL M ∧ on1 st fun x r => K (te.1 + 2) (px_s1 lv i (.int x)) r h c s
  | .istore_n i => (i : Nat) < pL M ∧ on1 st fun x r => K (te.1 + 1) (px_s1 lv i (.int x)) r h c s
  | .lstore i => i + 1 < pL M ∧ ∃ x r, st = .long x :: r ∧ K (te.1 + 2) (px_s2 lv i (.long x)) r h c s
  | .astore i => i < pL M ∧ onR st fun x r => K (te.1 + 2) (px_s1 lv i (.ref x)) r h c s
  | .astore_n i => (i : Nat) < pL M ∧ onR st fun x r => K (te.1 + 1) (px_s1 lv i (.ref x)) r h c s
  | .iinc i z => i < pL M ∧ ∃ x, px_g lv i = some (.int x) ∧ K (te.1 + 3) (px_s1 lv i (.int (x + Int32.ofInt z))) st h c s
  | .iadd => on2 st fun x y r => K (te.1 + 1) lv (.int (x + y) :: r) h c s
  | .isub => on2 st fun x y r => K (te.1 + 1) lv (.int (x - y) :: r) h c s
  | .imul => on2 st fun x y r => K (te.1 + 1) lv (.int (x * y) :: r) h c s
  | .idiv => on2 st fun x y r => ¬ y = 0 ∧ K (te.1 + 1) lv (.int (x / y) :: r) h c s
  | .irem => on2 st fun x y r => ¬ y = 0 ∧ K (te.1 + 1) lv (.int (x - x / y * y) :: r) h c s
  | .ineg => on1 st fun x r => K (te.1 + 1) lv (.int (-x) :: r) h c s
  | .ishl => on2 st fun x y r => K (te.1 + 1) lv (.int (x <<< (y &&& 31)) :: r) h c s
  | .ishr => on2 st fun x y r => K (te.1 + 1) lv (.int (x >>> (y &&& 31)) :: r) h c s
  | .iushr => on2 st fun x y r => K (te.1 + 1) lv (.int (x.toUInt32 >>> (y.toUInt32 &&& Int32.toUInt32 31)).toInt32 :: r) h c s
  | .iand => on2 st fun x y r => K (te.1 + 1) lv (.int (x &&& y) :: r) h c s
  | .ior => on2 st fun x y r => K (te.1 + 1) lv (.int (x ||| y) :: r) h c s
  | .ixor => on2 st fun x y r => K (te.1 + 1) lv (.int (x ^^^ y) :: r) h c s
  | .i2l => on1 st fun x r => K (te.1 + 1) lv (.long x.toInt64 :: r) h c s
  | .lcmp => onL2 st fun x y r => K (te.1 + 1) lv (.int (lg_cmp x y) :: r) h c s
  | .lshl => onLI st fun x y r => K (te.1 + 1) lv (.long (x <<< (y.toInt64 &&& 63)) :: r) h c s
  | .lor => onL2 st fun x y r => K (te.1 + 1) lv (.long (x ||| y) :: r) h c s
  | .land => onL2 st fun x y r => K (te.1 + 1) lv (.long (x &&& y) :: r) h c s
  | .dup => ∃ v r, st = v :: r ∧ v.category = 1 ∧ K (te.1 + 1) lv (v :: v :: r) h c s
  | .dup2 => ∃ v w r, st = v :: w :: r ∧ v.category = 1 ∧ w.category = 1 ∧ K (te.1 + 1) lv (v :: w :: v :: w :: r) h c s
  | .pop => ∃ v r, st = v :: r ∧ v.category = 1 ∧ K (te.1 + 1) lv r h c s
  | .goto z => jmp te.1 z fun t => K t lv st h c s
  | .ifCond cc z => on1 st fun x r => jmp te.1 z fun t => brn (ccI cc x 0) (K t lv r h c s) (K (te.1 + 3) lv r h c s)
  | .if_icmp cc z => on2 st fun x y r => jmp te.1 z fun t => brn (ccI cc x y) (K t lv r h c s) (K (te.1 + 3) lv r h c s)
  | .tableswitch d lo hi offs => on1 st fun x r => (x.toInt < lo ∨ hi < x.toInt → jmp te.1 d fun t => K t lv r h c s) ∧ (¬ x.toInt < lo → ¬ hi < x.toInt → ∃ off, offs[(x.toInt - lo).toNat]? = some off ∧ jmp te.1 off fun t => K t lv r h c s)
  | .iaload => p_iald S h st fun st => K (te.1 + 1) lv st h c s
  | .iastore => p_iast h st fun st h => K (te.1 + 1) lv st h c s
  | .laload => p_lald h st fun st => K (te.1 + 1) lv st h c s
  | .lastore => p_last h st fun st h => K (te.1 + 1) lv st h c s
  | .aaload => p_aald h st fun st => K (te.1 + 1) lv st h c s
  | .aastore => p_aast h st fun st h => K (te.1 + 1) lv st h c s
  | .arraylength => p_alen S h st fun st => K (te.1 + 1) lv st h c s
  | .getfield _ => p_get h te.2.2.1 te.2.2.2 st fun st => K (te.1 + 3) lv st h c s
  | .putfield _ => p_put h te.2.2.1 te.2.2.2 st fun st h => K (te.1 + 3) lv st h c s
  | .newarray t => on1 st fun x r => ¬ x < 0 ∧ x.toNatClampNeg ≤ 10000 ∧ c + 1 ≤ pC M ∧ s + x.toNatClampNeg ≤ pS M ∧
      ((t = .int ∧ K (te.1 + 2) lv (.ref h.length :: r) (h ++ [.inl (0, x.toNatClampNeg, .inl (fun _ => 0))]) (c + 1) (s + x.toNatClampNeg)) ∨ (t = .long ∧ K (te.1 + 2) lv (.ref h.length :: r) (h ++ [.inl (1, x.toNatClampNeg, .inr (.inl (fun _ => 0)))]) (c + 1) (s + x.toNatClampNeg)))
  | .anewarray _ => on1 st fun x r => ¬ x < 0 ∧ x.toNatClampNeg ≤ 10000 ∧ c + 1 ≤ pC M ∧ s + x.toNatClampNeg ≤ pS M ∧ K (te.1 + 3) lv (.ref h.length :: r) (h ++ [.inl (2, x.toNatClampNeg, .inr (.inr (.inr (.inr (fun _ => none)))))]) (c + 1) (s + x.toNatClampNeg)
  | .multianewarray _ _ => p_new2 h st fun st h dc ds => c + dc ≤ pC M ∧ s + ds ≤ pS M ∧ K (te.1 + 4) lv st h (c + dc) (s + ds)
  | .new _ => (te.2.2.2 = 0 ∧ c + 1 ≤ pC M ∧ s + fnum te.2.2.1 ≤ pS M ∧ K (te.1 + 3) lv (.ref h.length :: st) (h ++ [.inr (te.2.2.1, dflt te.2.2.1)]) (c + 1) (s + fnum te.2.2.1)) ∨
      (te.2.2.2 = 1 ∧ hd = [] ∧ c + 1 ≤ pC M ∧ s + 6 ≤ pS M ∧ (st.map Value.category).sum ≤ 8 ∧ ∃ x, XLs[te.2.2.1]? = some x ∧ Q (.inr x.2.2.1) h)
  | .invokevirtual _ => p_call C M hd Q K te.1 te.2.2.1 true lv st h c s
  | .invokestatic _ => (te.2.2.2 = 7 ∧ p_copy h st fun st h => (st.map Value.category).sum ≤ 8 ∧ K (te.1 + 3) lv st h c s) ∨ (te.2.2.2 ≠ 7 ∧ p_call C M hd Q K te.1 te.2.2.1 false lv st h c s)
  | .invokespecial _ => (te.2.2.2 = 6 ∧ onR st fun _ r => (r.map Value.category).sum ≤ 8 ∧ K (te.1 + 3) lv r h c s) ∨ ((te.2.2.2 = 4 ∨ te.2.2.2 = 5) ∧ p_call C M hd Q K te.1 te.2.2.1 true lv st h c s)
  | .ireturn => ∃ x, st = [.int x] ∧ (∃ t, pR M = some t ∧ narrow t (.int x) = .int x) ∧ Q (.inl (some (.int x))) h
  | .lreturn => ∃ x, st = [.long x] ∧ pR M = some .long ∧ Q (.inl (some (.long x))) h
  | .areturn => ∃ a, st = [.ref a] ∧ (∃ t, pR M = some (.object t)) ∧ Q (.inl (some (.ref a))) h
  | .return_ => st = [] ∧ pR M = none ∧ Q (.inl none) h
  | _ => False
/-- a body from a place on comes to its end with Q: the least thing that the steps allow -/
def Vx (C : Nat → List Value → PH → (Rs → PH → Prop) → Prop) (S : Nat × (Nat → Int32)) (M : PM) (hd : List (Nat × Nat × Nat × Int)) (Q : Rs → PH → Prop) : Kt := fun pc lv st h c s =>
  ∀ X : Kt, (∀ pc lv st h c s, (∃ te, (pT M).find? (fun e => e.1 == pc) = some te ∧ pmI C S M hd Q X te lv st h c s) → X pc lv st h c s) → X pc lv st h c s
/-- at most n calls open: method μ comes, from args and h, to an end with Q -/
def Ex (S : Nat × (Nat → Int32)) : Nat → Nat → List Value → PH → (Rs → PH → Prop) → Prop
  | 0, _, _, _, _ => False
  | n + 1, μ, args, h, Q => ∃ M, MT[μ]? = some M ∧ (args.map Value.category).sum ≤ pL M ∧ Vx (Ex S n) S M (if pK M = 3 then hdOf μ else []) Q 0 (lv_args 0 args) [] h 0 0
/-! the pure picture beside the machine: values, cells, lists of them -/
def A2 {α β : Type} (R : α → β → Prop) : List α → List β → Prop
  | [], l => l = []
  | a :: as, l => ∃ b bs, l = b :: bs ∧ R a b ∧ A2 R as bs
theorem A2.len {α β : Type} {R : α → β → Prop} : ∀ {l : List α} {l' : List β}, A2 R l l' → l'.length = l.length
  | [], _, h => by rw [show _ = [] from h]; rfl
  | _ :: _, _, ⟨_, _, e, _, h⟩ => by rw [e]; simp [A2.len h]
theorem A2.get {α β : Type} {R : α → β → Prop} : ∀ {l : List α} {l' : List β} {i : Nat} {x : α}, A2 R l l' → l[i]? = some x → ∃ y, l'[i]? = some y ∧ R x y
  | [], _, _, _, _, h => by simp at h
  | a :: as, _, 0, x, ⟨b, bs, e, r, _⟩, h => by simp at h; subst h; subst e; exact ⟨b, rfl, r⟩
  | a :: as, _, i + 1, x, ⟨b, bs, e, _, t⟩, h => by subst e; simp at h; simpa using A2.get t h
theorem A2.set {α β : Type} {R : α → β → Prop} {x : α} {y : β} (r : R x y) : ∀ {l : List α} {l' : List β} {i : Nat}, A2 R l l' → A2 R (l.set i x) (l'.set i y)
  | [], _, _, h => by rw [show _ = [] from h]; rfl
  | a :: as, _, 0, ⟨b, bs, e, _, t⟩ => by subst e; exact ⟨y, bs, rfl, r, t⟩
  | a :: as, _, i + 1, ⟨b, bs, e, q, t⟩ => by subst e; exact ⟨b, bs.set i y, rfl, q, A2.set r t⟩
theorem A2.app {α β : Type} {R : α → β → Prop} {m : List α} {m' : List β} (hm : A2 R m m') : ∀ {l : List α} {l' : List β}, A2 R l l' → A2 R (l ++ m) (l' ++ m')
  | [], _, h => by rw [show _ = [] from h]; simpa using hm
  | a :: as, _, ⟨b, bs, e, q, t⟩ => by subst e; exact ⟨b, bs ++ m', rfl, q, A2.app hm t⟩
theorem A2.mono {α β : Type} {R R' : α → β → Prop} (hr : ∀ x y, R x y → R' x y) : ∀ {l : List α} {l' : List β}, A2 R l l' → A2 R' l l'
  | [], _, h => h
  | a :: as, _, ⟨b, bs, e, q, t⟩ => ⟨b, bs, e, hr _ _ q, A2.mono hr t⟩
theorem A2.take {α β : Type} {R : α → β → Prop} : ∀ {l : List α} {l' : List β} (n : Nat), A2 R l l' → A2 R (l.take n) (l'.take n)
  | [], _, n, h => by rw [show _ = [] from h]; simp [A2]
  | a :: as, l', 0, h => by simp [A2]
  | a :: as, _, n + 1, ⟨b, bs, e, q, t⟩ => by subst e; exact ⟨b, bs.take n, rfl, q, A2.take n t⟩
theorem A2.drop {α β : Type} {R : α → β → Prop} : ∀ {l : List α} {l' : List β} (n : Nat), A2 R l l' → A2 R (l.drop n) (l'.drop n)
  | [], _, n, h => by rw [show _ = [] from h]; simp [A2]
  | a :: as, l', 0, h => by simpa using h
  | a :: as, _, n + 1, ⟨b, bs, e, q, t⟩ => by subst e; simpa using A2.drop n t
theorem A2.one {α β : Type} {R : α → β → Prop} {x : α} {y : β} (r : R x y) : A2 R [x] [y] := ⟨y, [], rfl, r, rfl⟩
theorem A2.rev {α β : Type} {R : α → β → Prop} : ∀ {l : List α} {l' : List β}, A2 R l l' → A2 R l.reverse l'.reverse
  | [], _, h => by rw [show _ = [] from h]; simp [A2]
  | a :: as, _, ⟨b, bs, e, q, t⟩ => by subst e; rw [List.reverse_cons, List.reverse_cons]; exact A2.app (A2.one q) (A2.rev t)
theorem A2.rep {α β : Type} {R : α → β → Prop} {x : α} {y : β} (r : R x y) : ∀ n : Nat, A2 R (List.replicate n x) (List.replicate n y)
  | 0 => rfl
  | n + 1 => ⟨y, List.replicate n y, rfl, r, A2.rep r n⟩
theorem A2.mapr {α β γ : Type} {R : α → γ → Prop} {f : β → γ} : ∀ {l : List α} {l' : List β}, A2 (fun x y => R x (f y)) l l' → A2 R l (l'.map f)
  | [], _, h => by rw [show _ = [] from h]; rfl
  | a :: as, _, ⟨b, bs, e, q, t⟩ => by subst e; exact ⟨f b, bs.map f, rfl, q, A2.mapr t⟩
/-- a value beside the machine's; b: where the script lies -/
def rv (ρ : List Nat) (b : Option Nat) (v w : Value) : Prop := match v with
  | .ref i => ∃ a, ρ[i]? = some a ∧ w = .ref a
  | .retAddr _ => ∃ a, b = some a ∧ w = .ref a
  | v => w = v
def rf (ρ : List Nat) (f f' : Nat → Option Nat) : Prop := ∀ j, match f j with
  | none => f' j = none
  | some i => ∃ a, ρ[i]? = some a ∧ f' j = some a
def rE (cy : Nat → ClassId) (ρ : List Nat) (b : Option Nat) (x : PE) (e : va_E) : Prop := match x with
  | .inl (t, n, .inl f) => e = .inl (cy t, n, .inl f)
  | .inl (t, n, .inr (.inl f)) => e = .inl (cy t, n, .inr (.inl f))
  | .inl (t, n, .inr (.inr (.inr (.inr f)))) => ∃ f', e = .inl (cy t, n, .inr (.inr (.inr (.inr f')))) ∧ rf ρ f f'
  | .inl _ => False
  | .inr (ci, fs) => ∃ fs', e = .inr (ci, fs') ∧ A2 (rv ρ b) fs fs'
def rL (ρ : List Nat) (b : Option Nat) (q q' : Nat × Value) : Prop := q'.1 = q.1 ∧ rv ρ b q.2 q'.2
def rO (ρ : List Nat) (b : Option Nat) (v v' : Option Value) : Prop := A2 (rv ρ b) v.toList v'.toList
abbrev ext (ρ ρ' : List Nat) : Prop := ∀ (i a : Nat), ρ[i]? = some a → ρ'[i]? = some a
theorem rv.mono {ρ ρ' : List Nat} {b : Option Nat} (hx : ext ρ ρ') (v w : Value) (h : rv ρ b v w) : rv ρ' b v w := by
  cases v with
  | ref i => obtain ⟨a, h1, h2⟩ := h; exact ⟨a, hx _ _ h1, h2⟩
  | _ => exact h
theorem rf.mono {ρ ρ' : List Nat} (hx : ext ρ ρ') {f f' : Nat → Option Nat} (h : rf ρ f f') : rf ρ' f f' := by
  intro j
  have hj := h j
  cases hf : f j with
  | none => simpa [hf] using hj
  | some i =>
    rw [hf] at hj
    obtain ⟨a, h1, h2⟩ := hj
    exact ⟨a, hx _ _ h1, h2⟩
theorem rE.mono {cy : Nat → ClassId} {ρ ρ' : List Nat} {b : Option Nat} (hx : ext ρ ρ') (x : PE) (e : va_E) (h : rE cy ρ b x e) : rE cy ρ' b x e := by
  rcases x with ⟨t, n, f | f | f | f | f⟩ | ⟨ci, fs⟩
  · exact h
  · exact h
  · exact h
  · exact h
  · obtain ⟨f', h1, h2⟩ := h; exact ⟨f', h1, h2.mono hx⟩
  · obtain ⟨fs', h1, h2⟩ := h; exact ⟨fs', h1, h2.mono (rv.mono hx)⟩
theorem rv.cat {ρ : List Nat} {b : Option Nat} {v w : Value} (h : rv ρ b v w) : w.category = v.category := by
  cases v with
  | ref i => obtain ⟨a, _, h2⟩ := h; rw [h2]; rfl
  | retAddr i => obtain ⟨a, _, h2⟩ := h; rw [h2]; rfl
  | _ => rw [show w = _ from h]
theorem A2.cats {ρ : List Nat} {b : Option Nat} : ∀ {l l' : List Value}, A2 (rv ρ b) l l' → (l'.map fun v => v.category) = l.map Value.category
  | [], _, h => by rw [show _ = [] from h]
  | a :: as, _, ⟨_, _, e, q, t⟩ => by subst e; simp [q.cat, A2.cats t]
theorem A2.filt {ρ : List Nat} {b : Option Nat} {P : Nat × Value → Bool} (hP : ∀ q q', rL ρ b q q' → P q' = P q) : ∀ {l l' : LV}, A2 (rL ρ b) l l' → A2 (rL ρ b) (l.filter P) (l'.filter P)
  | [], _, h => by rw [show _ = [] from h]; rfl
  | a :: as, _, ⟨c, cs, e, q, t⟩ => by
    subst e
    rw [List.filter_cons, List.filter_cons, hP _ _ q]
    by_cases hp : P a = true
    · rw [if_pos hp, if_pos hp]; exact ⟨c, _, rfl, q, A2.filt hP t⟩
    · rw [if_neg hp, if_neg hp]; exact A2.filt hP t
theorem rl_s1 {ρ : List Nat} {b : Option Nat} {lv lv' : LV} (h : A2 (rL ρ b) lv lv') (i : Nat) {v w : Value} (hv : rv ρ b v w) : A2 (rL ρ b) (px_s1 lv i v) ((i, w) :: lv'.filter (fun q => !(q.1 == i) && !(q.1 + 1 == i && q.2.category == 2))) :=
  ⟨(i, w), _, rfl, ⟨rfl, hv⟩, A2.filt (fun q q' hq => by rw [hq.1, hq.2.cat]) h⟩
theorem rl_s2 {ρ : List Nat} {b : Option Nat} {lv lv' : LV} (h : A2 (rL ρ b) lv lv') (i : Nat) {v w : Value} (hv : rv ρ b v w) : A2 (rL ρ b) (px_s2 lv i v) ((i, w) :: lv'.filter (fun q => !(q.1 == i) && (!(q.1 == i + 1) && !(q.1 + 1 == i && q.2.category == 2)))) :=
  ⟨(i, w), _, rfl, ⟨rfl, hv⟩, A2.filt (fun q q' hq => by rw [hq.1, hq.2.cat]) h⟩
theorem rl_g {ρ : List Nat} {b : Option Nat} {i : Nat} {v : Value} : ∀ {lv lv' : LV}, A2 (rL ρ b) lv lv' → px_g lv i = some v → ∃ (k : Nat) (w : Value), lv'[k]? = some (i, w) ∧ rv ρ b v w
  | [], _, _, h => by simp [px_g] at h
  | a :: as, _, ⟨c, cs, e, q, t⟩, h => by
    subst e
    by_cases ha : (a.1 == i) = true
    · simp [px_g, List.find?, ha] at h
      subst h
      refine ⟨0, c.2, ?_, q.2⟩
      rw [beq_iff_eq] at ha
      simp [← ha, ← q.1]
    · have h' : px_g as i = some v := by
        simp only [px_g, List.find?] at h ⊢
        simpa [ha] using h
      obtain ⟨k, w, h1, h2⟩ := rl_g t h'
      exact ⟨k + 1, w, by simpa using h1, h2⟩
theorem rl_args {ρ : List Nat} {b : Option Nat} : ∀ {l l' : List Value} (i : Nat), A2 (rv ρ b) l l' → A2 (rL ρ b) (lv_args i l) (lv_args i l')
  | [], _, i, h => by rw [show _ = [] from h]; rfl
  | a :: as, _, i, ⟨c, cs, e, q, t⟩ => by
    subst e
    refine ⟨(i, c), _, rfl, ⟨rfl, q⟩, ?_⟩
    rw [q.cat]
    exact rl_args _ t
/-- what the stack's forms say -/
theorem on1_i {st : List Value} {f : Int32 → List Value → Prop} (h : on1 st f) : ∃ x r, st = .int x :: r ∧ f x r := by
  unfold on1 at h
  split at h
  · exact ⟨_, _, rfl, h⟩
  · exact h.elim
theorem on2_i {st : List Value} {f : Int32 → Int32 → List Value → Prop} (h : on2 st f) : ∃ x y r, st = .int y :: .int x :: r ∧ f x y r := by
  unfold on2 at h
  split at h
  · exact ⟨_, _, _, rfl, h⟩
  · exact h.elim
theorem onL2_i {st : List Value} {f : Int64 → Int64 → List Value → Prop} (h : onL2 st f) : ∃ x y r, st = .long y :: .long x :: r ∧ f x y r := by
  unfold onL2 at h
  split at h
  · exact ⟨_, _, _, rfl, h⟩
  · exact h.elim
theorem onLI_i {st : List Value} {f : Int64 → Int32 → List Value → Prop} (h : onLI st f) : ∃ x y r, st = .int y :: .long x :: r ∧ f x y r := by
  unfold onLI at h
  split at h
  · exact ⟨_, _, _, rfl, h⟩
  · exact h.elim
theorem onR_i {st : List Value} {f : Nat → List Value → Prop} (h : onR st f) : ∃ a r, st = .ref a :: r ∧ f a r := by
  unfold onR at h
  split at h
  · exact ⟨_, _, rfl, h⟩
  · exact h.elim
theorem a_1 {ρ : List Nat} {b : Option Nat} {x : Int32} {r st' : List Value} (h : A2 (rv ρ b) (.int x :: r) st') : ∃ r', st' = .int x :: r' ∧ A2 (rv ρ b) r r' := by
  obtain ⟨w, r', e, h1, h2⟩ := h
  exact ⟨r', by rw [e, show w = .int x from h1], h2⟩
theorem a_2 {ρ : List Nat} {b : Option Nat} {x y : Int32} {r st' : List Value} (h : A2 (rv ρ b) (.int y :: .int x :: r) st') : ∃ r', st' = .int y :: .int x :: r' ∧ A2 (rv ρ b) r r' := by
  obtain ⟨r1, e, h1⟩ := a_1 h
  obtain ⟨r2, e2, h2⟩ := a_1 h1
  exact ⟨r2, by rw [e, e2], h2⟩
theorem a_l {ρ : List Nat} {b : Option Nat} {x : Int64} {r st' : List Value} (h : A2 (rv ρ b) (.long x :: r) st') : ∃ r', st' = .long x :: r' ∧ A2 (rv ρ b) r r' := by
  obtain ⟨w, r', e, h1, h2⟩ := h
  exact ⟨r', by rw [e, show w = .long x from h1], h2⟩
theorem a_r {ρ : List Nat} {b : Option Nat} {i : Nat} {r st' : List Value} (h : A2 (rv ρ b) (.ref i :: r) st') : ∃ a r', ρ[i]? = some a ∧ st' = .ref a :: r' ∧ A2 (rv ρ b) r r' := by
  obtain ⟨w, r', e, ⟨a, h1, h3⟩, h2⟩ := h
  exact ⟨a, r', h1, by rw [e, h3], h2⟩
theorem a_c {ρ : List Nat} {b : Option Nat} {v : Value} {r st' : List Value} (h : A2 (rv ρ b) (v :: r) st') : ∃ w r', st' = w :: r' ∧ rv ρ b v w ∧ A2 (rv ρ b) r r' := h
theorem a_i {ρ : List Nat} {b : Option Nat} (x : Int32) {r r' : List Value} (h : A2 (rv ρ b) r r') : A2 (rv ρ b) (.int x :: r) (.int x :: r') := ⟨_, _, rfl, rfl, h⟩
theorem a_L {ρ : List Nat} {b : Option Nat} (x : Int64) {r r' : List Value} (h : A2 (rv ρ b) r r') : A2 (rv ρ b) (.long x :: r) (.long x :: r') := ⟨_, _, rfl, rfl, h⟩
/-! what the pure machine says holds of the machine: one body, instruction by instruction -/
def pTy (cy : Nat → ClassId) : List (ClassId × FieldType) := [(cy 0, .int), (cy 1, .long), (cy 2, .object "OverlapMill$Chart"), (cy 3, .array .int)]
theorem va_AOA.moved {ty : FieldType} {u U : State} (hvm : u.vm.Alike U.vm) (h : va_AOA ty u) : va_AOA ty U := by
  have h1 := Cond.arrayOver_setVmC (args := #[]) (s := u) hvm (.array ty)
  have h2 : (Cond.arrayOver (.array ty)).before #[] (u.setVm U.vm) = true := h1.trans h
  exact h2
theorem nw_warm {w : Cond} (hw : nwOK w = true) {s U : State} (hW : s.WarmedH U.vm) (h : va_Nw w s) : va_Nw w U := by
  cases w <;> first | exact va_Nw.warmF hW h | exact va_Nw.warmM hW h | exact va_Nw.warmD hW h | exact va_Nw.warmC hW h | (exact absurd hw (by simp [nwOK]))
def XK (D : va_G) (cy : Nat → ClassId) (A : Nat → Prop) (b : Option Nat) (S : Nat × (Nat → Int32)) (U : State) (H : Heap) : Prop :=
  va_K D vwCl (pTy cy) U ∧ (∀ w ∈ lw_tbl, nwOK w = true → va_Nw w U) ∧ va_AO "OverlapMill$Chart" U ∧ va_AOA .int U ∧
  (vx_Zq Bundle.tN "UNASSIGNED_STACK" Bundle.steD A U H ∧ vx_Zq Bundle.tN "SUPPRESSED_SENTINEL" Bundle.listD A U H) ∧ (∀ x ∈ XLs, ∃ (tx : String) (a : Nat), vk_R RX9 x.2.2.2.2.1 tx a U) ∧ (∀ a, b = some a → va_X a S.1 S.2 U H ∧ a < H.size ∧ ¬ A a) ∧ (∀ (x y : Nat) (E F : String), xnm[x]? = some E → xnm[y]? = some F → x ≠ y → va_Nc E F U)
theorem XK.go {D : va_G} {cy : Nat → ClassId} {A B : Nat → Prop} {b : Option Nat} {S : Nat × (Nat → Int32)} {s U : State} {H0 H : Heap} (h : XK D cy A b S s H0) (hW : s.WarmedH U.vm) (hz : H0.size ≤ H.size) (hk : ∀ q : Nat, q < H0.size → ¬ A q → H[q]? = H0[q]?) (hB : ∀ q, B q → A q) : XK D cy B b S U H := by
  obtain ⟨h1, h2, h3, h4, ⟨h5, h6⟩, h7, h8, h9⟩ := h
  refine ⟨h1.moved hW.alike, fun w hw hn => nw_warm hn hW (h2 w hw hn), h3.moved hW.alike, h4.moved hW.alike, ⟨((h5.kept hk).moved hW.alike).narrow hB, ((h6.kept hk).moved hW.alike).narrow hB⟩, fun x hx => ?_, fun a ha => ?_, fun x y E F e1 e2 e3 => (h9 x y E F e1 e2 e3).moved hW.alike⟩
  · obtain ⟨tx, a, h9⟩ := h7 x hx
    exact ⟨tx, a, h9.warm hW⟩
  · obtain ⟨⟨scr, g1, g2, g3, g4, g5⟩, g6, g7⟩ := h8 a ha
    exact ⟨⟨scr, (hk a g6 g7).trans g1, State.isArrayOf_alike hW.alike g2, g3, g4, g5⟩, Nat.lt_of_lt_of_le g6 hz, fun q => g7 (hB _ q)⟩
def INV (D : va_G) (cy : Nat → ClassId) (A : Nat → Prop) (b : Option Nat) (s : State) (ws0 : va_W) (h : PH) (ws : va_W) (H : Heap) (locs : List Loc) : Prop :=
  ext (ws0.map Prod.fst) (ws.map Prod.fst) ∧ A2 (rE cy (ws.map Prod.fst) b) h (ws.map Prod.snd) ∧ va_P D vwCl ws H ∧ va_D A ws ∧ va_S A s.heap H locs
def GD (p : Program) (l : Launch) (e : Env) (R : Room) (s : State) (m : MethodId) (args : Array Value) (below : List Frame) (meth : Method) (c : Code) (D : va_G) (cy : Nat → ClassId) (A : Nat → Prop) (b : Option Nat) (M : PM) (ws0 : va_W) (Z : State → Prop)
    (pc : Nat) (lv : LV) (st : List Value) (h : PH) (cells slots : Nat) : Prop :=
  ∀ (ls : Array Slot) (lv' : LV) (st' : List Value) (ws : va_W) (H : Heap) (locs : List Loc), lv_has ls (pL M) lv' → A2 (rL (ws.map Prod.fst) b) lv lv' → A2 (rv (ws.map Prod.fst) b) st st' → INV D cy A b s ws0 h ws H locs → cells ≤ pC M → slots ≤ pS M →
    W p l e R s m args below meth c H locs cells slots Z (F0 m pc ls st')
def CX (p : Program) (l : Launch) (R : Room) (s : State) (m : MethodId) (args : Array Value) (meth : Method) (c : Code) (D : va_G) (cy : Nat → ClassId) (A : Nat → Prop) (b : Option Nat) (S : Nat × (Nat → Int32)) (M : PM) (n : Nat) : Prop :=
  p.tables.exec = Jvm.exec ∧ c.code = pB M ∧ c.maxLocals = pL M ∧ s.vm.findClass (cnm.getD (pO M) "") = some m.cls ∧ (∀ w ∈ TBL, w.before args s = true) ∧ XK D cy A b S s s.heap ∧ (∀ q, s.heap.size ≤ q → A q) ∧ (pK M = 2 → meth.name = "<init>") ∧ pC M ≤ R.cells ∧ pS M ≤ R.slots ∧ n + 9 ≤ R.frames ∧ 40 * n + 240 ≤ R.locals ∧ l.stackTraces = false
/-- room of a body with n calls below it -/
abbrev rmN (n : Nat) (M : PM) : Room := { frames := n + 8, cells := pC M, slots := pS M, locals := 40 * n + 200 }
noncomputable def wsN (μ : Nat) (N : PM) : List Cond := (if pK N = 3 then Cond.codeWith (pY N) (pB N) (pL N) (pR N) (hhOf μ) else codeOf N) :: TBL
def PO (D : va_G) (cy : Nat → ClassId) (b : Option Nat) (ws : va_W) (sz : Nat) (ws' : va_W) (h' : PH) (H : Heap) : Prop := ext (ws.map Prod.fst) (ws'.map Prod.fst) ∧ A2 (rE cy (ws'.map Prod.fst) b) h' (ws'.map Prod.snd) ∧ va_P D vwCl ws' H ∧ va_D (va_A ws sz) ws'
def QcP (D : va_G) (cy : Nat → ClassId) (b : Option Nat) (ws : va_W) (sz : Nat) (Q : Rs → PH → Prop) : Array Value → State → Outcome → State → Prop := fun _ st oc t =>
  (∃ (v v' : Option Value) (h' : PH) (ws' : va_W), oc = .returned v' ∧ Q (.inl v) h' ∧ rO (ws'.map Prod.fst) b v v' ∧ PO D cy b ws sz ws' h' t.heap) ∧ va_F (va_A ws sz) st t
def XcP (D : va_G) (cy : Nat → ClassId) (b : Option Nat) (ws : va_W) (sz : Nat) (Q : Rs → PH → Prop) : String → State → State → Prop := fun E st t =>
  (∃ (x : Nat) (h' : PH) (ws' : va_W), xnm[x]? = some E ∧ Q (.inr x) h' ∧ PO D cy b ws sz ws' h' t.heap) ∧ va_F (va_A ws sz) st t
def PcP (D : va_G) (cy : Nat → ClassId) (b : Option Nat) (S : Nat × (Nat → Int32)) (ws : va_W) (sz : Nat) : State → Prop := fun U => U.heap.size = sz ∧ va_P D vwCl ws U.heap ∧ va_D (fun _ => True) ws ∧ XK D cy (va_A ws sz) b S U U.heap
def CT (l : Launch) (D : va_G) (cy : Nat → ClassId) (b : Option Nat) (S : Nat × (Nat → Int32)) (n μ : Nat) (N : PM) (av : List Value) (h : PH) (Q : Rs → PH → Prop) : Prop := ∀ (av' : List Value) (ws : va_W) (sz : Nat), A2 (rv (ws.map Prod.fst) b) av av' → A2 (rE cy (ws.map Prod.fst) b) h (ws.map Prod.snd) →
  vx_Met l (pY N) (wsN μ N) (rmN n N) (va_Pc av' (PcP D cy b S ws sz)) (QcP D cy b ws sz Q) (XcP D cy b ws sz Q) (pC N) (pS N) (va_A ws sz)
theorem PcP.blind {D : va_G} {cy : Nat → ClassId} {b : Option Nat} {S : Nat × (Nat → Int32)} {ws : va_W} {sz : Nat} {av : List Value} : FrameBlind (va_Pc av (PcP D cy b S ws sz)) := by
  intro a U g mk h
  obtain ⟨h0, h1, h2, h3, h4⟩ := h
  exact ⟨h0, h1, h2, h3, XK.go (s := U) (U := U.calling g mk a) h4 (State.WarmedH.refl U) (Nat.le_refl _) (fun _ _ _ => rfl) (fun _ q => q)⟩
section SND
variable {p : Program} {l : Launch} {e : Env} {R : Room} {s : State} {m : MethodId} {args : Array Value} {below : List Frame} {meth : Method} {c : Code} {D : va_G} {cy : Nat → ClassId} {A : Nat → Prop} {b : Option Nat} {S : Nat × (Nat → Int32)} {M : PM} {ws0 : va_W} {Z : State → Prop} {n : Nat}
/-- a cell of the picture, in the world -/
theorem INV.at {h : PH} {ws : va_W} {H : Heap} {locs : List Loc} (hI : INV D cy A b s ws0 h ws H locs) {i a : Nat} {x : PE} (ha : (ws.map Prod.fst)[i]? = some a) (hx : h[i]? = some x) : ∃ y, ws[i]? = some (a, y) ∧ rE cy (ws.map Prod.fst) b x y := by
  obtain ⟨y, hy, hr⟩ := hI.2.1.get hx
  rw [List.getElem?_map, Option.map_eq_some_iff] at ha hy
  obtain ⟨q, h1, h2⟩ := ha
  obtain ⟨q', h3, h4⟩ := hy
  cases h1.symm.trans h3
  exact ⟨y, by rw [h1, ← h2, ← h4], hr⟩
theorem fst_set {ws : va_W} {i a : Nat} {y y' : va_E} (h : ws[i]? = some (a, y)) : (ws.set i (a, y')).map Prod.fst = ws.map Prod.fst := by
  rw [List.map_set]
  apply List.ext_getElem?
  intro j
  by_cases hj : i = j
  · subst hj
    have hl : i < ws.length := (List.getElem?_eq_some_iff.mp h).1
    rw [List.getElem?_set_self (by simpa using hl), List.getElem?_map, h]
    rfl
  · rw [List.getElem?_set_ne hj]
theorem INV.set {h : PH} {ws : va_W} {H H1 : Heap} {locs locs1 : List Loc} (hI : INV D cy A b s ws0 h ws H locs) {i a : Nat} {y y' : va_E} {x' : PE} (hw : ws[i]? = some (a, y)) (hr : rE cy (ws.map Prod.fst) b x' y') (h1 : va_P D vwCl (ws.set i (a, y')) H1) (h2 : va_D A (ws.set i (a, y'))) (h3 : va_S A s.heap H1 locs1) :
    INV D cy A b s ws0 (h.set i x') (ws.set i (a, y')) H1 locs1 := by
  refine ⟨by rw [fst_set hw]; exact hI.1, ?_, h1, h2, h3⟩
  rw [fst_set hw, List.map_set]
  exact hI.2.1.set hr
theorem ext_app (ρ σ : List Nat) : ext ρ (ρ ++ σ) := fun i a h => by
  rw [List.getElem?_append_left ((List.getElem?_eq_some_iff.mp h).1)]
  exact h
theorem INV.push {h : PH} {ws : va_W} {H H1 : Heap} {locs locs1 : List Loc} (hI : INV D cy A b s ws0 h ws H locs) {q : Nat} {y : va_E} {x : PE} (hr : rE cy ((ws ++ [(q, y)]).map Prod.fst) b x y) (h1 : va_P D vwCl (ws ++ [(q, y)]) H1) (h2 : va_D A (ws ++ [(q, y)])) (h3 : va_S A s.heap H1 locs1) :
    INV D cy A b s ws0 (h ++ [x]) (ws ++ [(q, y)]) H1 locs1 ∧ ext (ws.map Prod.fst) ((ws ++ [(q, y)]).map Prod.fst) ∧ ((ws ++ [(q, y)]).map Prod.fst)[h.length]? = some q := by
  have hx : ext (ws.map Prod.fst) ((ws ++ [(q, y)]).map Prod.fst) := by rw [List.map_append]; exact ext_app _ _
  refine ⟨⟨fun i a ha => hx i a (hI.1 i a ha), ?_, h1, h2, h3⟩, hx, ?_⟩
  · rw [List.map_append (f := Prod.snd)]
    exact A2.app (A2.one hr) (hI.2.1.mono (rE.mono hx))
  · have hl := hI.2.1.len
    rw [List.length_map] at hl
    rw [← hl, List.map_append, List.getElem?_append_right (by simp)]
    simp
/-- a call, out of its run -/
theorem px_run {H : Heap} {locs : List Loc} {cells slots mc ms pc : Nat} {ls : Array Slot} {st0 rest : List Value} {ws : va_W} {Q' : Rs → PH → Prop} {a : Array Value}
    (hr : vx_Run p l e R s m args below meth c H locs cells slots mc ms (F0 m pc ls st0) rest (QcP D cy b ws H.size Q' a) (XcP D cy b ws H.size Q') (va_A ws H.size)) (hS : va_S A s.heap H locs) (hA : ∀ q, va_A ws H.size q → A q)
    (kx : ∀ (E : String) (ce : Cell) (q9 : Addr) (x : Nat) (h' : PH) (ws' : va_W) (H1 : Heap) (locs1 : List Loc), xnm[x]? = some E → Q' (.inr x) h' → PO D cy b ws H.size ws' h' H1 → va_S A s.heap H1 locs1 → H1[q9]? = some ce → ce.vm = .none → s.vm.findClass E = some ce.cls → vx_W p l e R s m args below meth c H1 locs1 (cells + mc) (slots + ms) Z (F0 m pc ls rest) q9)
    (kk : ∀ (v v' : Option Value) (h' : PH) (ws' : va_W) (H1 : Heap) (locs1 : List Loc), Q' (.inl v) h' → rO (ws'.map Prod.fst) b v v' → PO D cy b ws H.size ws' h' H1 → va_S A s.heap H1 locs1 → W p l e R s m args below meth c H1 locs1 (cells + mc) (slots + ms) Z (F0 m (pc + 3) ls (v'.toList ++ rest))) : W p l e R s m args below meth c H locs cells slots Z (F0 m pc ls st0) := by
  intro T hT X
  rcases hr T hT X with ⟨v, st₀, t, T', L, h0, X', hL, e1, e2, ⟨⟨v1, v2, h', ws', hv, hp, ho, hb⟩, hF⟩, st⟩ | ⟨q, st₀, t, T', L, E, ce, h0, X', hL, e1, e2, ⟨⟨x, h', ws', hxe, hp, hb⟩, hF⟩, hce, hcv, hcl, st⟩
  · cases hv
    obtain ⟨k1, k2, k3⟩ := vx_keep h0 e1 hS (fun q _ hq => hA q hq) hA hL hF
    obtain ⟨t2, a1, b1⟩ := kk v1 v h' ws' T'.heap (locs ++ L) hp ho (by rw [e1]; exact hb) k3 T' rfl X'
    exact ⟨t2, st t2 a1, b1⟩
  · obtain ⟨k1, k2, k3⟩ := vx_keep h0 e1 hS (fun q _ hq => hA q hq) hA hL hF
    obtain ⟨t2, a1, b1⟩ := kx E ce q x h' ws' T'.heap (locs ++ L) hxe hp (by rw [e1]; exact hb) k3 (by rw [e1]; exact hce) hcv hcl T' rfl X'
    exact ⟨t2, st.trans a1, b1⟩
end SND
/-! the words at an instruction; what the forms of the stack say -/
theorem cl_lt {ci : Nat} (h : ci < 11) : ∃ r, vwCl[ci]? = some r := ⟨_, List.getElem?_eq_getElem (show ci < vwCl.length from h)⟩
theorem fnum_eq {ci : Nat} {r : vw_C} (h : vwCl[ci]? = some r) : fnum ci = r.2.2 := by unfold fnum; rw [h]
theorem LY_in {ci : Nat} {r : vw_C} (h : vwCl[ci]? = some r) : ∀ w ∈ u_ws r.1 r.2.1 r.2.2, w ∈ TBL := fun w hw => TBL_of (LY_ok r (List.mem_of_getElem? h) w hw)
theorem ftyX_ok : ∀ {ci : Nat} {r : vw_C}, vwCl[ci]? = some r → ∀ k, k < r.2.2 → parseFieldDescriptor (r.2.1 k).2.2.1 = some (ftyX ci k)
  | 0, _, h => by cases h; exact tyX0_ok
  | 1, _, h => by cases h; exact tyX1_ok
  | 2, _, h => by cases h; exact tyX2_ok
  | 3, _, h => by cases h; exact tyX3_ok
  | 4, _, h => by cases h; exact tyX4_ok
  | 5, _, h => by cases h; exact tyX5_ok
  | 6, _, h => by cases h; exact tyX6_ok
  | 7, _, h => by cases h; exact tyX7_ok
  | 8, _, h => by cases h; exact tyX8_ok
  | 9, _, h => by cases h; exact tyX9_ok
  | 10, _, h => by cases h; exact tyX10_ok
  | n + 11, _, h => by simp [vwCl] at h
theorem nmX_ok : ∀ {ci : Nat} {r : vw_C}, vwCl[ci]? = some r → ∀ a, a < r.2.2 → ∀ b, b < r.2.2 → a ≠ b → (r.2.1 a).2.1 ≠ (r.2.1 b).2.1
  | 0, _, h => by cases h; exact nmX0
  | 1, _, h => by cases h; exact nmX1
  | 2, _, h => by cases h; exact nmX2
  | 3, _, h => by cases h; exact nmX3
  | 4, _, h => by cases h; exact nmX4
  | 5, _, h => by cases h; exact nmX5
  | 6, _, h => by cases h; exact nmX6
  | 7, _, h => by cases h; exact nmX7
  | 8, _, h => by cases h; exact nmX8
  | 9, _, h => by cases h; exact nmX9
  | 10, _, h => by cases h; exact nmX10
  | n + 11, _, h => by simp [vwCl] at h
theorem owX_ok : ∀ {ci : Nat} {r : vw_C}, vwCl[ci]? = some r → cnm.getD ci "" = r.1 ∧ ∀ k, k < r.2.2 → (r.2.1 k).1 = r.1
  | 0, _, h => by cases h; exact ⟨rfl, by decide +kernel⟩
  | 1, _, h => by cases h; exact ⟨rfl, by decide +kernel⟩
  | 2, _, h => by cases h; exact ⟨rfl, by decide +kernel⟩
  | 3, _, h => by cases h; exact ⟨rfl, by decide +kernel⟩
  | 4, _, h => by cases h; exact ⟨rfl, by decide +kernel⟩
  | 5, _, h => by cases h; exact ⟨rfl, by decide +kernel⟩
  | 6, _, h => by cases h; exact ⟨rfl, by decide +kernel⟩
  | 7, _, h => by cases h; exact ⟨rfl, by decide +kernel⟩
  | 8, _, h => by cases h; exact ⟨rfl, by decide +kernel⟩
  | 9, _, h => by cases h; exact ⟨rfl, by decide +kernel⟩
  | 10, _, h => by cases h; exact ⟨rfl, by decide +kernel⟩
  | n + 11, _, h => by simp [vwCl] at h
theorem fl_0 {o i ci k : Nat} {r : vw_C} (hc : vwCl[ci]? = some r) (h : (o, i, ci, k, 0) ∈ FLs) : Cond.fieldLink (cnm.getD o "") i (r.2.1 k).1 (r.2.1 k).2.1 (r.2.1 k).2.2.1 ∈ TBL := by
  have h1 := FL_ok _ h
  have e : flW (o, i, ci, k, 0) = Cond.fieldLink (cnm.getD o "") i (r.2.1 k).1 (r.2.1 k).2.1 (r.2.1 k).2.2.1 := by unfold flW; rw [hc]; rfl
  rw [e] at h1
  exact TBL_of ⟨h1.1, rfl⟩
theorem fl_1 {o i ci k : Nat} {r : vw_C} (hc : vwCl[ci]? = some r) (h : (o, i, ci, k, 1) ∈ FLs) : Cond.fieldLinkNest (cnm.getD o "") i (r.2.1 k).1 (r.2.1 k).2.1 (r.2.1 k).2.2.1 "OverlapMill" ∈ lw_tbl := by
  have h1 := FL_ok _ h
  have e : flW (o, i, ci, k, 1) = Cond.fieldLinkNest (cnm.getD o "") i (r.2.1 k).1 (r.2.1 k).2.1 (r.2.1 k).2.2.1 "OverlapMill" := by unfold flW; rw [hc]; rfl
  rw [e] at h1
  exact h1.1
theorem kl_in {q : Nat × Nat × Int32} {k : Nat} (h : KLs[k]? = some q) : Cond.constant (cnm.getD q.1 "") q.2.1 q.2.2 ∈ TBL := TBL_of ⟨(KL_ok q (List.mem_of_getElem? h)).1, rfl⟩
theorem cl_in {o i a : Nat} (ha : a < 11) (h : (o, i, a) ∈ CLs) : Cond.classLink (cnm.getD o "") i (cnm.getD a "") ∈ TBL := by
  have h1 := CL_ok _ h
  have e : clW (o, i, a) = Cond.classLink (cnm.getD o "") i (cnm.getD a "") := by
    unfold clW
    rw [if_neg (show ¬ (o, i, a).2.2 = 90 by show ¬ a = 90; omega), if_neg (show ¬ (o, i, a).2.2 = 91 by show ¬ a = 91; omega)]
  rw [e] at h1
  exact TBL_of ⟨h1.1, rfl⟩
theorem p_iald_i {S : Nat × (Nat → Int32)} {h : PH} {st : List Value} {k : List Value → Prop} (H : p_iald S h st k) : (∃ i a r n g, st = .int i :: .ref a :: r ∧ h[a]? = some (.inl (0, n, .inl g)) ∧ vp_in i n ∧ k (.int (g i.toNatClampNeg) :: r)) ∨ (∃ i a r, st = .int i :: .retAddr a :: r ∧ vp_in i S.1 ∧ k (.int (S.2 i.toNatClampNeg) :: r)) := by
  unfold p_iald at H
  split at H
  · split at H
    · exact Or.inl ⟨_, _, _, _, _, rfl, ‹_›, H.1, H.2⟩
    · exact H.elim
  · exact Or.inr ⟨_, _, _, rfl, H.1, H.2⟩
  · exact H.elim
theorem p_iast_i {h : PH} {st : List Value} {k : List Value → PH → Prop} (H : p_iast h st k) : ∃ x i a r n g, st = .int x :: .int i :: .ref a :: r ∧ h[a]? = some (.inl (0, n, .inl g)) ∧ vp_in i n ∧ k r (h.set a (.inl (0, n, .inl (upd g i.toNatClampNeg x)))) := by
  unfold p_iast at H
  split at H
  · split at H
    · exact ⟨_, _, _, _, _, _, rfl, ‹_›, H.1, H.2⟩
    · exact H.elim
  · exact H.elim
theorem p_lald_i {h : PH} {st : List Value} {k : List Value → Prop} (H : p_lald h st k) : ∃ i a r n g, st = .int i :: .ref a :: r ∧ h[a]? = some (.inl (1, n, .inr (.inl g))) ∧ vp_in i n ∧ k (.long (g i.toNatClampNeg) :: r) := by
  unfold p_lald at H
  split at H
  · split at H
    · exact ⟨_, _, _, _, _, rfl, ‹_›, H.1, H.2⟩
    · exact H.elim
  · exact H.elim
theorem p_last_i {h : PH} {st : List Value} {k : List Value → PH → Prop} (H : p_last h st k) : ∃ x i a r n g, st = .long x :: .int i :: .ref a :: r ∧ h[a]? = some (.inl (1, n, .inr (.inl g))) ∧ vp_in i n ∧ k r (h.set a (.inl (1, n, .inr (.inl (vp_updL g i.toNatClampNeg x))))) := by
  unfold p_last at H
  split at H
  · split at H
    · exact ⟨_, _, _, _, _, _, rfl, ‹_›, H.1, H.2⟩
    · exact H.elim
  · exact H.elim
theorem p_aald_i {h : PH} {st : List Value} {k : List Value → Prop} (H : p_aald h st k) : ∃ i a r t n g q, st = .int i :: .ref a :: r ∧ h[a]? = some (.inl (t, n, .inr (.inr (.inr (.inr g))))) ∧ (t = 2 ∨ t = 3) ∧ vp_in i n ∧ g i.toNatClampNeg = some q ∧ k (.ref q :: r) := by
  unfold p_aald at H
  split at H
  · split at H
    · obtain ⟨h1, h2, q, h3, h4⟩ := H
      exact ⟨_, _, _, _, _, _, q, rfl, ‹_›, h1, h2, h3, h4⟩
    · exact H.elim
  · exact H.elim
theorem p_aast_i {h : PH} {st : List Value} {k : List Value → PH → Prop} (H : p_aast h st k) : ∃ v i a r n g fs, st = .ref v :: .int i :: .ref a :: r ∧ h[a]? = some (.inl (2, n, .inr (.inr (.inr (.inr g))))) ∧ h[v]? = some (.inr (1, fs)) ∧ vp_in i n ∧ k r (h.set a (.inl (2, n, .inr (.inr (.inr (.inr (va_up g i.toNatClampNeg (some v)))))))) := by
  unfold p_aast at H
  split at H
  · split at H
    · exact ⟨_, _, _, _, _, _, _, rfl, ‹_›, ‹_›, H.1, H.2⟩
    · exact H.elim
  · exact H.elim
theorem p_alen_i {S : Nat × (Nat → Int32)} {h : PH} {st : List Value} {k : List Value → Prop} (H : p_alen S h st k) : (∃ a r t x, st = .ref a :: r ∧ h[a]? = some (.inl (t, x)) ∧ t < 4 ∧ k (.int (Int32.ofNat x.1) :: r)) ∨ (∃ a r, st = .retAddr a :: r ∧ k (.int (Int32.ofNat S.1) :: r)) := by
  unfold p_alen at H
  split at H
  · split at H
    · exact Or.inl ⟨_, _, _, _, rfl, ‹_›, H.1, H.2⟩
    · exact H.elim
  · exact Or.inr ⟨_, _, rfl, H⟩
  · exact H.elim
theorem p_get_i {h : PH} {ci f : Nat} {st : List Value} {k : List Value → Prop} (H : p_get h ci f st k) : ∃ a r fs v, st = .ref a :: r ∧ h[a]? = some (.inr (ci, fs)) ∧ f < fnum ci ∧ fs[f]? = some v ∧ k (v :: r) := by
  unfold p_get at H
  split at H
  · split at H
    · obtain ⟨rfl, h2, v, h3, h4⟩ := H
      exact ⟨_, _, _, v, rfl, ‹_›, h2, h3, h4⟩
    · exact H.elim
  · exact H.elim
theorem p_put_i {h : PH} {ci f : Nat} {st : List Value} {k : List Value → PH → Prop} (H : p_put h ci f st k) : ∃ v a r fs, st = v :: .ref a :: r ∧ h[a]? = some (.inr (ci, fs)) ∧ f < fnum ci ∧ f < fs.length ∧ narrow (ftyX ci f) v = v ∧ fits (ftyX ci f) v = true ∧ k r (h.set a (.inr (ci, fs.set f v))) := by
  unfold p_put at H
  split at H
  · split at H
    · obtain ⟨rfl, h2, h3, h4, h5, h6⟩ := H
      exact ⟨_, _, _, _, rfl, ‹_›, h2, h3, h4, h5, h6⟩
    · exact H.elim
  · exact H.elim
theorem p_copy_i {h : PH} {st : List Value} {k : List Value → PH → Prop} (H : p_copy h st k) : ∃ n dp a1 sp a0 r n0 f n1 g, st = .int n :: .int dp :: .ref a1 :: .int sp :: .ref a0 :: r ∧ h[a0]? = some (.inl (0, n0, .inl f)) ∧ h[a1]? = some (.inl (0, n1, .inl g)) ∧ ¬ sp < 0 ∧ ¬ dp < 0 ∧ ¬ n < 0 ∧ sp.toNatClampNeg + n.toNatClampNeg ≤ n0 ∧ dp.toNatClampNeg + n.toNatClampNeg ≤ n1 ∧ k r (h.set a1 (.inl (0, n1, .inl (va_cpy f g sp.toNatClampNeg dp.toNatClampNeg n.toNatClampNeg)))) := by
  unfold p_copy at H
  split at H
  · split at H
    · obtain ⟨h1, h2, h3, h4, h5, h6⟩ := H
      exact ⟨_, _, _, _, _, _, _, _, _, _, rfl, ‹_›, ‹_›, h1, h2, h3, h4, h5, h6⟩
    · exact H.elim
  · exact H.elim
theorem p_new2_i {h : PH} {st : List Value} {k : List Value → PH → Nat → Nat → Prop} (H : p_new2 h st k) : ∃ m n r, st = .int m :: .int n :: r ∧ ¬ n < 0 ∧ ¬ m < 0 ∧ n.toNatClampNeg ≤ 1000 ∧ m.toNatClampNeg ≤ 1000 ∧
      k (.ref h.length :: r) ((h ++ [.inl (3, n.toNatClampNeg, .inr (.inr (.inr (.inr (fun i => if i < n.toNatClampNeg then some (h.length + 1 + i) else none)))))]) ++ List.replicate n.toNatClampNeg (.inl (0, m.toNatClampNeg, .inl (fun _ => 0)))) (1 + n.toNatClampNeg) (n.toNatClampNeg + n.toNatClampNeg * m.toNatClampNeg) := by
  unfold p_new2 at H
  split at H
  · exact ⟨_, _, _, rfl, H⟩
  · exact H.elim
theorem p_call_i {C : Nat → List Value → PH → (Rs → PH → Prop) → Prop} {M : PM} {hd : List (Nat × Nat × Nat × Int)} {Q : Rs → PH → Prop} {K : Kt} {pc μ : Nat} {virt : Bool} {lv : LV} {st : List Value} {h : PH} {c s : Nat} (H : p_call C M hd Q K pc μ virt lv st h c s) : ∃ N, MT[μ]? = some N ∧ pN N ≤ st.length ∧ ((st.drop (pN N)).map Value.category).sum ≤ 8 ∧ c + pC N ≤ pC M ∧ s + pS N ≤ pS M ∧
      (virt = true → ∃ a fs, (st.take (pN N)).getLast? = some (.ref a) ∧ h[a]? = some (.inr (pO N, fs))) ∧
      C μ (st.take (pN N)).reverse h (p_back M hd Q K pc lv (st.drop (pN N)) (c + pC N) (s + pS N)) := by
  unfold p_call at H
  split at H
  · exact H.elim
  · exact ⟨_, ‹_›, H⟩
theorem nf_of {ρ : List Nat} {b : Option Nat} {v w : Value} {ty : FieldType} (h : rv ρ b v w) (h1 : narrow ty v = v) (h2 : fits ty v = true) : narrow ty w = w ∧ fits ty w = true := by
  cases v with
  | ref i =>
    obtain ⟨a, -, rfl⟩ := h
    cases ty <;> simp_all [fits, narrow]
  | retAddr i => cases ty <;> simp [fits] at h2
  | _ => rw [show w = _ from h]; exact ⟨h1, h2⟩
theorem rv_dflt {ρ : List Nat} {b : Option Nat} (ty : FieldType) : rv ρ b (defaultValue ty) (defaultValue ty) := by cases ty <;> rfl
theorem A2_refl {ρ : List Nat} {b : Option Nat} : ∀ {l : List Value}, (∀ v ∈ l, rv ρ b v v) → A2 (rv ρ b) l l
  | [], _ => rfl
  | a :: as, h => ⟨a, as, rfl, h a List.mem_cons_self, A2_refl (fun v hv => h v (List.mem_cons_of_mem _ hv))⟩
theorem dflt_rv {ρ : List Nat} {b : Option Nat} (ci : Nat) : A2 (rv ρ b) (dflt ci) (dflt ci) := A2_refl fun v hv => by
  obtain ⟨j, -, rfl⟩ := List.mem_map.mp hv
  exact rv_dflt _
theorem dflt_V (ci : Nat) {j : Nat} (hj : j < fnum ci) : defaultValue (ftyX ci j) = vp_V (dflt ci) j := by
  unfold vp_V dflt
  simp [List.getD, hj]
/-! one instruction -/
section STP
variable {p : Program} {l : Launch} {e : Env} {R : Room} {s : State} {m : MethodId} {args : Array Value} {below : List Frame} {meth : Method} {c : Code} {D : va_G} {cy : Nat → ClassId} {A : Nat → Prop} {b : Option Nat} {S : Nat × (Nat → Int32)} {M : PM} {ws0 : va_W} {Z : State → Prop} {n : Nat}
/-- at a return -/
def retOK (i : Instr) (M : PM) (v : Option Value) : Prop := match i, v with
  | .ireturn, some (.int x) => ∃ t, pR M = some t ∧ narrow t (.int x) = .int x
  | .lreturn, some (.long _) => pR M = some .long
  | .areturn, some (.ref _) => ∃ t, pR M = some (.object t)
  | .return_, none => pR M = none
  | _, _ => False
def HRt (p : Program) (l : Launch) (e : Env) (R : Room) (s : State) (m : MethodId) (args : Array Value) (below : List Frame) (meth : Method) (c : Code) (D : va_G) (cy : Nat → ClassId) (A : Nat → Prop) (b : Option Nat) (M : PM) (ws0 : va_W) (Z : State → Prop) (Q : Rs → PH → Prop) : Prop :=
  ∀ (i : Instr) (pc : Nat) (ls : Array Slot) (v v' : Option Value) (h : PH) (ws : va_W) (H : Heap) (locs : List Loc) (cells slots : Nat), decode (pB M) pc = .ok (i, 1) → retOK i M v → Q (.inl v) h → rO (ws.map Prod.fst) b v v' → INV D cy A b s ws0 h ws H locs → cells ≤ pC M → slots ≤ pS M → W p l e R s m args below meth c H locs cells slots Z (F0 m pc ls v'.toList)
def HXt (p : Program) (l : Launch) (e : Env) (R : Room) (s : State) (m : MethodId) (args : Array Value) (below : List Frame) (meth : Method) (c : Code) (D : va_G) (cy : Nat → ClassId) (A : Nat → Prop) (b : Option Nat) (M : PM) (ws0 : va_W) (Z : State → Prop) (hd : List (Nat × Nat × Nat × Int)) (Q : Rs → PH → Prop) : Prop :=
  ∀ (E : String) (ce : Cell) (q9 : Addr) (x pc : Nat) (ls : Array Slot) (rest : List Value) (lv' : LV) (h : PH) (ws : va_W) (H : Heap) (locs : List Loc) (cells slots : Nat), xnm[x]? = some E → (∀ z, p_catch hd pc x = some z → Q (.inl (some (.int (Int32.ofInt z)))) h) → (p_catch hd pc x = none → Q (.inr x) h) → lv_has ls (pL M) lv' → INV D cy A b s ws0 h ws H locs → H[q9]? = some ce → ce.vm = .none → s.vm.findClass E = some ce.cls → cells ≤ pC M → slots ≤ pS M →
    vx_W p l e R s m args below meth c H locs cells slots Z (F0 m pc ls rest) q9
def HNt (p : Program) (l : Launch) (e : Env) (R : Room) (s : State) (m : MethodId) (args : Array Value) (below : List Frame) (meth : Method) (c : Code) (D : va_G) (cy : Nat → ClassId) (A : Nat → Prop) (b : Option Nat) (M : PM) (ws0 : va_W) (Z : State → Prop) (hd : List (Nat × Nat × Nat × Int)) (Q : Rs → PH → Prop) : Prop :=
  ∀ (i a pc : Nat) (x : Nat × Nat × Nat × Nat × Nat × Nat) (ls : Array Slot) (rest : List Value) (lv' : LV) (h : PH) (ws : va_W) (H : Heap) (locs : List Loc) (cells slots : Nat), decode (pB M) pc = .ok (.new i, 3) → xok (pO M) (pB M) pc i a = true → XLs[a]? = some x → hd = [] → Q (.inr x.2.2.1) h → (rest.map fun v => v.category).sum ≤ 8 → lv_has ls (pL M) lv' → INV D cy A b s ws0 h ws H locs → cells + 1 ≤ pC M → slots + 6 ≤ pS M → W p l e R s m args below meth c H locs cells slots Z (F0 m pc ls rest)
theorem jmp_i {pc : Nat} {off : Int} {f : Nat → Prop} (h : jmp pc off f) : ∃ t : Nat, (pc : Int) + off = (t : Int) ∧ f t := ⟨((pc : Int) + off).toNat, (Int.toNat_of_nonneg h.1).symm, h.2⟩
/-- a call of any kind -/
theorem call_i {C : Nat → List Value → PH → (Rs → PH → Prop) → Prop} {hd : List (Nat × Nat × Nat × Int)} {Q : Rs → PH → Prop} {K : Kt} (hc : CX p l R s m args meth c D cy A b S M n) (hC : ∀ (μ : Nat) (N : PM) (av : List Value) (h : PH) (Q' : Rs → PH → Prop), MT[μ]? = some N → ¬ pK N = 4 → C μ av h Q' → CT l D cy b S n μ N av h Q')
    (hX : HXt p l e R s m args below meth c D cy A b M ws0 Z hd Q) (ih : ∀ pc lv st h cl sl, K pc lv st h cl sl → GD p l e R s m args below meth c D cy A b M ws0 Z pc lv st h cl sl)
    {pc i μ kd : Nat} {virt : Bool} {ins : Instr} (hml : (pO M, i, μ, kd) ∈ MLs) (hkd : (ins = .invokevirtual i ∧ virt = true ∧ (kd = 0 ∨ kd = 1)) ∨ (ins = .invokestatic i ∧ virt = false ∧ (kd = 2 ∨ kd = 3 ∨ kd = 8)) ∨ (ins = .invokespecial i ∧ virt = true ∧ (kd = 4 ∨ kd = 5)))
    (hdg : decode (pB M) pc = .ok (ins, 3)) {lv : LV} {st : List Value} {h : PH} {cl sl : Nat} (H : p_call C M hd Q K pc μ virt lv st h cl sl) : GD p l e R s m args below meth c D cy A b M ws0 Z pc lv st h cl sl := by
  obtain ⟨N, hN, hlen, hcat, hcl2, hsl2, hvirt, hcall⟩ := p_call_i H
  obtain ⟨hx, hb, hmax, hown, hts, hXK, hA, hini, hRc, hRs, hRf, hRl, htr⟩ := id hc
  have hw := MT_w hN
  have hinfo := MT_info N (List.mem_of_getElem? hN)
  have hk := List.all_eq_true.mp MLk_ok _ hml
  have hMl := ML_ok _ hml
  intro ls lv' st' ws Hp locs hl hlv hst hI hcl hsl
  obtain ⟨hex, hrE, hP, hD, hS⟩ := id hI
  have hA1 : ∀ q, va_A ws Hp.size q → A q := fun q hq => by
    rcases hq with ⟨k, e', hk'⟩ | hq
    · exact hD.2 k _ hk'
    · exact hA q (Nat.le_trans hS.1 hq)
  have hk4 : ¬ pK N = 4 := by
    intro h4
    simp only [mkK] at hk
    rw [hN] at hk
    rcases hkd with ⟨-, -, rfl | rfl⟩ | ⟨-, -, rfl | rfl | rfl⟩ | ⟨-, -, rfl | rfl⟩ <;> simp [h4] at hk
  have hCT := hC μ N _ h _ hN hk4 hcall ((st'.take (pN N)).reverse) ws Hp.size (A2.rev (A2.take _ hst)) hrE
  have hPre : ∀ U : State, U.heap = Hp → s.WarmedH U.vm → va_Pc ((st'.take (pN N)).reverse) (PcP D cy b S ws Hp.size) ((st'.take (pN N)).reverse).toArray U := fun U hU hW =>
    ⟨rfl, by rw [hU], by rw [hU]; exact hP, hD.weaken (fun _ _ _ _ => trivial), by rw [hU]; exact hXK.go hW hS.1 hS.2.1 hA1⟩
  have hsum : 2 * (F0 m pc ls st').monitorRoom + ((st'.drop (pN N)).map fun v => v.category).sum ≤ 8 := by
    rw [A2.cats (A2.drop _ hst)]
    show 2 * 0 + _ ≤ 8
    omega
  have hfit : cl + pC N ≤ R.cells ∧ sl + pS N ≤ R.slots := ⟨Nat.le_trans hcl2 hRc, Nat.le_trans hsl2 hRs⟩
  have hgo : vx_Run p l e R s m args below meth c Hp locs cl sl (pC N) (pS N) (F0 m pc ls st') (st'.drop (pN N)) (QcP D cy b ws Hp.size (p_back M hd Q K pc lv (st.drop (pN N)) (cl + pC N) (sl + pS N)) ((st'.take (pN N)).reverse).toArray) (XcP D cy b ws Hp.size (p_back M hd Q K pc lv (st.drop (pN N)) (cl + pC N) (sl + pS N))) (va_A ws Hp.size) → W p l e R s m args below meth c Hp locs cl sl Z (F0 m pc ls st') := by
    intro hr
    refine px_run (A := A) hr hS hA1 ?_ ?_
    · intro E ce q9 x h' ws' H1 locs1 hxe hq hpo hS1 hce hcv hcf
      obtain ⟨g1, g2, g3, g4⟩ := hpo
      refine hX E ce q9 x pc ls _ lv' h' ws' H1 locs1 _ _ hxe (fun z hz => ?_) (fun hz => ?_) hl ⟨fun i a ha => g1 i a (hex i a ha), g2, g3, g4.weaken (fun _ _ _ hq => hA1 _ hq), hS1⟩ hce hcv hcf hcl2 hsl2
      · simpa [p_back, hz] using hq
      · simpa [p_back, hz] using hq
    · intro v v' h' ws' H1 locs1 hq hro hpo hS1
      obtain ⟨g1, g2, g3, g4⟩ := hpo
      have hq' : K (pc + 3) lv (v.toList ++ st.drop (pN N)) h' (cl + pC N) (sl + pS N) := hq
      exact ih _ _ _ _ _ _ hq' ls lv' _ ws' H1 locs1 hl (hlv.mono (fun q q' hqq => ⟨hqq.1, rv.mono g1 _ _ hqq.2⟩)) (A2.app (A2.mono (rv.mono g1) (A2.drop _ hst)) hro) ⟨fun i a ha => g1 i a (hex i a ha), g2, g3, g4.weaken (fun _ _ _ hq => hA1 _ hq), hS1⟩ hcl2 hsl2
  refine hgo ?_
  have hini2 : (Cond.initialized (pY N).cls).before args s = true := hts _ (TBL_of (IN_ok _ (List.mem_of_getElem? hw.1)))
  simp only [mInf, Bool.and_eq_true, decide_eq_true_eq] at hinfo
  obtain ⟨⟨⟨hdesc, hpl⟩, hL21⟩, hO15⟩ := hinfo
  have hroom : (rmN n N).frames + 1 ≤ R.frames ∧ 8 + (pL N + 11) + (rmN n N).locals ≤ R.locals := ⟨by show n + 8 + 1 ≤ _; omega, by show 8 + (pL N + 11) + (40 * n + 200) ≤ _; omega⟩
  have hne : (pY N).cls ≠ "java/lang/invoke/MethodHandle" ∧ (pY N).cls ≠ "java/lang/invoke/VarHandle" := by
    have h15 : ∀ C ∈ cnm, C ≠ "java/lang/invoke/MethodHandle" ∧ C ≠ "java/lang/invoke/VarHandle" := by decide +kernel
    exact h15 _ (List.mem_of_getElem? hw.1)
  have hlen' : (st'.take (pN N)).length = pN N := by rw [List.length_take, hst.len]; omega
  have hsplit : st' = st'.take (pN N) ++ st'.drop (pN N) := (List.take_append_drop _ _).symm
  have hgood : ∀ k, pK N = k → (k = 3 → False) → (codeOf N ∈ lw_tbl ∧ goodWord (codeOf N) = true) → GoodIn TBL (wsN μ N) ∧ wsN μ N = codeOf N :: TBL := by
    intro k hkk h3 hcw
    have hne3 : ¬ pK N = 3 := fun q => h3 (hkk ▸ q)
    have e : wsN μ N = codeOf N :: TBL := by unfold wsN; rw [if_neg hne3]
    refine ⟨?_, e⟩
    rw [e]
    intro w hw'
    rcases List.mem_cons.mp hw' with rfl | hw'
    · exact ⟨TBL_of hcw, good_of_word hcw.2⟩
    · exact ⟨hw', good_of_word (List.mem_filter.mp hw').2⟩
  have hpar : ∀ q : Nat, (if pK N = 0 ∨ pK N = 2 then 1 else 0) = q → (parseMethodDescriptor (pY N).desc).map (fun d => d.parameters.length) = some (pN N - q) := by
    intro q hq
    cases hpd : parseMethodDescriptor (pY N).desc with
    | none => rw [hpd] at hdesc; cases hdesc
    | some d =>
      rw [hpd] at hdesc
      have h9 := eq_of_beq hdesc
      rw [hq] at h9
      show some d.parameters.length = _
      rw [← h9, Nat.add_sub_cancel]
  obtain ⟨ar, hrev⟩ : ∃ ar, (st'.take (pN N)).reverse = ar := ⟨_, rfl⟩
  have htk : st'.take (pN N) = ar.reverse := by rw [← hrev, List.reverse_reverse]
  have hSfix : CallFix p m c (pB M) (pL M) s args TBL (cnm.getD (pO M) "") := ⟨hx, hb, hmax, hown, hts⟩
  rw [hrev] at hCT hPre ⊢
  have harl : ar.length = pN N := by rw [← hrev, List.length_reverse]; exact hlen'
  have hvrt : virt = true → ∃ (q0 : Nat) (fs' : List Value) (i0 a0 : Nat) (tl : List Value), ar = .ref a0 :: tl ∧ ws[i0]? = some (a0, .inr (pO N, fs')) := by
    intro hv
    obtain ⟨i0, fs, hla, hh⟩ := hvirt hv
    have hA2 := A2.rev (A2.take (pN N) hst)
    rw [hrev] at hA2
    have hhead : (st.take (pN N)).reverse = .ref i0 :: ((st.take (pN N)).reverse).tail := by
      have h1 : (st.take (pN N)).reverse.head? = some (.ref i0) := by rw [List.head?_reverse]; exact hla
      cases hz : (st.take (pN N)).reverse with
      | nil => rw [hz] at h1; cases h1
      | cons z zs => rw [hz] at h1; cases h1; rfl
    rw [hhead] at hA2
    obtain ⟨a0, tl, hρ, he, -⟩ := a_r hA2
    obtain ⟨y, hy, ⟨fs', rfl, -⟩⟩ := hI.at hρ hh
    exact ⟨0, fs', i0, a0, tl, he, hy⟩
  rcases hkd with ⟨rfl, rfl, hkd⟩ | ⟨rfl, rfl, hkd⟩ | ⟨rfl, rfl, hkd⟩
  · -- of an object
    obtain ⟨-, fs', i0, a0, tl, rfl, hwi⟩ := hvrt rfl
    have hK0 : pK N = 0 := by
      rcases hkd with rfl | rfl <;> (simp only [mkK] at hk; rw [hN] at hk; simpa using hk)
    obtain ⟨hwc, hw2⟩ := hw
    rw [hK0] at hw2
    obtain ⟨hcode, hinst, hsel⟩ := hw2
    obtain ⟨hG, heq⟩ := hgood 0 hK0 (by decide) hcode
    have hrecv : ∃ cellB : Cell, Hp[a0]? = some cellB ∧ cellB.vm.isStatics = false ∧ s.vm.findClass (pY N).cls = some cellB.cls := by
      obtain ⟨r, hr, h9⟩ := hP i0 _ hwi
      have hr' := owX_ok (ci := pO N) hr
      have hcc : r.1 = (pY N).cls := by
        rw [← hr'.1]
        have h8 := hwc
        simp only [List.getD, h8, Option.getD_some]
      have h7 := va_recv hXK.1 hP hr hwi
      rw [hcc] at h7
      exact h7
    have hnn : tl.length = pN N - 1 := by
      have := harl; simp at this; omega
    have hstk : st' = tl.reverse ++ .ref a0 :: st'.drop (pN N) := by
      conv => lhs; rw [hsplit, htk]
      simp
    rcases hkd with rfl | rfl
    · have hlink : (Cond.methodLink (cnm.getD (pO M) "") i (pY N)).before args s = true := by
        have e : mlW (pO M, i, μ, 0) = Cond.methodLink (cnm.getD (pO M) "") i (pY N) := by simp [mlW, yM, hN]
        rw [e] at hMl
        exact hts _ (TBL_of ⟨hMl.1, rfl⟩)
      refine vx_runV (C := (pY N).cls) (n := pN N - 1) (As := tl) (bytes := pB N) (maxL := pL N) (ret := pR N) hSfix hCT ⟨callB_of (pN N - 1) hts hG heq rfl rfl hini2 hlink ⟨hne.1, hne.2, hpar 1 (by simp [hK0])⟩ hroom, hts _ (TBL_of hinst), hts _ (TBL_of hsel)⟩ ⟨PcP.blind, hrecv, hPre⟩ rfl hnn hl.1 hstk hsum hdg hfit
    · have hlink : va_Nw (Cond.methodLinkNest (cnm.getD (pO M) "") i (pY N) "OverlapMill") s := by
        have e : mlW (pO M, i, μ, 1) = Cond.methodLinkNest (cnm.getD (pO M) "") i (pY N) "OverlapMill" := by simp [mlW, yM, hN]
        rw [e] at hMl
        exact hXK.2.1 _ hMl.1 rfl
      refine vx_runVN (C := (pY N).cls) (host := "OverlapMill") (n := pN N - 1) (As := tl) (bytes := pB N) (maxL := pL N) (ret := pR N) hSfix hCT ⟨va_cnB (pN N - 1) hts hG heq rfl rfl hlink hini2 ⟨hne.1, hne.2, hpar 1 (by simp [hK0])⟩ hroom, hts _ (TBL_of hinst), hts _ (TBL_of hsel)⟩ ⟨PcP.blind, hrecv, hPre⟩ rfl hnn hl.1 hstk hsum hdg hfit
  · -- static
    have hstk : st' = ar.reverse ++ st'.drop (pN N) := by
      conv => lhs; rw [hsplit, htk]
    rcases hkd with rfl | rfl | rfl
    · have hK0 : pK N = 1 := by simp only [mkK] at hk; rw [hN] at hk; simpa using hk
      obtain ⟨hwc, hw2⟩ := hw
      rw [hK0] at hw2
      obtain ⟨hcode, hstat⟩ := hw2
      obtain ⟨hG, heq⟩ := hgood 1 hK0 (by decide) hcode
      have hlink : (Cond.methodLink (cnm.getD (pO M) "") i (pY N)).before args s = true := by
        have e : mlW (pO M, i, μ, 2) = Cond.methodLink (cnm.getD (pO M) "") i (pY N) := by simp [mlW, yM, hN]
        rw [e] at hMl
        exact hts _ (TBL_of ⟨hMl.1, rfl⟩)
      exact vx_runS (n := pN N) (As := ar) (bytes := pB N) (maxL := pL N) (ret := pR N) hSfix hCT ⟨callB_of (pN N) hts hG heq rfl rfl hini2 hlink ⟨hne.1, hne.2, hpar 0 (by simp [hK0])⟩ hroom, hts _ (TBL_of hstat)⟩ ⟨PcP.blind, hPre⟩ rfl harl hl.1 hstk hsum hdg hfit
    · have hK0 : pK N = 1 := by simp only [mkK] at hk; rw [hN] at hk; simpa using hk
      obtain ⟨hwc, hw2⟩ := hw
      rw [hK0] at hw2
      obtain ⟨hcode, hstat⟩ := hw2
      obtain ⟨hG, heq⟩ := hgood 1 hK0 (by decide) hcode
      have hlink : va_Nw (Cond.methodLinkNest (cnm.getD (pO M) "") i (pY N) "OverlapMill") s := by
        have e : mlW (pO M, i, μ, 3) = Cond.methodLinkNest (cnm.getD (pO M) "") i (pY N) "OverlapMill" := by simp [mlW, yM, hN]
        rw [e] at hMl
        exact hXK.2.1 _ hMl.1 rfl
      exact vx_runSN (host := "OverlapMill") (n := pN N) (As := ar) (bytes := pB N) (maxL := pL N) (ret := pR N) hSfix hCT ⟨va_cnB (pN N) hts hG heq rfl rfl hlink hini2 ⟨hne.1, hne.2, hpar 0 (by simp [hK0])⟩ hroom, hts _ (TBL_of hstat), trivial⟩ ⟨PcP.blind, hPre⟩ rfl harl hl.1 hstk hsum hdg hfit
    · have hK0 : pK N = 3 := by simp only [mkK] at hk; rw [hN] at hk; simpa using hk
      obtain ⟨hwc, hw2⟩ := hw
      rw [hK0] at hw2
      obtain ⟨hcode, hstat⟩ := hw2
      have heq : wsN μ N = Cond.codeWith (pY N) (pB N) (pL N) (pR N) (hhOf μ) :: TBL := by unfold wsN; rw [if_pos hK0]
      have hlink : Cond.methodLink (cnm.getD (pO M) "") i (pY N) ∈ TBL := by
        have e : mlW (pO M, i, μ, 8) = Cond.methodLink (cnm.getD (pO M) "") i (pY N) := by simp [mlW, yM, hN]
        rw [e] at hMl
        exact TBL_of ⟨hMl.1, rfl⟩
      have hG : GoodIn TBL (va_wsS (cnm.getD (pO M) "") i (pY N) (wsN μ N)) := by
        intro w hw'
        have h8 : w ∈ TBL := by
          unfold va_wsS at hw'
          rw [heq] at hw'
          simp only [List.mem_append, List.mem_cons, List.not_mem_nil, or_false] at hw'
          rcases hw' with (rfl | rfl | rfl) | rfl | hw'
          · exact hlink
          · exact TBL_of hstat
          · exact TBL_of (IN_ok _ (List.mem_of_getElem? hwc))
          · exact TBL_of ⟨hcode, rfl⟩
          · exact hw'
        exact ⟨h8, good_of_word (List.mem_filter.mp h8).2⟩
      exact vx_runSX (hh := hhOf μ) (n := pN N) (As := ar) (bytes := pB N) (maxL := pL N) (ret := pR N) hSfix hCT (vx_cwSW (pN N) hts hG heq rfl rfl ⟨hne.1, hne.2, hpar 0 (by simp [hK0])⟩ hroom) ⟨PcP.blind, hPre⟩ rfl harl hl.1 hstk hsum hdg hfit
  · -- a constructor
    obtain ⟨-, fs', i0, a0, tl, rfl, hwi⟩ := hvrt rfl
    have hK0 : pK N = 2 := by
      rcases hkd with rfl | rfl <;> (simp only [mkK] at hk; rw [hN] at hk; simpa using hk)
    obtain ⟨hwc, hw2⟩ := hw
    rw [hK0] at hw2
    obtain ⟨hcode, hinst, hnm, hret⟩ := hw2
    obtain ⟨hG, heq⟩ := hgood 2 hK0 (by decide) hcode
    have hnn : tl.length = pN N - 1 := by
      have := harl; simp at this; omega
    have hstk : st' = tl.reverse ++ .ref a0 :: st'.drop (pN N) := by
      conv => lhs; rw [hsplit, htk]
      simp
    rcases hkd with rfl | rfl
    · have hlink : (Cond.methodLink (cnm.getD (pO M) "") i (pY N)).before args s = true := by
        have e : mlW (pO M, i, μ, 4) = Cond.methodLink (cnm.getD (pO M) "") i (pY N) := by simp [mlW, yM, hN]
        rw [e] at hMl
        exact hts _ (TBL_of ⟨hMl.1, rfl⟩)
      exact vx_runI (n := pN N - 1) (As := tl) (bytes := pB N) (maxL := pL N) hSfix hCT ⟨callB_of (pN N - 1) hts hG (by rw [heq, codeOf, hret]) rfl rfl hini2 hlink ⟨hne.1, hne.2, hpar 1 (by simp [hK0])⟩ hroom, hnm, hts _ (TBL_of hinst)⟩ ⟨PcP.blind, hPre⟩ rfl hnn hl.1 hstk hsum hdg hfit
    · have hlink : va_Nw (Cond.methodLinkNest (cnm.getD (pO M) "") i (pY N) "OverlapMill") s := by
        have e : mlW (pO M, i, μ, 5) = Cond.methodLinkNest (cnm.getD (pO M) "") i (pY N) "OverlapMill" := by simp [mlW, yM, hN]
        rw [e] at hMl
        exact hXK.2.1 _ hMl.1 rfl
      exact vx_runIN (host := "OverlapMill") (n := pN N - 1) (As := tl) (bytes := pB N) (maxL := pL N) hSfix hCT ⟨va_cnB (pN N - 1) hts hG (by rw [heq, codeOf, hret]) rfl rfl hlink hini2 ⟨hne.1, hne.2, hpar 1 (by simp [hK0])⟩ hroom, hnm, hts _ (TBL_of hinst)⟩ ⟨PcP.blind, hPre⟩ rfl hnn hl.1 hstk hsum hdg hfit
end STP
/-! every instruction -/
section INS
variable {p : Program} {l : Launch} {e : Env} {R : Room} {s : State} {m : MethodId} {args : Array Value} {below : List Frame} {meth : Method} {c : Code} {D : va_G} {cy : Nat → ClassId} {A : Nat → Prop} {b : Option Nat} {S : Nat × (Nat → Int32)} {M : PM} {ws0 : va_W} {Z : State → Prop} {n : Nat}
theorem teK_i {o : Nat} {cc : ByteArray} {ini : Bool} {te : TE} (h : teK o cc ini te = true) : decode cc te.1 = .ok (te.2.1, ilen te) ∧ lkOK o cc ini te = true := by
  simp only [teK, Bool.and_eq_true, dcd, decide_eq_true_eq] at h
  exact h
theorem arr_int {U : State} {cA : ClassId} (hK : va_K D vwCl (pTy cy ++ [(cA, .int)]) U) : cA = cy 0 := by
  have h1 : va_RA U cA .int := (hK.2 4 (cA, .int) rfl).2
  have h2 : va_RA U (cy 0) .int := (hK.2 0 (cy 0, .int) rfl).2
  exact Option.some.inj (Eq.trans (Eq.symm h1) h2)
theorem arr_long {U : State} {cA : ClassId} (hK : va_K D vwCl (pTy cy ++ [(cA, .long)]) U) : cA = cy 1 := by
  have h1 : va_RA U cA .long := (hK.2 4 (cA, .long) rfl).2
  have h2 : va_RA U (cy 1) .long := (hK.2 1 (cy 1, .long) rfl).2
  exact Option.some.inj (Eq.trans (Eq.symm h1) h2)
theorem arr_chart {U : State} {cA : ClassId} (hK : va_K D vwCl (pTy cy ++ [(cA, .object "OverlapMill$Chart")]) U) : cA = cy 2 := by
  obtain ⟨-, -, -, -, -, h1⟩ := (hK.2 4 (cA, .object "OverlapMill$Chart") rfl).2
  obtain ⟨-, -, -, -, -, h2⟩ := (hK.2 2 (cy 2, .object "OverlapMill$Chart") rfl).2
  exact Option.some.inj (Eq.trans (Eq.symm h1) h2)
theorem arr_rows {U : State} {cA : ClassId} (hK : va_K D vwCl (pTy cy ++ [(cA, .array .int)]) U) : cA = cy 3 := by
  have h1 : va_RA U cA (.array .int) := (hK.2 4 (cA, .array .int) rfl).2
  have h2 : va_RA U (cy 3) (.array .int) := (hK.2 3 (cy 3, .array .int) rfl).2
  exact Option.some.inj (Eq.trans (Eq.symm h1) h2)
abbrev w2 (ws : va_W) (cy : Nat → ClassId) (q N k : Nat) (r : Nat → Nat) (g : Nat → Int32) : va_W := (ws ++ [(q, .inl (cy 3, N, .inr (.inr (.inr (.inr (fun i => if i < N then some (r i) else none))))))]) ++ (List.range N).map (fun i => (r i, (.inl (cy 0, k, .inl g) : va_E)))
theorem INV.push2 {h : PH} {ws : va_W} {H H1 : Heap} {locs : List Loc} (hI : INV D cy A b s ws0 h ws H locs) {q N k : Nat} {r : Nat → Nat} {g : Nat → Int32}
    (h1 : va_P D vwCl (w2 ws cy q N k r g) H1) (h2 : va_D A (w2 ws cy q N k r g)) (h3 : va_S A s.heap H1 locs) :
    INV D cy A b s ws0 ((h ++ [.inl (3, N, .inr (.inr (.inr (.inr (fun i => if i < N then some (h.length + 1 + i) else none)))))]) ++ List.replicate N (.inl (0, k, .inl g))) (w2 ws cy q N k r g) H1 locs
    ∧ ext (ws.map Prod.fst) ((w2 ws cy q N k r g).map Prod.fst) ∧ ((w2 ws cy q N k r g).map Prod.fst)[h.length]? = some q := by
  have hl : ws.length = h.length := by have h9 := hI.2.1.len; rwa [List.length_map] at h9
  have hfst : (w2 ws cy q N k r g).map Prod.fst = ws.map Prod.fst ++ (q :: (List.range N).map r) := by
    rw [List.map_append, List.map_append, List.map_map, List.append_assoc]
    rfl
  have hx : ext (ws.map Prod.fst) (ws.map Prod.fst ++ (q :: (List.range N).map r)) := ext_app _ _
  rw [INV, hfst]
  refine ⟨⟨fun i a ha => hx i a (hI.1 i a ha), ?_, h1, h2, h3⟩, hx, ?_⟩
  · rw [List.map_append (f := Prod.snd), List.map_append (f := Prod.snd), List.map_map]
    refine A2.app ?_ (A2.app (A2.one ⟨_, rfl, fun j => ?_⟩) (hI.2.1.mono (rE.mono hx)))
    · have e : (List.range N).map (Prod.snd ∘ fun i => (r i, (.inl (cy 0, k, .inl g) : va_E))) = List.replicate N (.inl (cy 0, k, .inl g) : va_E) := by
        apply List.ext_getElem?
        intro i
        by_cases hi : i < N <;> simp [hi]
      rw [e]
      exact A2.rep (show rE cy _ b (.inl (0, k, .inl g)) (.inl (cy 0, k, .inl g)) from rfl) N
    · by_cases hj : j < N
      · simp only [if_pos hj]
        refine ⟨r j, ?_, rfl⟩
        rw [List.getElem?_append_right (by simp; omega)]
        simp only [List.length_map, hl]
        rw [show h.length + 1 + j - h.length = j + 1 by omega]
        simp [hj]
      · simp only [if_neg hj]
  · rw [List.getElem?_append_right (by simp [hl])]
    simp [hl]
set_option maxHeartbeats 4000000 in
set_option maxRecDepth 10000 in
theorem stepI {C : Nat → List Value → PH → (Rs → PH → Prop) → Prop} {hd : List (Nat × Nat × Nat × Int)} {Q : Rs → PH → Prop} {K : Kt} (hc : CX p l R s m args meth c D cy A b S M n) (hC : ∀ (μ : Nat) (N : PM) (av : List Value) (h : PH) (Q' : Rs → PH → Prop), MT[μ]? = some N → ¬ pK N = 4 → C μ av h Q' → CT l D cy b S n μ N av h Q')
    (hR : HRt p l e R s m args below meth c D cy A b M ws0 Z Q) (hX : HXt p l e R s m args below meth c D cy A b M ws0 Z hd Q) (hNw : HNt p l e R s m args below meth c D cy A b M ws0 Z hd Q) (ih : ∀ pc lv st h cl sl, K pc lv st h cl sl → GD p l e R s m args below meth c D cy A b M ws0 Z pc lv st h cl sl)
    {te : TE} (hte : teK (pO M) (pB M) (pK M == 2) te = true) {lv : LV} {st : List Value} {h : PH} {cl sl : Nat} (H : pmI C S M hd Q K te lv st h cl sl) : GD p l e R s m args below meth c D cy A b M ws0 Z te.1 lv st h cl sl := by
  obtain ⟨hdg, hlk⟩ := teK_i hte
  obtain ⟨hx, hb, hmax, hown, hts, hXK, hA, hini, hRc, hRs, hRf, hRl, htr⟩ := id hc
  obtain ⟨pc, ins, ta, tb⟩ := te
  have hcall : ∀ {i μ kd : Nat} {virt : Bool} {ins : Instr}, (pO M, i, μ, kd) ∈ MLs → ((ins = .invokevirtual i ∧ virt = true ∧ (kd = 0 ∨ kd = 1)) ∨ (ins = .invokestatic i ∧ virt = false ∧ (kd = 2 ∨ kd = 3 ∨ kd = 8)) ∨ (ins = .invokespecial i ∧ virt = true ∧ (kd = 4 ∨ kd = 5))) → decode (pB M) pc = .ok (ins, 3) → p_call C M hd Q K pc μ virt lv st h cl sl → GD p l e R s m args below meth c D cy A b M ws0 Z pc lv st h cl sl := fun h1 h2 h3 h4 => call_i hc hC hX ih h1 h2 h3 h4
  intro ls lv' st' ws Hp locs hl hlv hst hI hcl hsl
  obtain ⟨hex, hrE, hP, hD, hS⟩ := id hI
  have go : ∀ {pc2 : Nat} {lv2 : LV} {st2 : List Value} {lv2' : LV} {ls2 : Array Slot} {st2' : List Value}, K pc2 lv2 st2 h cl sl → lv_has ls2 (pL M) lv2' → A2 (rL (ws.map Prod.fst) b) lv2 lv2' → A2 (rv (ws.map Prod.fst) b) st2 st2' → W p l e R s m args below meth c Hp locs cl sl Z (F0 m pc2 ls2 st2') := fun h1 h2 h3 h4 => ih _ _ _ _ _ _ h1 _ _ _ ws Hp locs h2 h3 h4 hI hcl hsl
  cases ins
  case iconst z =>
    have H : K (pc + 1) lv (.int (Int32.ofInt z) :: st) h cl sl := H
    exact lv_iconst hx hb hdg rfl (go H hl hlv (a_i _ hst))
  case bipush z =>
    have H : K (pc + 2) lv (.int (Int8.ofInt z).toInt32 :: st) h cl sl := H
    exact lv_bipush hx hb hdg rfl (go H hl hlv (a_i _ hst))
  case sipush z =>
    have H : K (pc + 3) lv (.int (Int16.ofInt z).toInt32 :: st) h cl sl := H
    exact lv_sipush hx hb hdg rfl (go H hl hlv (a_i _ hst))
  case lconst z =>
    have H : K (pc + 1) lv (.long (Int64.ofNat z) :: st) h cl sl := H
    exact lv_lconst hx hb hdg rfl (go H hl hlv (a_L _ hst))
  case ldc i =>
    obtain ⟨q, hq, h0, H⟩ : ∃ q, KLs[ta]? = some q ∧ tb = 0 ∧ K (pc + 2) lv (.int q.2.2 :: st) h cl sl := H
    subst h0
    simp only [lkOK, hq] at hlk
    have hlk2 : q.1 = pO M ∧ q.2.1 = i := by simpa using hlk
    have hw := kl_in hq
    rw [hlk2.1, hlk2.2] at hw
    exact lv_ldc hx hb hown (hts _ hw) hdg (go H hl hlv (a_i _ hst))
  case ldc_w i =>
    obtain ⟨q, hq, h0, H⟩ : ∃ q, KLs[ta]? = some q ∧ tb = 0 ∧ K (pc + 3) lv (.int q.2.2 :: st) h cl sl := H
    subst h0
    simp only [lkOK, hq] at hlk
    have hlk2 : q.1 = pO M ∧ q.2.1 = i := by simpa using hlk
    have hw := kl_in hq
    rw [hlk2.1, hlk2.2] at hw
    exact lv_ldcw hx hb hown (hts _ hw) hdg (go H hl hlv (a_i _ hst))
  case iload i =>
    obtain ⟨x, h1, H⟩ : ∃ x, px_g lv i = some (.int x) ∧ K (pc + 2) lv (.int x :: st) h cl sl := H
    obtain ⟨k, w, h2, h3⟩ := rl_g hlv h1
    cases (show w = .int x from h3)
    exact lv_iload hx hb hdg (lv_at hl k h2) (go H hl hlv (a_i _ hst))
  case iload_n i =>
    obtain ⟨x, h1, H⟩ : ∃ x, px_g lv i = some (.int x) ∧ K (pc + 1) lv (.int x :: st) h cl sl := H
    obtain ⟨k, w, h2, h3⟩ := rl_g hlv h1
    cases (show w = .int x from h3)
    exact lv_iload_n hx hb hdg rfl (lv_at hl k h2) (go H hl hlv (a_i _ hst))
  case lload i =>
    obtain ⟨x, h1, H⟩ : ∃ x, px_g lv i = some (.long x) ∧ K (pc + 2) lv (.long x :: st) h cl sl := H
    obtain ⟨k, w, h2, h3⟩ := rl_g hlv h1
    cases (show w = .long x from h3)
    exact lv_lload hx hb hdg (lv_at hl k h2) (go H hl hlv (a_L _ hst))
  case aload i =>
    obtain ⟨v, h1, hv, H⟩ : ∃ v, px_g lv i = some v ∧ (∃ a, v = .ref a ∨ v = .retAddr a) ∧ K (pc + 2) lv (v :: st) h cl sl := H
    obtain ⟨k, w, h2, h3⟩ := rl_g hlv h1
    obtain ⟨a, rfl⟩ : ∃ a, w = .ref a := by
      obtain ⟨a0, rfl | rfl⟩ := hv
      · obtain ⟨a, -, e⟩ := h3; exact ⟨a, e⟩
      · obtain ⟨a, -, e⟩ := h3; exact ⟨a, e⟩
    exact lv_aload hx hb hdg (lv_at hl k h2) (go H hl hlv ⟨_, _, rfl, h3, hst⟩)
  case aload_n i =>
    obtain ⟨v, h1, hv, H⟩ : ∃ v, px_g lv i = some v ∧ (∃ a, v = .ref a ∨ v = .retAddr a) ∧ K (pc + 1) lv (v :: st) h cl sl := H
    obtain ⟨k, w, h2, h3⟩ := rl_g hlv h1
    obtain ⟨a, rfl⟩ : ∃ a, w = .ref a := by
      obtain ⟨a0, rfl | rfl⟩ := hv
      · obtain ⟨a, -, e⟩ := h3; exact ⟨a, e⟩
      · obtain ⟨a, -, e⟩ := h3; exact ⟨a, e⟩
    exact lv_aload_n hx hb hdg rfl (lv_at hl k h2) (go H hl hlv ⟨_, _, rfl, h3, hst⟩)
  case istore i =>
    obtain ⟨hi, H⟩ : i < pL M ∧ on1 st fun x r => K (pc + 2) (px_s1 lv i (.int x)) r h cl sl := H
    obtain ⟨x, r, rfl, H⟩ := on1_i H
    obtain ⟨r', rfl, hr⟩ := a_1 hst
    exact lv_istore hx hb hdg hl hi rfl (fun ls2 hl2 => go H hl2 (rl_s1 hlv i rfl) hr)
  case istore_n i =>
    obtain ⟨hi, H⟩ : (i : Nat) < pL M ∧ on1 st fun x r => K (pc + 1) (px_s1 lv i (.int x)) r h cl sl := H
    obtain ⟨x, r, rfl, H⟩ := on1_i H
    obtain ⟨r', rfl, hr⟩ := a_1 hst
    exact lv_istore_n hx hb hdg rfl hl hi rfl (fun ls2 hl2 => go H hl2 (rl_s1 hlv i rfl) hr)
  case lstore i =>
    obtain ⟨hi, x, r, rfl, H⟩ : i + 1 < pL M ∧ ∃ x r, st = .long x :: r ∧ K (pc + 2) (px_s2 lv i (.long x)) r h cl sl := H
    obtain ⟨r', rfl, hr⟩ := a_l hst
    exact lv_lstore hx hb hdg hl hi rfl (fun ls2 hl2 => go H hl2 (rl_s2 hlv i rfl) hr)
  case astore i =>
    obtain ⟨hi, H⟩ : i < pL M ∧ onR st fun x r => K (pc + 2) (px_s1 lv i (.ref x)) r h cl sl := H
    obtain ⟨x, r, rfl, H⟩ := onR_i H
    obtain ⟨a, r', hρ, rfl, hr⟩ := a_r hst
    exact lv_astore hx hb hdg hl hi rfl (fun ls2 hl2 => go H hl2 (rl_s1 hlv i ⟨a, hρ, rfl⟩) hr)
  case astore_n i =>
    obtain ⟨hi, H⟩ : (i : Nat) < pL M ∧ onR st fun x r => K (pc + 1) (px_s1 lv i (.ref x)) r h cl sl := H
    obtain ⟨x, r, rfl, H⟩ := onR_i H
    obtain ⟨a, r', hρ, rfl, hr⟩ := a_r hst
    exact lv_astore_n hx hb hdg rfl hl hi rfl (fun ls2 hl2 => go H hl2 (rl_s1 hlv i ⟨a, hρ, rfl⟩) hr)
  case iinc i z =>
    obtain ⟨hi, x, h1, H⟩ : i < pL M ∧ ∃ x, px_g lv i = some (.int x) ∧ K (pc + 3) (px_s1 lv i (.int (x + Int32.ofInt z))) st h cl sl := H
    obtain ⟨k, w, h2, h3⟩ := rl_g hlv h1
    cases (show w = .int x from h3)
    exact lv_iinc hx hb hdg hl h2 rfl hi rfl (fun ls2 hl2 => go H hl2 (rl_s1 hlv i rfl) hst)
  case iadd =>
    obtain ⟨x, y, r, rfl, H⟩ := on2_i (show on2 st fun x y r => K (pc + 1) lv (.int (x + y) :: r) h cl sl from H)
    obtain ⟨r', rfl, hr⟩ := a_2 hst
    exact lv_iadd hx hb hdg (go H hl hlv (a_i _ hr))
  case isub =>
    obtain ⟨x, y, r, rfl, H⟩ := on2_i (show on2 st fun x y r => K (pc + 1) lv (.int (x - y) :: r) h cl sl from H)
    obtain ⟨r', rfl, hr⟩ := a_2 hst
    exact lv_isub hx hb hdg (go H hl hlv (a_i _ hr))
  case imul =>
    obtain ⟨x, y, r, rfl, H⟩ := on2_i (show on2 st fun x y r => K (pc + 1) lv (.int (x * y) :: r) h cl sl from H)
    obtain ⟨r', rfl, hr⟩ := a_2 hst
    exact lv_imul hx hb hdg (go H hl hlv (a_i _ hr))
  case idiv =>
    obtain ⟨x, y, r, rfl, hne, H⟩ := on2_i (show on2 st fun x y r => ¬ y = 0 ∧ K (pc + 1) lv (.int (x / y) :: r) h cl sl from H)
    obtain ⟨r', rfl, hr⟩ := a_2 hst
    exact lv_idiv hx hb hdg hne (go H hl hlv (a_i _ hr))
  case irem =>
    obtain ⟨x, y, r, rfl, hne, H⟩ := on2_i (show on2 st fun x y r => ¬ y = 0 ∧ K (pc + 1) lv (.int (x - x / y * y) :: r) h cl sl from H)
    obtain ⟨r', rfl, hr⟩ := a_2 hst
    exact lv_irem hx hb hdg hne (go H hl hlv (a_i _ hr))
  case ineg =>
    obtain ⟨x, r, rfl, H⟩ := on1_i (show on1 st fun x r => K (pc + 1) lv (.int (-x) :: r) h cl sl from H)
    obtain ⟨r', rfl, hr⟩ := a_1 hst
    exact lv_ineg hx hb hdg (go H hl hlv (a_i _ hr))
  case ishl =>
    obtain ⟨x, y, r, rfl, H⟩ := on2_i (show on2 st fun x y r => K (pc + 1) lv (.int (x <<< (y &&& 31)) :: r) h cl sl from H)
    obtain ⟨r', rfl, hr⟩ := a_2 hst
    exact lv_ishl hx hb hdg (go H hl hlv (a_i _ hr))
  case ishr =>
    obtain ⟨x, y, r, rfl, H⟩ := on2_i (show on2 st fun x y r => K (pc + 1) lv (.int (x >>> (y &&& 31)) :: r) h cl sl from H)
    obtain ⟨r', rfl, hr⟩ := a_2 hst
    exact lv_ishr hx hb hdg (go H hl hlv (a_i _ hr))
  case iushr =>
    obtain ⟨x, y, r, rfl, H⟩ := on2_i (show on2 st fun x y r => K (pc + 1) lv (.int (x.toUInt32 >>> (y.toUInt32 &&& Int32.toUInt32 31)).toInt32 :: r) h cl sl from H)
    obtain ⟨r', rfl, hr⟩ := a_2 hst
    exact lv_iushr hx hb hdg rfl (go H hl hlv (a_i _ hr))
  case iand =>
    obtain ⟨x, y, r, rfl, H⟩ := on2_i (show on2 st fun x y r => K (pc + 1) lv (.int (x &&& y) :: r) h cl sl from H)
    obtain ⟨r', rfl, hr⟩ := a_2 hst
    exact lv_iand hx hb hdg (go H hl hlv (a_i _ hr))
  case ior =>
    obtain ⟨x, y, r, rfl, H⟩ := on2_i (show on2 st fun x y r => K (pc + 1) lv (.int (x ||| y) :: r) h cl sl from H)
    obtain ⟨r', rfl, hr⟩ := a_2 hst
    exact lv_ior hx hb hdg (go H hl hlv (a_i _ hr))
  case ixor =>
    obtain ⟨x, y, r, rfl, H⟩ := on2_i (show on2 st fun x y r => K (pc + 1) lv (.int (x ^^^ y) :: r) h cl sl from H)
    obtain ⟨r', rfl, hr⟩ := a_2 hst
    exact lv_ixor hx hb hdg (go H hl hlv (a_i _ hr))
  case i2l =>
    obtain ⟨x, r, rfl, H⟩ := on1_i (show on1 st fun x r => K (pc + 1) lv (.long x.toInt64 :: r) h cl sl from H)
    obtain ⟨r', rfl, hr⟩ := a_1 hst
    exact lv_i2l hx hb hdg rfl (go H hl hlv (a_L _ hr))
  case lcmp =>
    obtain ⟨x, y, r, rfl, H⟩ := onL2_i (show onL2 st fun x y r => K (pc + 1) lv (.int (lg_cmp x y) :: r) h cl sl from H)
    obtain ⟨r1, rfl, h1⟩ := a_l hst
    obtain ⟨r', rfl, hr⟩ := a_l h1
    exact W.lcmp hx hb hdg (go H hl hlv (a_i _ hr))
  case lshl =>
    obtain ⟨x, y, r, rfl, H⟩ := onLI_i (show onLI st fun x y r => K (pc + 1) lv (.long (x <<< (y.toInt64 &&& 63)) :: r) h cl sl from H)
    obtain ⟨r1, rfl, h1⟩ := a_1 hst
    obtain ⟨r', rfl, hr⟩ := a_l h1
    exact lv_lshl hx hb hdg rfl (go H hl hlv (a_L _ hr))
  case lor =>
    obtain ⟨x, y, r, rfl, H⟩ := onL2_i (show onL2 st fun x y r => K (pc + 1) lv (.long (x ||| y) :: r) h cl sl from H)
    obtain ⟨r1, rfl, h1⟩ := a_l hst
    obtain ⟨r', rfl, hr⟩ := a_l h1
    exact lv_lor hx hb hdg (go H hl hlv (a_L _ hr))
  case land =>
    obtain ⟨x, y, r, rfl, H⟩ := onL2_i (show onL2 st fun x y r => K (pc + 1) lv (.long (x &&& y) :: r) h cl sl from H)
    obtain ⟨r1, rfl, h1⟩ := a_l hst
    obtain ⟨r', rfl, hr⟩ := a_l h1
    exact lv_land hx hb hdg (go H hl hlv (a_L _ hr))
  case dup =>
    obtain ⟨v, r, rfl, hv, H⟩ : ∃ v r, st = v :: r ∧ v.category = 1 ∧ K (pc + 1) lv (v :: v :: r) h cl sl := H
    obtain ⟨w, r', rfl, hw, hr⟩ := a_c hst
    exact lv_dup hx hb hdg (hw.cat.trans hv) (go H hl hlv ⟨_, _, rfl, hw, _, _, rfl, hw, hr⟩)
  case dup2 =>
    obtain ⟨v, v2, r, rfl, hv, hv2, H⟩ : ∃ v w r, st = v :: w :: r ∧ v.category = 1 ∧ w.category = 1 ∧ K (pc + 1) lv (v :: w :: v :: w :: r) h cl sl := H
    obtain ⟨w, r1, rfl, hw, hr1⟩ := a_c hst
    obtain ⟨w2, r', rfl, hw2, hr⟩ := a_c hr1
    exact lv_dup2_11 hx hb hdg (hw.cat.trans hv) (hw2.cat.trans hv2) (go H hl hlv ⟨_, _, rfl, hw, _, _, rfl, hw2, _, _, rfl, hw, _, _, rfl, hw2, hr⟩)
  case pop =>
    obtain ⟨v, r, rfl, hv, H⟩ : ∃ v r, st = v :: r ∧ v.category = 1 ∧ K (pc + 1) lv r h cl sl := H
    obtain ⟨w, r', rfl, hw, hr⟩ := a_c hst
    exact lv_pop hx hb hdg (hw.cat.trans hv) (go H hl hlv hr)
  case goto z =>
    obtain ⟨t, ht, H⟩ := jmp_i (show jmp pc z fun t => K t lv st h cl sl from H)
    exact lv_goto hx hb hdg ht (go H hl hlv hst)
  case ifCond cc z =>
    obtain ⟨x, r, rfl, HH⟩ := on1_i (show on1 st fun x r => jmp pc z fun t => brn (ccI cc x 0) (K t lv r h cl sl) (K (pc + 3) lv r h cl sl) from H)
    obtain ⟨r', rfl, hr⟩ := a_1 hst
    obtain ⟨t, ht, H1, H2⟩ := jmp_i HH
    cases cc
    · exact lv_if_eq hx hb hdg ht (fun q => go (H1 q) hl hlv hr) (fun q => go (H2 q) hl hlv hr)
    · exact lv_if_ne hx hb hdg ht (fun q => go (H1 q) hl hlv hr) (fun q => go (H2 (fun q2 => q2 q)) hl hlv hr)
    · exact lv_if_lt hx hb hdg ht (fun q => go (H1 q) hl hlv hr) (fun q => go (H2 q) hl hlv hr)
    · exact lv_if_ge hx hb hdg ht (fun q => go (H1 q) hl hlv hr) (fun q => go (H2 q) hl hlv hr)
    · exact lv_if_gt hx hb hdg ht (fun q => go (H1 q) hl hlv hr) (fun q => go (H2 q) hl hlv hr)
    · exact lv_if_le hx hb hdg ht (fun q => go (H1 q) hl hlv hr) (fun q => go (H2 q) hl hlv hr)
  case if_icmp cc z =>
    obtain ⟨x, y, r, rfl, HH⟩ := on2_i (show on2 st fun x y r => jmp pc z fun t => brn (ccI cc x y) (K t lv r h cl sl) (K (pc + 3) lv r h cl sl) from H)
    obtain ⟨r', rfl, hr⟩ := a_2 hst
    obtain ⟨t, ht, H1, H2⟩ := jmp_i HH
    cases cc
    · exact lv_icmp_eq hx hb hdg ht (fun q => go (H1 q) hl hlv hr) (fun q => go (H2 q) hl hlv hr)
    · exact lv_icmp_ne hx hb hdg ht (fun q => go (H1 q) hl hlv hr) (fun q => go (H2 (fun q2 => q2 q)) hl hlv hr)
    · exact lv_icmp_lt hx hb hdg ht (fun q => go (H1 q) hl hlv hr) (fun q => go (H2 q) hl hlv hr)
    · exact lv_icmp_ge hx hb hdg ht (fun q => go (H1 q) hl hlv hr) (fun q => go (H2 q) hl hlv hr)
    · exact lv_icmp_gt hx hb hdg ht (fun q => go (H1 q) hl hlv hr) (fun q => go (H2 q) hl hlv hr)
    · exact lv_icmp_le hx hb hdg ht (fun q => go (H1 q) hl hlv hr) (fun q => go (H2 q) hl hlv hr)
  case tableswitch d lo hi offs =>
    obtain ⟨x, r, rfl, H1, H2⟩ := on1_i (show on1 st fun x r => (x.toInt < lo ∨ hi < x.toInt → jmp pc d fun t => K t lv r h cl sl) ∧ (¬ x.toInt < lo → ¬ hi < x.toInt → ∃ off, offs[(x.toInt - lo).toNat]? = some off ∧ jmp pc off fun t => K t lv r h cl sl) from H)
    obtain ⟨r', rfl, hr⟩ := a_1 hst
    by_cases q1 : x.toInt < lo
    · obtain ⟨t, ht, H⟩ := jmp_i (H1 (Or.inl q1))
      exact lv_tableOut hx hb hdg (Or.inl q1) ht (go H hl hlv hr)
    · by_cases q2 : hi < x.toInt
      · obtain ⟨t, ht, H⟩ := jmp_i (H1 (Or.inr q2))
        exact lv_tableOut hx hb hdg (Or.inr q2) ht (go H hl hlv hr)
      · obtain ⟨off, ho, H⟩ := H2 q1 q2
        obtain ⟨t, ht, H⟩ := jmp_i H
        exact lv_tableIn hx hb hdg q1 q2 ho ht (go H hl hlv hr)
  case iaload =>
    rcases p_iald_i (show p_iald S h st fun st => K (pc + 1) lv st h cl sl from H) with ⟨i, q, r, n0, g, rfl, hq, hin, H⟩ | ⟨i, q, r, rfl, hin, H⟩
    · obtain ⟨r1, rfl, h1⟩ := a_1 hst
      obtain ⟨a, r', hρ, rfl, hr⟩ := a_r h1
      obtain ⟨y, hy, hye⟩ := hI.at hρ hq
      rw [show y = .inl (cy 0, n0, .inl g) from hye] at hy
      exact va_iald hx hb hXK.1 hP q 0 hy rfl hin hdg (go H hl hlv (a_i _ hr))
    · obtain ⟨r1, rfl, h1⟩ := a_1 hst
      obtain ⟨w, r', rfl, ⟨a, ha, rfl⟩, hr⟩ := a_c h1
      obtain ⟨g1, g2, g3⟩ := hXK.2.2.2.2.2.2.1 a ha
      exact va_sld hx hb g1 g2 g3 hS hin hdg (go H hl hlv (a_i _ hr))
  case iastore =>
    obtain ⟨x, i, q, r, n0, g, rfl, hq, hin, H⟩ := p_iast_i (show p_iast h st fun st h => K (pc + 1) lv st h cl sl from H)
    obtain ⟨r1, rfl, h1⟩ := a_2 hst
    obtain ⟨a, r', hρ, rfl, hr⟩ := a_r h1
    obtain ⟨y, hy, hye⟩ := hI.at hρ hq
    rw [show y = .inl (cy 0, n0, .inl g) from hye] at hy
    refine va_iast hx hb hXK.1 hP hD hS q 0 hy rfl hin hdg (fun H1 locs1 g1 g2 g3 => ?_)
    have hI2 := hI.set hy (x' := .inl (0, n0, .inl (upd g i.toNatClampNeg x))) (show rE cy _ b (.inl (0, n0, .inl (upd g i.toNatClampNeg x))) _ from rfl) g1 g2 g3
    have hf := fst_set (y' := .inl (cy 0, n0, .inl (upd g i.toNatClampNeg x))) hy
    exact ih _ _ _ _ _ _ H ls lv' r' _ H1 locs1 hl (by rw [hf]; exact hlv) (by rw [hf]; exact hr) hI2 hcl hsl
  case laload =>
    obtain ⟨i, q, r, n0, g, rfl, hq, hin, H⟩ := p_lald_i (show p_lald h st fun st => K (pc + 1) lv st h cl sl from H)
    obtain ⟨r1, rfl, h1⟩ := a_1 hst
    obtain ⟨a, r', hρ, rfl, hr⟩ := a_r h1
    obtain ⟨y, hy, hye⟩ := hI.at hρ hq
    rw [show y = .inl (cy 1, n0, .inr (.inl g)) from hye] at hy
    exact va_lald hx hb hXK.1 hP q 1 hy rfl hin hdg (go H hl hlv (a_L _ hr))
  case lastore =>
    obtain ⟨x, i, q, r, n0, g, rfl, hq, hin, H⟩ := p_last_i (show p_last h st fun st h => K (pc + 1) lv st h cl sl from H)
    obtain ⟨r0, rfl, h0⟩ := a_l hst
    obtain ⟨r1, rfl, h1⟩ := a_1 h0
    obtain ⟨a, r', hρ, rfl, hr⟩ := a_r h1
    obtain ⟨y, hy, hye⟩ := hI.at hρ hq
    rw [show y = .inl (cy 1, n0, .inr (.inl g)) from hye] at hy
    refine va_last hx hb hXK.1 hP hD hS q 1 hy rfl hin hdg (fun H1 locs1 g1 g2 g3 => ?_)
    have hI2 := hI.set hy (x' := .inl (1, n0, .inr (.inl (vp_updL g i.toNatClampNeg x)))) (show rE cy _ b (.inl (1, n0, .inr (.inl (vp_updL g i.toNatClampNeg x)))) _ from rfl) g1 g2 g3
    have hf := fst_set (y' := .inl (cy 1, n0, .inr (.inl (vp_updL g i.toNatClampNeg x)))) hy
    exact ih _ _ _ _ _ _ H ls lv' r' _ H1 locs1 hl (by rw [hf]; exact hlv) (by rw [hf]; exact hr) hI2 hcl hsl
  case aaload =>
    obtain ⟨i, q, r, t, n0, g, q2, rfl, hq, ht, hin, hg, H⟩ := p_aald_i (show p_aald h st fun st => K (pc + 1) lv st h cl sl from H)
    obtain ⟨r1, rfl, h1⟩ := a_1 hst
    obtain ⟨a, r', hρ, rfl, hr⟩ := a_r h1
    obtain ⟨y, hy, f', rfl, hf'⟩ := hI.at hρ hq
    have hj := hf' i.toNatClampNeg
    rw [hg] at hj
    obtain ⟨a2, h2, h3⟩ := hj
    have hk : W p l e R s m args below meth c Hp locs cl sl Z (F0 m (pc + 1) ls (va_rf (f' i.toNatClampNeg) :: r')) := by
      rw [h3]
      exact go H hl hlv ⟨_, _, rfl, ⟨a2, h2, rfl⟩, hr⟩
    rcases ht with rfl | rfl
    · exact va_aldq (C := "OverlapMill$Chart") hx hb hXK.1 hP q 2 hy rfl hin hdg hk
    · have hlt : i.toNatClampNeg < n0 := Nat.not_le.mp fun q => hin (Or.inr q)
      exact W.aald (v := va_rf (f' i.toNatClampNeg)) (ty := .array .int) hx hb (hP q _ hy) ((hXK.1.2 3 _ rfl).1 n0 (fun j => va_rf (f' j))) rfl (fun q => by cases q) (by show ¬ (i < 0 ∨ (arrV _ _ _).slots.size ≤ _); rw [arrV_size]; exact hin) (by show (arrV _ _ _).slots[_]? = _; rw [arrV_read _ _ hlt]) rfl rfl hdg hk
  case aastore =>
    obtain ⟨v, i, q, r, n0, g, fs, rfl, hq, hv, hin, H⟩ := p_aast_i (show p_aast h st fun st h => K (pc + 1) lv st h cl sl from H)
    obtain ⟨av, r0, hρv, rfl, h0⟩ := a_r hst
    obtain ⟨r1, rfl, h1⟩ := a_1 h0
    obtain ⟨a, r', hρ, rfl, hr⟩ := a_r h1
    obtain ⟨y, hy, f', rfl, hf'⟩ := hI.at hρ hq
    obtain ⟨yv, hyv, fs', rfl, hfs'⟩ := hI.at hρv hv
    refine va_astq hx hb hXK.1 hP hD hS q 2 v 1 (r := (RX1, TX1, 14)) hy rfl hyv rfl hin hdg (fun H1 locs1 g1 g2 g3 => ?_)
    have hr2 : rE cy (ws.map Prod.fst) b (.inl (2, n0, .inr (.inr (.inr (.inr (va_up g i.toNatClampNeg (some v))))))) (.inl (cy 2, n0, .inr (.inr (.inr (.inr (va_up f' i.toNatClampNeg (some av))))))) := by
      refine ⟨_, rfl, fun j => ?_⟩
      by_cases hj : j = i.toNatClampNeg
      · simp only [va_up, if_pos hj]
        exact ⟨av, hρv, rfl⟩
      · simp only [va_up, if_neg hj]
        exact hf' j
    have hI2 := hI.set hy hr2 g1 g2 g3
    have hf := fst_set (y' := .inl (cy 2, n0, .inr (.inr (.inr (.inr (va_up f' i.toNatClampNeg (some av))))))) hy
    exact ih _ _ _ _ _ _ H ls lv' r' _ H1 locs1 hl (by rw [hf]; exact hlv) (by rw [hf]; exact hr) hI2 hcl hsl
  case arraylength =>
    rcases p_alen_i (show p_alen S h st fun st => K (pc + 1) lv st h cl sl from H) with ⟨q, r, t, x, rfl, hq, ht, H⟩ | ⟨q, r, rfl, H⟩
    · obtain ⟨a, r', hρ, rfl, hr⟩ := a_r hst
      obtain ⟨y, hy, hye⟩ := hI.at hρ hq
      have hty : ∃ ty, (pTy cy)[t]? = some (cy t, ty) := by
        rcases (show t = 0 ∨ t = 1 ∨ t = 2 ∨ t = 3 by omega) with rfl | rfl | rfl | rfl
        · exact ⟨_, rfl⟩
        · exact ⟨_, rfl⟩
        · exact ⟨_, rfl⟩
        · exact ⟨_, rfl⟩
      obtain ⟨ty, hty⟩ := hty
      obtain ⟨n0, f | f | f | f | f⟩ := x
      · rw [show y = .inl (cy t, n0, .inl f) from hye] at hy
        exact va_alen hx hb hXK.1 hP q t hy hty rfl hdg (go H hl hlv (a_i _ hr))
      · rw [show y = .inl (cy t, n0, .inr (.inl f)) from hye] at hy
        exact va_alen hx hb hXK.1 hP q t hy hty rfl hdg (go H hl hlv (a_i _ hr))
      · exact (show False from hye).elim
      · exact (show False from hye).elim
      · obtain ⟨f', rfl, -⟩ := hye
        exact va_alen hx hb hXK.1 hP q t hy hty rfl hdg (go H hl hlv (a_i _ hr))
    · obtain ⟨w, r', rfl, ⟨a, ha, rfl⟩, hr⟩ := a_c hst
      obtain ⟨g1, g2, g3⟩ := hXK.2.2.2.2.2.2.1 a ha
      exact va_slen hx hb g1 g2 g3 hS hdg (go H hl hlv (a_i _ hr))
  case getfield i =>
    obtain ⟨q, r, fs, v, rfl, hq, hf, hv, H⟩ := p_get_i (show p_get h ta tb st fun st => K (pc + 3) lv st h cl sl from H)
    obtain ⟨a, r', hρ, rfl, hr⟩ := a_r hst
    obtain ⟨y, hy, fs', rfl, hfs⟩ := hI.at hρ hq
    obtain ⟨v', hv', hvv⟩ := hfs.get hv
    simp only [lkOK, Bool.and_eq_true, Bool.or_eq_true, decide_eq_true_eq] at hlk
    obtain ⟨⟨C0, T0, N0⟩, hcl0⟩ := cl_lt hlk.1
    rw [fnum_eq hcl0] at hf
    rcases hlk.2 with hm | hm
    · exact va_get hx hb hts (LY_in hcl0) hown hXK.1 hP q hy hcl0 tb hf (hts _ (fl_0 hcl0 hm)) (fun _ h => h) hv' hdg (go H hl hlv ⟨_, _, rfl, hvv, hr⟩)
    · exact va_getN hx hb hts (LY_in hcl0) hown hXK.1 hP q hy hcl0 tb hf (va_Nw.use rfl (hXK.2.1 _ (fl_1 hcl0 hm) rfl)) (fun _ h => h) hv' hdg (go H hl hlv ⟨_, _, rfl, hvv, hr⟩)
  case putfield i =>
    obtain ⟨v, q, r, fs, rfl, hq, hf, hfl, hnar, hfit, H⟩ := p_put_i (show p_put h ta tb st fun st h => K (pc + 3) lv st h cl sl from H)
    obtain ⟨v', r0, rfl, hvv, h0⟩ := a_c hst
    obtain ⟨a, r', hρ, rfl, hr⟩ := a_r h0
    obtain ⟨y, hy, fs', rfl, hfs⟩ := hI.at hρ hq
    simp only [lkOK, Bool.and_eq_true, decide_eq_true_eq] at hlk
    obtain ⟨r9, hcl0⟩ := cl_lt hlk.1
    rw [fnum_eq hcl0] at hf
    obtain ⟨hn2, hf2⟩ := nf_of hvv hnar hfit
    have hl2 : tb < fs'.length := by rw [hfs.len]; exact hfl
    have hkk : ∀ (H1 : Heap) (locs1 : List Loc), va_P D vwCl (ws.set q (a, .inr (ta, fs'.set tb v'))) H1 → va_D A (ws.set q (a, .inr (ta, fs'.set tb v'))) → va_S A s.heap H1 locs1 → W p l e R s m args below meth c H1 locs1 cl sl Z (F0 m (pc + 3) ls r') := fun H1 locs1 g1 g2 g3 => by
      have hI2 := hI.set hy (x' := .inr (ta, fs.set tb v)) ⟨_, rfl, hfs.set hvv⟩ g1 g2 g3
      have hff := fst_set (y' := .inr (ta, fs'.set tb v')) hy
      exact ih _ _ _ _ _ _ H ls lv' r' _ H1 locs1 hl (by rw [hff]; exact hlv) (by rw [hff]; exact hr) hI2 hcl hsl
    have hfe : fin? ta tb = (r9.2.1 tb).2.2.2 := by unfold fin?; rw [hcl0]
    have hlk2 := hlk.2
    by_cases hfin : (r9.2.1 tb).2.2.2 = true
    · rw [hfe, if_pos hfin] at hlk2
      simp only [Bool.and_eq_true, decide_eq_true_eq, beq_iff_eq] at hlk2
      obtain ⟨⟨hi2, hm⟩, heq⟩ := hlk2
      have how := owX_ok hcl0
      exact va_putF hx hb hts (LY_in hcl0) (ftyX ta) (ftyX_ok hcl0) (nmX_ok hcl0) hown hXK.1 hP hD hS q hy (show vwCl[ta]? = some (r9.1, r9.2.1, r9.2.2) from hcl0) tb hf (hts _ (fl_0 hcl0 hm)) (fun _ h => h) hfin (hini hi2) (by rw [how.2 tb hf, ← how.1, heq]) (ftyX_ok hcl0 tb hf) hn2 hf2 hl2 hdg hkk
    · rw [hfe, if_neg hfin] at hlk2
      simp only [Bool.or_eq_true, decide_eq_true_eq] at hlk2
      have hfin2 : (r9.2.1 tb).2.2.2 = false := by simpa using hfin
      rcases hlk2 with hm | hm
      · exact va_put hx hb hts (LY_in hcl0) (ftyX ta) (ftyX_ok hcl0) (nmX_ok hcl0) hown hXK.1 hP hD hS q hy (show vwCl[ta]? = some (r9.1, r9.2.1, r9.2.2) from hcl0) tb hf (hts _ (fl_0 hcl0 hm)) (fun _ h => h) hfin2 (ftyX_ok hcl0 tb hf) hn2 hf2 hl2 hdg hkk
      · exact va_putN hx hb hts (LY_in hcl0) (ftyX ta) (ftyX_ok hcl0) (nmX_ok hcl0) hown hXK.1 hP hD hS q hy (show vwCl[ta]? = some (r9.1, r9.2.1, r9.2.2) from hcl0) tb hf (va_Nw.use rfl (hXK.2.1 _ (fl_1 hcl0 hm) rfl)) (fun _ h => h) hfin2 (ftyX_ok hcl0 tb hf) hn2 hf2 hl2 hdg hkk
  case newarray t =>
    obtain ⟨x, r, rfl, h0, hN, hc1, hs1, HH⟩ := on1_i (show on1 st fun x r => ¬ x < 0 ∧ x.toNatClampNeg ≤ 10000 ∧ cl + 1 ≤ pC M ∧ sl + x.toNatClampNeg ≤ pS M ∧ ((t = .int ∧ K (pc + 2) lv (.ref h.length :: r) (h ++ [.inl (0, x.toNatClampNeg, .inl (fun _ => 0))]) (cl + 1) (sl + x.toNatClampNeg)) ∨ (t = .long ∧ K (pc + 2) lv (.ref h.length :: r) (h ++ [.inl (1, x.toNatClampNeg, .inr (.inl (fun _ => 0)))]) (cl + 1) (sl + x.toNatClampNeg))) from H)
    obtain ⟨r', rfl, hr⟩ := a_1 hst
    rcases HH with ⟨rfl, HH⟩ | ⟨rfl, HH⟩
    · refine va_newa (atype := .int) (a0 := (x.toNatClampNeg, .inl (fun _ => 0))) hx hb (hts _ (TBL_of ⟨AC_int, rfl⟩)) rfl hXK.1 hP hD hS hA (fun _ => rfl) h0 rfl (by show _ * 4 ≤ _; omega) (Nat.le_trans hc1 hRc) (Nat.le_trans hs1 hRs) hdg (fun q cA H1 gK g1 g2 g3 => ?_)
      rw [arr_int gK] at g1 g2
      obtain ⟨hI2, hx2, hq2⟩ := hI.push (x := .inl (0, x.toNatClampNeg, .inl (fun _ => 0))) rfl g1 g2 g3
      exact ih _ _ _ _ _ _ HH ls lv' _ _ H1 locs hl (hlv.mono (fun q q' hqq => ⟨hqq.1, rv.mono hx2 _ _ hqq.2⟩)) ⟨_, _, rfl, ⟨q, hq2, rfl⟩, hr.mono (rv.mono hx2)⟩ hI2 hc1 hs1
    · refine va_newa (atype := .long) (a0 := (x.toNatClampNeg, .inr (.inl (fun _ => 0)))) hx hb (hts _ (TBL_of ⟨AC_long, rfl⟩)) rfl hXK.1 hP hD hS hA (fun _ => rfl) h0 rfl (by show _ * 8 ≤ _; omega) (Nat.le_trans hc1 hRc) (Nat.le_trans hs1 hRs) hdg (fun q cA H1 gK g1 g2 g3 => ?_)
      rw [arr_long gK] at g1 g2
      obtain ⟨hI2, hx2, hq2⟩ := hI.push (x := .inl (1, x.toNatClampNeg, .inr (.inl (fun _ => 0)))) rfl g1 g2 g3
      exact ih _ _ _ _ _ _ HH ls lv' _ _ H1 locs hl (hlv.mono (fun q q' hqq => ⟨hqq.1, rv.mono hx2 _ _ hqq.2⟩)) ⟨_, _, rfl, ⟨q, hq2, rfl⟩, hr.mono (rv.mono hx2)⟩ hI2 hc1 hs1
  case anewarray i =>
    obtain ⟨x, r, rfl, h0, hN, hc1, hs1, HH⟩ := on1_i (show on1 st fun x r => ¬ x < 0 ∧ x.toNatClampNeg ≤ 10000 ∧ cl + 1 ≤ pC M ∧ sl + x.toNatClampNeg ≤ pS M ∧ K (pc + 3) lv (.ref h.length :: r) (h ++ [.inl (2, x.toNatClampNeg, .inr (.inr (.inr (.inr (fun _ => none)))))]) (cl + 1) (sl + x.toNatClampNeg) from H)
    obtain ⟨r', rfl, hr⟩ := a_1 hst
    simp only [lkOK, decide_eq_true_eq] at hlk
    have hw := CL_ok _ hlk
    refine va_newq (C := "OverlapMill$Chart") hx hb hown (hts _ (TBL_of hw)) hXK.2.2.1 hXK.1 hP hD hS hA h0 rfl (by omega) (Nat.le_trans hc1 hRc) (Nat.le_trans hs1 hRs) hdg (fun q cA H1 gK g1 g2 g3 => ?_)
    rw [arr_chart gK] at g1 g2
    obtain ⟨hI2, hx2, hq2⟩ := hI.push (x := .inl (2, x.toNatClampNeg, .inr (.inr (.inr (.inr (fun _ => none)))))) ⟨_, rfl, fun j => rfl⟩ g1 g2 g3
    exact ih _ _ _ _ _ _ HH ls lv' _ _ H1 locs hl (hlv.mono (fun q q' hqq => ⟨hqq.1, rv.mono hx2 _ _ hqq.2⟩)) ⟨_, _, rfl, ⟨q, hq2, rfl⟩, hr.mono (rv.mono hx2)⟩ hI2 hc1 hs1
  case multianewarray i d =>
    obtain ⟨k0, n0, r, rfl, hn0, hk0, hN, hK0, hc1, hs1, HH⟩ := p_new2_i (show p_new2 h st fun st h dc ds => cl + dc ≤ pC M ∧ sl + ds ≤ pS M ∧ K (pc + 4) lv st h (cl + dc) (sl + ds) from H)
    obtain ⟨r', rfl, hr⟩ := a_2 hst
    simp only [lkOK, Bool.and_eq_true, decide_eq_true_eq, beq_iff_eq] at hlk
    obtain ⟨hlk1, rfl⟩ := hlk
    have hw := CL_ok _ hlk1
    have hPP : va_P D vwCl (ws ++ va_pl [] (fun _ => .inl (cy 0, 0, .inl (fun _ => 0)))) Hp := by rw [show va_pl [] (fun _ => (.inl (cy 0, 0, .inl (fun _ => 0)) : va_E)) = [] from rfl, List.append_nil]; exact hP
    have hDD : va_D A (ws ++ va_pl [] (fun _ => .inl (cy 0, 0, .inl (fun _ => 0)))) := by rw [show va_pl [] (fun _ => (.inl (cy 0, 0, .inl (fun _ => 0)) : va_E)) = [] from rfl, List.append_nil]; exact hD
    have hmul : n0.toNatClampNeg * k0.toNatClampNeg ≤ 1000 * 1000 := Nat.mul_le_mul hN hK0
    refine va_mna (X := ws) (L := []) (ty := .int) (cy := cy 0) (z := (k0.toNatClampNeg, .inl (fun _ => 0))) hx hb hown (hts _ (TBL_of hw)) hXK.2.2.2.1 (hts _ (TBL_of ⟨AC_int, rfl⟩)) (hXK.1.2 0 _ rfl).2 hXK.1 hPP hDD hS hA hn0 hk0 rfl rfl (by omega) (by show _ * 4 ≤ _; omega) (by omega) rfl rfl (Nat.le_trans hc1 hRc) (Nat.le_trans hs1 hRs) (fun c9 => ?_) hdg (fun q r0 cA H1 hinj hnot gK g1 g2 g3 => ?_)
    · rw [vp_cell_i]
      exact arrV_new _ _ _
    · have e : va_pl ([] ++ (List.range n0.toNatClampNeg).map r0) (vr_up (fun _ => (.inl (cy 0, 0, .inl (fun _ => 0)) : va_E)) ((List.range n0.toNatClampNeg).map r0) (.inl (cy 0, (k0.toNatClampNeg, .inl (fun _ => 0))))) = (List.range n0.toNatClampNeg).map (fun i => (r0 i, (.inl (cy 0, k0.toNatClampNeg, .inl (fun _ => 0)) : va_E))) := by
        unfold va_pl
        rw [List.nil_append, List.map_map]
        apply List.map_congr_left
        intro i hi
        simp only [Function.comp]
        rw [vr_up_in (List.mem_map_of_mem hi)]
      rw [arr_rows gK, e] at g1 g2
      obtain ⟨hI2, hx2, hq2⟩ := hI.push2 g1 g2 g3
      rw [Nat.add_assoc cl, Nat.add_assoc sl]
      exact ih _ _ _ _ _ _ HH ls lv' _ _ H1 locs hl (hlv.mono (fun q q' hqq => ⟨hqq.1, rv.mono hx2 _ _ hqq.2⟩)) ⟨_, _, rfl, ⟨q, hq2, rfl⟩, hr.mono (rv.mono hx2)⟩ hI2 hc1 hs1
  case new i =>
    rcases (show (tb = 0 ∧ cl + 1 ≤ pC M ∧ sl + fnum ta ≤ pS M ∧ K (pc + 3) lv (.ref h.length :: st) (h ++ [.inr (ta, dflt ta)]) (cl + 1) (sl + fnum ta)) ∨ (tb = 1 ∧ hd = [] ∧ cl + 1 ≤ pC M ∧ sl + 6 ≤ pS M ∧ (st.map Value.category).sum ≤ 8 ∧ ∃ x, XLs[ta]? = some x ∧ Q (.inr x.2.2.1) h) from H) with ⟨rfl, hc1, hs1, H⟩ | ⟨rfl, h0, hc1, hs1, hsum, x, hxl, H⟩
    · have hlk2 : (pO M, i, ta) ∈ CLs ∧ ta < 11 := by simpa [lkOK] using hlk
      obtain ⟨r9, hcl0⟩ := cl_lt hlk2.2
      have how := owX_ok hcl0
      have hw := cl_in hlk2.2 hlk2.1
      rw [how.1] at hw
      have hfn := fnum_eq hcl0
      refine va_new (ci := ta) (fs := dflt ta) hx hb hts (LY_in hcl0) (ftyX ta) (ftyX_ok hcl0) hown (hts _ hw) (hts _ (TBL_of (IS_ok r9 (List.mem_of_getElem? hcl0)))) (hts _ (TBL_of (IN_ok _ (by rw [← how.1]; exact List.mem_of_getElem? (i := ta) (by rw [List.getD]; rw [List.getElem?_eq_getElem (show ta < cnm.length from Nat.lt_of_lt_of_le hlk2.2 (by decide))]; rfl))))) hXK.1 hP hD hS hA (show vwCl[ta]? = some (r9.1, r9.2.1, r9.2.2) from hcl0) (fun j hj => dflt_V ta (by rw [hfn]; exact hj)) (Nat.le_trans hc1 hRc) (by rw [← hfn]; exact Nat.le_trans hs1 hRs) hdg (fun q H1 g1 g2 g3 => ?_)
      rw [← hfn]
      obtain ⟨hI2, hx2, hq2⟩ := hI.push (x := .inr (ta, dflt ta)) ⟨_, rfl, dflt_rv ta⟩ g1 g2 g3
      exact ih _ _ _ _ _ _ H ls lv' _ _ H1 locs hl (hlv.mono (fun q q' hqq => ⟨hqq.1, rv.mono hx2 _ _ hqq.2⟩)) ⟨_, _, rfl, ⟨q, hq2, rfl⟩, hst.mono (rv.mono hx2)⟩ hI2 hc1 hs1
    · have hlk2 : xok (pO M) (pB M) pc i ta = true := by simpa [lkOK] using hlk
      exact hNw i ta pc x ls st' lv' h ws Hp locs cl sl hdg hlk2 hxl h0 H (by rw [A2.cats hst]; exact hsum) hl hI hc1 hs1
  case invokevirtual i =>
    have H : p_call C M hd Q K pc ta true lv st h cl sl := H
    simp only [lkOK, Bool.and_eq_true, Bool.or_eq_true, decide_eq_true_eq, beq_iff_eq] at hlk
    exact hcall hlk.1 (Or.inl ⟨rfl, rfl, hlk.2⟩) hdg H ls lv' st' ws Hp locs hl hlv hst hI hcl hsl
  case invokestatic i =>
    rcases (show (tb = 7 ∧ p_copy h st fun st h => (st.map Value.category).sum ≤ 8 ∧ K (pc + 3) lv st h cl sl) ∨ (tb ≠ 7 ∧ p_call C M hd Q K pc ta false lv st h cl sl) from H) with ⟨rfl, HH⟩ | ⟨htb, HH⟩
    · obtain ⟨n9, dp, q1, sp, q0, r, n0, f, n1, g, rfl, hq0, hq1, h1, h2, h3, h4, h5, hsum, HH⟩ := p_copy_i HH
      obtain ⟨s1, rfl, k1⟩ := a_2 hst
      obtain ⟨a1, s2, hρ1, rfl, k2⟩ := a_r k1
      obtain ⟨s3, rfl, k3⟩ := a_1 k2
      obtain ⟨a0, r', hρ0, rfl, hr⟩ := a_r k3
      obtain ⟨y0, hy0, e0⟩ := hI.at hρ0 hq0
      obtain ⟨y1, hy1, e1⟩ := hI.at hρ1 hq1
      rw [show y0 = .inl (cy 0, n0, .inl f) from e0] at hy0
      rw [show y1 = .inl (cy 0, n1, .inl g) from e1] at hy1
      have hlk2 : (pO M, i, ta, 7) ∈ MLs := by simpa [lkOK] using hlk
      have hw := ML_ok _ hlk2
      have e : mlW (pO M, i, ta, 7) = Cond.methodLink (cnm.getD (pO M) "") i arraycopyName := by simp [mlW]
      rw [e] at hw
      have hnf : nativeFrameWords "java/lang/System" "arraycopy" 5 ≤ 200 := by decide +kernel
      refine va_copyi hx hb (hmax.trans hl.1.symm) hown (hts _ (TBL_of ⟨hw.1, rfl⟩)) (hts _ N_an) (hts _ N_as) (hts _ N_ai) hXK.1 hP hD hS q0 q1 0 0 hy0 hy1 rfl rfl rfl h1 h2 h3 h4 h5 (fun _ _ => rfl) (by omega) (by rw [A2.cats hr]; omega) hdg (fun H1 locs1 g1 g2 g3 => ?_)
      have hI2 := hI.set hy1 (x' := .inl (0, n1, .inl (va_cpy f g sp.toNatClampNeg dp.toNatClampNeg n9.toNatClampNeg))) (show rE cy _ b (.inl (0, n1, .inl (va_cpy f g sp.toNatClampNeg dp.toNatClampNeg n9.toNatClampNeg))) _ from rfl) g1 g2 g3
      have hf := fst_set (y' := .inl (cy 0, n1, .inl (va_cpy f g sp.toNatClampNeg dp.toNatClampNeg n9.toNatClampNeg))) hy1
      exact ih _ _ _ _ _ _ HH ls lv' r' _ H1 locs1 hl (by rw [hf]; exact hlv) (by rw [hf]; exact hr) hI2 hcl hsl
    · simp only [lkOK, Bool.and_eq_true, Bool.or_eq_true, decide_eq_true_eq, beq_iff_eq] at hlk
      refine hcall hlk.1 (Or.inr (Or.inl ⟨rfl, rfl, ?_⟩)) hdg HH ls lv' st' ws Hp locs hl hlv hst hI hcl hsl
      rcases hlk.2 with ((q | q) | q) | q
      · exact absurd q htb
      · exact Or.inl q
      · exact Or.inr (Or.inl q)
      · exact Or.inr (Or.inr q)
  case invokespecial i =>
    rcases (show (tb = 6 ∧ onR st fun _ r => (r.map Value.category).sum ≤ 8 ∧ K (pc + 3) lv r h cl sl) ∨ ((tb = 4 ∨ tb = 5) ∧ p_call C M hd Q K pc ta true lv st h cl sl) from H) with ⟨rfl, HH⟩ | ⟨htb, HH⟩
    · obtain ⟨q, r, rfl, hsum, HH⟩ := onR_i HH
      obtain ⟨a, r', hρ, rfl, hr⟩ := a_r hst
      have hlk2 : (pO M, i, ta, 6) ∈ MLs := by simpa [lkOK] using hlk
      have hw := ML_ok _ hlk2
      have e : mlW (pO M, i, ta, 6) = Cond.methodLink (cnm.getD (pO M) "") i objectInit := by simp [mlW]
      rw [e] at hw
      exact W.objInit hx hb hown (hts _ (TBL_of ⟨hw.1, rfl⟩)) (hts _ N_oi) (hts _ N_oc) rfl (hl.1.trans hmax.symm) rfl hdg (by omega) (by rw [A2.cats hr]; show 2 * 0 + _ + 12 ≤ _; omega) (go HH hl hlv hr)
    · have hlk2 : (pO M, i, ta, tb) ∈ MLs := by
        rcases htb with rfl | rfl <;> simpa [lkOK] using hlk
      exact hcall hlk2 (Or.inr (Or.inr ⟨rfl, rfl, htb⟩)) hdg HH ls lv' st' ws Hp locs hl hlv hst hI hcl hsl
  case ireturn =>
    obtain ⟨x, rfl, ht, H⟩ : ∃ x, st = [.int x] ∧ (∃ t, pR M = some t ∧ narrow t (.int x) = .int x) ∧ Q (.inl (some (.int x))) h := H
    obtain ⟨r', rfl, hr⟩ := a_1 hst
    cases (show r' = [] from hr)
    exact hR _ pc ls (some (.int x)) (some (.int x)) h ws Hp locs cl sl hdg ht H hst hI hcl hsl
  case lreturn =>
    obtain ⟨x, rfl, ht, H⟩ : ∃ x, st = [.long x] ∧ pR M = some .long ∧ Q (.inl (some (.long x))) h := H
    obtain ⟨r', rfl, hr⟩ := a_l hst
    cases (show r' = [] from hr)
    exact hR _ pc ls (some (.long x)) (some (.long x)) h ws Hp locs cl sl hdg ht H hst hI hcl hsl
  case areturn =>
    obtain ⟨q, rfl, ht, H⟩ : ∃ a, st = [.ref a] ∧ (∃ t, pR M = some (.object t)) ∧ Q (.inl (some (.ref a))) h := H
    obtain ⟨a, r', hρ, rfl, hr⟩ := a_r hst
    cases (show r' = [] from hr)
    exact hR _ pc ls (some (.ref q)) (some (.ref a)) h ws Hp locs cl sl hdg ht H hst hI hcl hsl
  case return_ =>
    obtain ⟨rfl, ht, H⟩ : st = [] ∧ pR M = none ∧ Q (.inl none) h := H
    cases (show st' = [] from hst)
    exact hR _ pc ls none none h ws Hp locs cl sl hdg ht H hst hI hcl hsl
  all_goals exact (show False from H).elim
end INS
/-! a body whole, and every method: what the pure machine says is a contract -/
section BDY
variable {p : Program} {l : Launch} {e : Env} {R : Room} {s : State} {m : MethodId} {args : Array Value} {below : List Frame} {meth : Method} {c : Code} {D : va_G} {cy : Nat → ClassId} {A : Nat → Prop} {b : Option Nat} {S : Nat × (Nat → Int32)} {M : PM} {ws0 : va_W} {Z : State → Prop} {n : Nat}
theorem body {C : Nat → List Value → PH → (Rs → PH → Prop) → Prop} {hd : List (Nat × Nat × Nat × Int)} {Q : Rs → PH → Prop} (hc : CX p l R s m args meth c D cy A b S M n) (hC : ∀ (μ : Nat) (N : PM) (av : List Value) (h : PH) (Q' : Rs → PH → Prop), MT[μ]? = some N → ¬ pK N = 4 → C μ av h Q' → CT l D cy b S n μ N av h Q')
    (hR : HRt p l e R s m args below meth c D cy A b M ws0 Z Q) (hX : HXt p l e R s m args below meth c D cy A b M ws0 Z hd Q) (hNw : HNt p l e R s m args below meth c D cy A b M ws0 Z hd Q) (hok : mOK M = true) {pc : Nat} {lv : LV} {st : List Value} {h : PH} {cl sl : Nat} (H : Vx C S M hd Q pc lv st h cl sl) : GD p l e R s m args below meth c D cy A b M ws0 Z pc lv st h cl sl := by
  refine H (GD p l e R s m args below meth c D cy A b M ws0 Z) ?_
  intro pc lv st h cl sl ⟨te, hte, H⟩
  have h1 := List.mem_of_find?_eq_some hte
  have h2 : te.1 = pc := by
    have h3 := List.find?_some hte
    simpa using h3
  have h4 := List.all_eq_true.mp hok te h1
  have h5 := stepI (p := p) (l := l) (e := e) (R := R) (s := s) (m := m) (args := args) (below := below) (meth := meth) (c := c) (D := D) (cy := cy) (A := A) (b := b) (S := S) (M := M) (ws0 := ws0) (Z := Z) (n := n) hc hC hR hX hNw (fun pc lv st h cl sl h9 => h9) h4 H
  rw [h2] at h5
  exact h5
end BDY
theorem sl_len : ∀ vs : List Value, (lg_sl vs).length = (vs.map Value.category).sum
  | [] => rfl
  | v :: vs => by
    have h := sl_len vs
    unfold lg_sl at h ⊢
    rw [List.flatMap_cons, List.length_append, h]
    rcases lv_cat v with q | q <;> simp [q]
theorem plain_all : ∀ M ∈ MT, plainFor (pY M) = true := by
  intro M hM
  obtain ⟨μ, hμ⟩ := List.getElem?_of_mem hM
  have hw := (MT_w hμ).1
  have hi := MT_info M hM
  simp only [mInf, Bool.and_eq_true, Bool.or_eq_true, bne_iff_ne, ne_eq, beq_iff_eq, decide_eq_true_eq] at hi
  obtain ⟨⟨⟨-, h13⟩, -⟩, h15⟩ := hi
  by_cases h : pO M = 13
  · have hd : (pY M).desc = "(II)I" := by
      rcases h13 with q | q
      · exact absurd h q
      · exact q
    have hc : (pY M).cls = "java/lang/Math" := by
      rw [h] at hw
      exact (Option.some.inj hw).symm
    exact Jvm.Free.JP.mathPlain hc (by rw [hd]; decide +kernel)
  · refine plainFor_of_name ?_
    have hall : ∀ k, k < 15 → k ≠ 13 → ∀ C, cnm[k]? = some C → Jvm.plainName C = true := by
      intro k hk hne C hC
      have hd : ∀ k, k < 15 → k ≠ 13 → Jvm.plainName (cnm.getD k "") = true := by decide +kernel
      have h2 := hd k hk hne
      rw [List.getD, hC] at h2
      exact h2
    exact hall _ h15 h _ hw
/-- a contract out of a body, the class's name aside -/
theorem px_of {l : Launch} {y : MethodName} {ws : List Cond} {rm : Room} {Pc : Array Value → State → Prop} {Qc : Array Value → State → Outcome → State → Prop} {XC : String → State → State → Prop} {mc ms : Nat} {free : Addr → Prop} {cc : ByteArray} {maxL : Nat} {ret : Option FieldType}
    (hy : plainFor y = true) (his : ∀ args (s : State) m, (headSpec ws rm).pre.before args s = true → s.methodNamed? y = some m → ∃ meth c, s.vm.method? m = some meth ∧ meth.code = some c ∧ c.code = cc ∧ c.maxLocals = maxL ∧ meth.sig.returnType = ret ∧ meth.locks = false)
    (body : ∀ p e s m args below meth c s₁, BodyLoose p l y (headSpec ws rm) cc maxL ret e s m args below meth c s₁ → c.maxLocals = maxL → Pc args s →
      W p l e (headSpec ws rm).room s m args below meth c s.heap [] 0 0 (vx_MQ below Qc XC args s mc ms free) (entryFrame m args maxL)) : vx_Met l y ws rm Pc Qc XC mc ms free := by
  refine MetFree.of_bodySF (code := cc) (maxLocals := maxL) (ret := ret) hy his ?_
  intro p e s m args below meth c s₁ B hml hP _
  have hh0 : s₁.heap = s.heap := by rw [B.state]; rfl
  obtain ⟨t, a1, o, b1, b2, b3⟩ := body p e s m args below meth c s₁ B hml hP s₁ hh0 (Stand.of_body B)
  exact ⟨t, o, a1, b1, b2, b3⟩
section FIN
variable {p : Program} {l : Launch} {e : Env} {R : Room} {s : State} {m : MethodId} {args : Array Value} {below : List Frame} {meth : Method} {c : Code} {D : va_G} {cy : Nat → ClassId} {b : Option Nat} {S : Nat × (Nat → Int32)} {M : PM} {ws0 : va_W} {n : Nat}
/-- the returns of a method -/
theorem hr_of {Q : Rs → PH → Prop} (hc : CX p l R s m args meth c D cy (va_A ws0 s.heap.size) b S M n) (hret : meth.sig.returnType = pR M) (hlocks : meth.locks = false) :
    HRt p l e R s m args below meth c D cy (va_A ws0 s.heap.size) b M ws0 (vx_MQ below (QcP D cy b ws0 s.heap.size Q) (XcP D cy b ws0 s.heap.size Q) args s (pC M) (pS M) (va_A ws0 s.heap.size)) Q := by
  obtain ⟨hx, hb, hmax, hown, hts, hXK, hA, hini, hRc, hRs, hRf, hRl, htr⟩ := hc
  intro i pc ls v v' h ws H locs cells slots hdg hok hq hro hI hcl hsl
  obtain ⟨hex, hrE, hP, hD, hS⟩ := hI
  refine W.widen hcl hsl (vx_ret ?_)
  have hQ : ∀ t : State, t.heap = H → s.WarmedH t.vm → QcP D cy b ws0 s.heap.size Q args s (.returned v') t := fun t ht _ => ⟨⟨v, v', h, ws, rfl, hq, hro, hex, hrE, by rw [ht]; exact hP, hD⟩, hS.F ht⟩
  cases i
  case ireturn =>
    rcases v with _ | (x | x | x | x | _ | x | x)
    · exact hok.elim
    · obtain ⟨t, ht, hn⟩ := hok
      obtain ⟨w, r, hv, hw, hr⟩ := hro
      cases v' with
      | none => cases hv
      | some v' =>
        cases hv
        cases (show w = .int x from hw)
        exact W.zret hx hb (hret.trans ht) hn hQ hS.2.2 hdg hlocks
    all_goals exact hok.elim
  case lreturn =>
    rcases v with _ | (x | x | x | x | _ | x | x)
    · exact hok.elim
    · exact hok.elim
    · obtain ⟨w, r, hv, hw, hr⟩ := hro
      cases v' with
      | none => cases hv
      | some v' =>
        cases hv
        cases (show w = .long x from hw)
        exact W.lret hx hb (hret.trans hok) hQ hS.2.2 hdg hlocks
    all_goals exact hok.elim
  case areturn =>
    rcases v with _ | (x | x | x | x | _ | x | x)
    · exact hok.elim
    · exact hok.elim
    · exact hok.elim
    · exact hok.elim
    · exact hok.elim
    · exact hok.elim
    · obtain ⟨t, ht⟩ := hok
      obtain ⟨w, r, hv, ⟨a, -, hw⟩, hr⟩ := hro
      cases v' with
      | none => cases hv
      | some v' =>
        cases hv
        cases hw
        exact W.aret hx hb (hret.trans ht) (Or.inl ⟨_, rfl⟩) (Or.inr ⟨_, rfl⟩) hQ hS.2.2 hdg hlocks
    · exact hok.elim
  case return_ =>
    cases v with
    | some v => cases v <;> exact hok.elim
    | none =>
      cases v' with
      | some v' => cases (show [v'] = [] from hro)
      | none => exact W.vret hx hb (hret.trans hok) hQ hS.2.2 hdg hlocks
  all_goals (rcases v with _ | (x | x | x | x | _ | x | x) <;> exact hok.elim)
end FIN
/-! a throw of a class whose constructor hands its text on by another number of its pool than 7 (java.util.NoSuchElementException: 13); the kit's vx_throwS speaks of 7 alone. Built on the library's chainSX, ctorMessageOffV, athrowLeaves. -/
section NX
variable {p : Program} {l : Launch} {e : Env} {R : Room} {s : State} {m₀ : MethodId} {args : Array Value} {below : List Frame} {meth : Method} {c : Code} {W0 : State} {locs : List Loc} {cells slots : Nat}
set_option maxHeartbeats 1000000 in
theorem nx_ctor (X : Stand p l e R s m₀ args below meth c W0 locs cells slots) (hexec : p.tables.exec = Jvm.exec) (htr : e.platform.stackTraces = false) {own cls : String} {names : List String} {ic ix : Nat} {rx : ByteArray}
    (x0 : decode rx 0 = .ok (.aload_n 0, 1)) (x1 : decode rx 1 = .ok (.aload_n 1, 1)) (x2 : decode rx 2 = .ok (.invokespecial ix, 3)) (x5 : decode rx 5 = .ok (.return_, 1))
    (hown : s.vm.findClass own = some m₀.cls) (hcls : Bundle.fit cls = true) (hnames : ∀ n ∈ names, Bundle.fit n = true) (h : ∀ a ∈ Bundle.ownAtomsX own ic cls ix rx names, a.before args s = true)
    (hlocs : ∀ x ∈ locs, ∀ cell, s.heap[x.base]? = some cell → cell.vm.isStatics = false)
    {a : Addr} {cX : ClassId} {kX : Class} (hfoundX : s.vm.findClass cls = some cX) (hkX : s.vm.classes[cX]? = some kX) (hcell : W0.heap[a]? = some (freshCell cX kX)) (hnew : s.heap.size ≤ a) {msg : Value} (hmsg : msg.isRef = true)
    {g : JFrame} (hg : g.method = m₀) (hsize : g.locals.size = c.maxLocals) (hlocked : g.locked = none) (hentered : g.entered = []) {rest : List Value} (hstack : g.stack = msg :: .ref a :: .ref a :: rest)
    (hd6 : decode c.code g.pc = .ok (.invokespecial ic, 3)) (hd9 : decode c.code (g.pc + 3) = .ok (.athrow, 1)) (hout : ∀ x ∈ c.exceptionTable.toList, covers x (g.pc + 3) = false)
    (hRframes : names.length + 3 < R.frames) (hRlocals : 2 * g.monitorRoom + ((Value.ref a :: rest).map fun v => v.category).sum + (13 * (names.length + 1) + 42) ≤ R.locals) (hlocks : meth.locks = false) :
    ∃ U : State, Steps p.tables e below (W0.setTop g) U ∧ U.status = .running ∧ Ended U below (.threw a) ∧ s.WarmedH U.vm ∧ s.sameButNew ({ U with vm := s.vm } : State) locs cells slots ∧ ∃ ce : Cell, U.heap[a]? = some ce ∧ s.vm.findClass cls = some ce.cls ∧ ce.vm = .none := by
  have hpl : e.platform.magicAccessors = ({} : Platform).magicAccessors := by rw [X.admits.platform]
  have hh : ∀ x, x ∈ Bundle.ownAtomsX own ic cls ix rx names → x.holds args s none s [] = true := fun x hx => h x hx
  obtain ⟨T, Z0, L, -, Y⟩ := ThrowableC.of_atoms (args := args) (s := s) (pl := e.platform) (by rw [X.admits.platform]) (by rw [X.admits.platform]) hpl (fun x hx => h x (by simp [Bundle.ownAtomsX, hx]))
  obtain ⟨Z, Ms, LZ, LM, hnZ⟩ := Init0T.ofS_atoms (args := args) hpl L Y (fun x hx => h x (by simp [Bundle.ownAtomsX, hx]))
  obtain ⟨P1, Ps, hlen, L1, hL, hP1m, hlink1, hlink⟩ := Bundle.chainSX (args := args) hpl hnZ x0 x1 x2 x5 names cls hcls hnames (fun x hx => h x (by simp [Bundle.ownAtomsX, hx]))
  have hfound : s.vm.findClass cls = some P1.m.cls := findClass_of_methodNamed hP1m
  cases Option.some.inj (hfoundX.symm.trans hfound)
  obtain ⟨c1, kX', hc1, hk, hord, -, -, hn6⟩ := Cond.instantiable_spec (hh (.instantiable cls 6) (by simp [Bundle.ownAtomsX]))
  cases Option.some.inj (hc1.symm.trans hfound)
  cases Option.some.inj (hkX.symm.trans hk)
  have hsel0 : selectMethod e.platform s.vm P1.m.cls T.fill0 = .method T.fill0 := by
    obtain ⟨c2, r2, m2, q1, q2, q3, q4, -⟩ := Cond.selects_spec (hh (.selects cls Bundle.tFill0 Bundle.tFill0) (by simp [Bundle.ownAtomsX]))
    cases Option.some.inj (q1.symm.trans hfound)
    cases Option.some.inj (q2.symm.trans (State.methodFound?_of_named Y.fill0 (by decide)))
    cases Option.some.inj (q3.symm.trans Y.fill0)
    rw [Launch.admits_selectMethod X.admits]; exact q4
  have hselF : selectMethod e.platform s.vm P1.m.cls T.fill = .method T.fill := by
    obtain ⟨c2, r2, m2, q1, q2, q3, q4, -⟩ := Cond.selects_spec (hh (.selects cls Bundle.tFill Bundle.tFill) (by simp [Bundle.ownAtomsX]))
    cases Option.some.inj (q1.symm.trans hfound)
    cases Option.some.inj (q2.symm.trans (State.methodFound?_of_named Y.fill (by decide)))
    cases Option.some.inj (q3.symm.trans Y.fill)
    rw [Launch.admits_selectMethod X.admits]; exact q4
  obtain ⟨cellS0, hcS0, hiss⟩ := Y.statics
  obtain ⟨u0, hu0⟩ := Cond.staticRefV Y.unassigned L.unassignedStatic L.statics hcS0 hiss (hh (.isRef (.static Bundle.tN "UNASSIGNED_STACK" Bundle.steD)) (by simp [Bundle.ownAtomsX]))
  obtain ⟨sen, hsen⟩ := Cond.staticRefV Y.sentinel L.sentinelStatic L.statics hcS0 hiss (hh (.isRef (.static Bundle.tN "SUPPRESSED_SENTINEL" Bundle.listD)) (by simp [Bundle.ownAtomsX]))
  obtain ⟨ci198, i198, fB, hk198, hg198, ha198, hsB, -, hnB, htB, hffB⟩ := Cond.ownField (t := .object "java/lang/Object") Y.found L.cls (by decide +kernel) (hh (.fieldLink Bundle.tN 198 Bundle.tN "backtrace" "Ljava/lang/Object;") (by simp [Bundle.ownAtomsX])) (hh (.lays Bundle.tN Bundle.tN "backtrace" "Ljava/lang/Object;") (by simp [Bundle.ownAtomsX])) e.platform hpl
  obtain ⟨cellS, hcellS, heS, -, hkeep⟩ := X.same.2.2.2.2.2 T.aS cellS0 hcS0
  have hout' : ∀ i, (⟨T.aS, i⟩ : Loc) ∉ locs := fun i hmem => by
    have h9 := hlocs _ hmem cellS0 hcS0
    rw [hiss] at h9; cases h9
  have hknownS : cellS.vm ≠ .unknown := by
    rw [heS]; intro hu
    rw [show cellS0.vm = .unknown from hu] at hiss
    cases hiss
  have hneS : T.aS ≠ a := Nat.ne_of_lt (Nat.lt_of_lt_of_le (Array.getElem?_eq_some_iff.mp hcS0).1 hnew)
  obtain ⟨iM, hffM⟩ := Y.msg
  obtain ⟨tyC, dC, hdC, hdnC⟩ := Cond.laysAt hfound hk Y.cause (hh (.lays cls Bundle.tN "cause" "Ljava/lang/Throwable;") (by simp [Bundle.ownAtomsX]))
  obtain ⟨tyS, dS, hdS, hdnS⟩ := Cond.laysAt hfound hk Y.stack (hh (.lays cls Bundle.tN "stackTrace" Bundle.steD) (by simp [Bundle.ownAtomsX]))
  obtain ⟨tyP, dP, hdP, hdnP⟩ := Cond.laysAt hfound hk Y.supp (hh (.lays cls Bundle.tN "suppressedExceptions" Bundle.listD) (by simp [Bundle.ownAtomsX]))
  obtain ⟨tyM, dM, hdM, hdnM⟩ := Cond.laysAt hfound hk hffM (hh (.lays cls Bundle.tN "detailMessage" "Ljava/lang/String;") (by simp [Bundle.ownAtomsX]))
  obtain ⟨tyB, dB, hdB, hdnB⟩ := Cond.laysAt hfound hk hffB (hh (.lays cls Bundle.tN "backtrace" "Ljava/lang/Object;") (by simp [Bundle.ownAtomsX]))
  have bC := Cond.laysApart hdB hdC hdnB hdnC (by rw [hnB, Y.causeName]; decide)
  have bS := Cond.laysApart hdB hdS hdnB hdnS (by rw [hnB, Y.stackName]; decide)
  have bP := Cond.laysApart hdB hdP hdnB hdnP (by rw [hnB, Y.suppName]; decide)
  have hskip : SkipFacts T e.platform s (fun u => u) u0 ((preparedCellV T.toThrowableT (freshCell P1.m.cls kX) a u0 sen).withEntry W0.cur) :=
    ⟨{ ci198 := ci198, i198 := i198, fBack := fB }, ⟨hk198, hg198, ha198, hsB⟩, by
      have h9 := fresh_default (c := P1.m.cls) tyB
      rw [htB] at h9
      simpa [preparedCellV, Cell.setSlot, Cell.withEntry, Array.getElem?_setIfInBounds, bC, bS, bP, bC.symm, bS.symm, bP.symm, defaultValue] using h9, fun _ _ => rfl⟩
  obtain ⟨tm, methC, cdC, kC, vm₁, hnC, -, -, -, -, -, -, -, hW₁, st1⟩ := Steps.initColdS (tb := p.tables) (e := e) (below := below) (s := s) (U := W0) X.here hexec X.warmed hpl hown (t := Bundle.initS cls) rfl rfl (Bundle.fit_spec hcls).2
    (hh (.methodLink own ic (Bundle.initS cls)) (by simp [Bundle.ownAtomsX])) (h (.instanceMethod (Bundle.initS cls)) (by cases names <;> simp [Bundle.ownAtomsX, Bundle.chainSAtomsX, Bundle.passSAtoms])) (bytes := rx) (maxL := 2) (h (.code (Bundle.initS cls) rx 2 none) (by cases names <;> simp [Bundle.ownAtomsX, Bundle.chainSAtomsX, Bundle.passSAtoms]))
    (f := g) hg (a := a) (msg := msg) (rest := .ref a :: rest) hstack hd6
  cases Option.some.inj (hnC.symm.trans hP1m)
  have X₁ := X.noted hW₁
  obtain ⟨vm₂, X₂, st2⟩ := X₁.ctorMessageOffV hexec (g := { g with stack := .ref a :: rest }) hg hsize T L Z LZ Ms LM (P1 :: Ps)
    (fun P hP => by rcases List.mem_cons.mp hP with rfl | hP; exact L1; exact hL P hP) ⟨hlink1, hlink⟩ (u0 := u0) (sen := sen) (self := a) hmsg (cell := freshCell P1.m.cls kX) (cellS := cellS)
    hcell (fun _ => by simp) (by simp) rfl rfl hsel0 hselF hcellS hneS hknownS (by rw [hkeep _ (hout' _)]; exact hu0) (by rw [hkeep _ (hout' _)]; exact hsen)
    (Takes.of_laid hk hord tyC (by rw [Y.causeType]; rfl)) (Takes.of_laid hk hord tyS (by rw [Y.stackType]; exact fits_refV_array _ u0)) (Takes.of_laid hk hord tyP (by rw [Y.suppType]; exact fits_refV_object _ sen))
    (Takes.of_laid hk hord tyM (by rw [Y.msgType]; exact fits_refV_object _ ⟨msg, hmsg⟩)) Y.objLocals hskip htr [] hd6
    (by simp only [List.length_cons, hlen]; omega) (by simp only [List.length_cons, hlen]; exact hRlocals)
  obtain ⟨hwalk, hrun, hended, hWU, hsame⟩ := X₂.athrowLeaves hexec (g := { g with stack := .ref a :: rest, pc := g.pc + 3 }) hg hlocked hentered hout (a := a) (rest := rest) rfl hd9
  have hlt : a < ((W0.setVm vm₁).setVm vm₂).heap.size := (Array.getElem?_eq_some_iff.mp hcell).1
  have hU := heapAt_setCell_self (s := (W0.setVm vm₁).setVm vm₂) (plainBareV T.toThrowableT (freshCell P1.m.cls kX) a u0 sen msg) hlt
  refine ⟨_, st1 _ (fun acts => ?_), hrun, hended, hWU, hsame.weaken (fun y hy hlt' => ?_) (Nat.le_refl _) (Nat.le_refl _), _, hU, hfound, rfl⟩
  · rw [doInvoke_state]
    exact st2 _ hwalk
  · rcases List.mem_append.mp hy with h1 | h1
    · exact h1
    · exfalso
      have hb : y.base = a := by
        simp only [List.mem_cons, List.not_mem_nil, or_false] at h1
        rcases h1 with rfl | rfl | rfl | rfl | rfl <;> rfl
      rw [hb] at hlt'
      exact Nat.not_lt.mpr hnew hlt'
end NX
section NXT
variable {p : Program} {l : Launch} {e : Env} {R : Room} {s : State} {m : MethodId} {args : Array Value} {below : List Frame} {meth : Method} {c : Code} {H : Heap} {locs : List Loc} {cells slots : Nat} {Q : State → Prop}
variable {mc ms : Nat} {free : Addr → Prop} {A0 A1 : Nat → Prop} {H0 : Heap} {a : Array Value} {ls : Array Slot} {st0 rest : List Value}
variable {Qc : Array Value → State → Outcome → State → Prop} {XC : String → State → State → Prop}
set_option maxHeartbeats 1000000 in
theorem nx_throwS {cc : ByteArray} {pc : Nat} (hexec : p.tables.exec = Jvm.exec) (hb : c.code = cc) (hl : l.stackTraces = false) {own cls text : String} {names : List String} {ik is ic ix mc ms sa : Nat} {rx : ByteArray} {A : Nat → Prop}
    (x0 : decode rx 0 = .ok (.aload_n 0, 1)) (x1 : decode rx 1 = .ok (.aload_n 1, 1)) (x2 : decode rx 2 = .ok (.invokespecial ix, 3)) (x5 : decode rx 5 = .ok (.return_, 1)) (hown : s.vm.findClass own = some m.cls) (hcls : Bundle.fit cls = true) (hnames : ∀ n ∈ names, Bundle.fit n = true)
    (hk : (Cond.classLink own ik cls).before args s = true) (hini : (Cond.initialized cls).before args s = true) (hstr : vk_R own is text sa s) (hat : ∀ w ∈ (Bundle.ownAtomsX own ic cls ix rx names).filter vx_no, w.before args s = true)
    (hgood : ∀ w ∈ Cond.classLink own ik cls :: Cond.initialized cls :: (Bundle.ownAtomsX own ic cls ix rx names).filter vx_no, vx_ot w = true)
    (hU : vx_Zq Bundle.tN "UNASSIGNED_STACK" Bundle.steD A s s.heap) (hN : vx_Zq Bundle.tN "SUPPRESSED_SENTINEL" Bundle.listD A s s.heap) (hS : va_S A s.heap H locs) (hsize : ls.size = c.maxLocals)
    (d0 : decode cc pc = .ok (.new ik, 3)) (d3 : decode cc (pc + 3) = .ok (.dup, 1)) (d4 : decode cc (pc + 4) = .ok (.ldc is, 2)) (d6 : decode cc (pc + 6) = .ok (.invokespecial ic, 3)) (d9 : decode cc (pc + 9) = .ok (.athrow, 1))
    (hout : ∀ x ∈ c.exceptionTable.toList, covers x (pc + 9) = false)
    (hRframes : names.length + 3 < R.frames) (hRlocals : (rest.map fun v => v.category).sum + (13 * (names.length + 1) + 43) ≤ R.locals) (hRcells : cells + 1 ≤ R.cells) (hRslots : slots + 6 ≤ R.slots) (hlocks : meth.locks = false)
    (hx : ∀ t : State, s.vm.Alike t.vm → H.size ≤ t.heap.size → (∀ q : Nat, q < H.size → t.heap[q]? = H[q]?) → XC cls s t)
    (hf : ∀ z ∈ locs, free z.base) (hc : cells + 1 ≤ mc) (hs : slots + 6 ≤ ms) :
    W p l e R s m args below meth c H locs cells slots (vx_MQ below Qc XC args s mc ms free) (F0 m pc ls rest) := by
  intro T hT X
  have htr : e.platform.stackTraces = false := (show e.platform.stackTraces = l.stackTraces by rw [X.admits.platform]).trans hl
  have Y := vx_rebase X (R' := { frames := R.frames, locals := R.locals, cells := 1, slots := 6 }) (Nat.le_refl _) (Nat.le_refl _) hRcells hRslots
  obtain ⟨s', hA⟩ : ∃ z, z = (T.setVm s.vm).setFrames (.invoking m args :: below) := ⟨_, rfl⟩
  rw [← hA] at Y
  have hvm : s'.vm = s.vm := by rw [hA]; rfl
  have hhp : s'.heap = H := by rw [hA]; exact hT
  have hW0 : s.WarmedH s'.vm := by rw [hvm]; exact State.WarmedH.refl s
  have hat' : ∀ w ∈ (Bundle.ownAtomsX own ic cls ix rx names).filter vx_no, w.before args s' = true := fun w hw => vx_ot_at hW0 hvm.symm (hgood w (List.mem_cons_of_mem _ (List.mem_cons_of_mem _ hw))) (hat w hw)
  have hk' : (Cond.classLink own ik cls).before args s' = true := vx_ot_at hW0 hvm.symm (hgood _ List.mem_cons_self) hk
  have hini' : (Cond.initialized cls).before args s' = true := vx_ot_at hW0 hvm.symm (hgood _ (List.mem_cons_of_mem _ List.mem_cons_self)) hini
  have hU' : vx_Zq Bundle.tN "UNASSIGNED_STACK" Bundle.steD A s' s'.heap := by rw [hhp]; exact vx_Zq.moved hW0.alike (hU.kept hS.2.1)
  have hN' : vx_Zq Bundle.tN "SUPPRESSED_SENTINEL" Bundle.listD A s' s'.heap := by rw [hhp]; exact vx_Zq.moved hW0.alike (hN.kept hS.2.1)
  have h : ∀ w ∈ Bundle.ownAtomsX own ic cls ix rx names, w.before args s' = true := vx_own hat' (vx_isRefq hU'.1) (vx_isRefq hN'.1) hU'.2.word hN'.2.word
  have hown' : s'.vm.findClass own = some m.cls := by rw [hvm]; exact hown
  have hins : (Cond.instantiable cls 6).before args s' = true := h _ (by simp [Bundle.ownAtomsX])
  obtain ⟨vm₁, cX, kX, hfX, hkX, -, -, X₁, st1⟩ := Y.newCold hexec (own := own) (C := cls) (index := ik) (n := 6) hown' hk' hins hini'
    (g := F0 m pc ls rest) rfl (by rw [hb]; exact d0) (Nat.le_refl _) (Nat.le_refl _)
  generalize hT1 : (T.setVm vm₁).pushCell { cls := cX, slots := kX.instanceTypes.map defaultValue, vm := .none } = T1 at X₁ st1
  have hcat : (Value.ref T.heap.size).category = 1 := rfl
  have hcellA : T1.heap[T.heap.size]? = some (freshCell cX kX) := by rw [← hT1]; exact State.heap_pushCell_size _ _
  have d3' : decode c.code (pc + 3) = .ok (.dup, 1) := by rw [hb]; exact d3
  have d4' : decode c.code (pc + 4) = .ok (.ldc is, 2) := by rw [hb]; exact d4
  have hstr' : vk_R own is text sa s' := vk_R.warm hW0 hstr
  obtain ⟨U, hsteps, hrun, hend, hW, hsame, ce, hce, hOc, hOv⟩ := nx_ctor X₁ hexec htr x0 x1 x2 x5 (own := own) (cls := cls) (names := names) (ic := ic) hown' hcls hnames h (fun x hx => nomatch hx) hfX hkX hcellA (by rw [hhp, hT]; exact Nat.le_refl _) (msg := .ref sa) rfl
    (g := { method := m, pc := pc + 6, locals := ls, stack := .ref sa :: .ref T.heap.size :: .ref T.heap.size :: rest, locked := none }) rfl hsize rfl rfl (rest := rest) rfl
    (by rw [hb]; exact d6) (by rw [hb]; exact d9) hout hRframes (by simp only [List.map_cons, List.sum_cons, hcat]; omega) hlocks
  obtain ⟨f1, f2⟩ := vx_frame hsame
  rw [hhp] at f1 f2
  have hWs : s.WarmedH U.vm := State.WarmedH.trans hW0 hW
  have hcl : s.vm.findClass cls = some ce.cls := by
    have h9 := hOc
    rw [hvm] at h9
    exact h9
  have hall : s.sameButNew ({ U with vm := s.vm } : State) locs mc ms := by
    subst hA
    obtain ⟨e1, e2⟩ := hsame
    rw [State.setFrames_setFrames] at e1
    have h2 : (T.setVm s.vm).sameButNew ({ U with vm := s.vm } : State) [] (0 + 1) (0 + 6) := ⟨e1, e2⟩
    have h3 := X.same.trans h2
    rw [List.append_nil] at h3
    exact h3.mono hc hs
  refine ⟨U, ?_, .threw T.heap.size, hrun, hend, Or.inr ⟨T.heap.size, rfl, cls, ce, locs, hx U hWs.alike f1 (fun q hq => f2 q hq (fun z hz => nomatch hz)), hce, hOv, hcl, hWs, hall, hf⟩⟩
  refine st1 _ ?_
  show Steps p.tables e below (T1.setTop { method := m, pc := pc + 3, locals := ls, stack := .ref T.heap.size :: rest, locked := none }) _
  jvm_step X₁.here [X₁.here.top, hexec, d3', Value.category]
  exact X₁.ldcString hexec (own := own) (text := text) (index := is) (a := sa) hown' hstr'.1 hstr'.2
    (g := { method := m, pc := pc + 4, locals := ls, stack := .ref T.heap.size :: .ref T.heap.size :: rest, locked := none }) rfl d4' _ hsteps
set_option maxHeartbeats 1000000 in
theorem nx_throwSW {cc : ByteArray} {pc : Nat} (hexec : p.tables.exec = Jvm.exec) (hb : c.code = cc) (hl : l.stackTraces = false) {own cls text : String} {names : List String} {ik is ic ix mc ms sa : Nat} {rx : ByteArray} {A : Nat → Prop}
    (x0 : decode rx 0 = .ok (.aload_n 0, 1)) (x1 : decode rx 1 = .ok (.aload_n 1, 1)) (x2 : decode rx 2 = .ok (.invokespecial ix, 3)) (x5 : decode rx 5 = .ok (.return_, 1)) (hown : s.vm.findClass own = some m.cls) (hcls : Bundle.fit cls = true) (hnames : ∀ n ∈ names, Bundle.fit n = true)
    (hk : (Cond.classLink own ik cls).before args s = true) (hini : (Cond.initialized cls).before args s = true) (hstr : vk_R own is text sa s) (hat : ∀ w ∈ (Bundle.ownAtomsX own ic cls ix rx names).filter vx_no, w.before args s = true)
    (hgood : ∀ w ∈ Cond.classLink own ik cls :: Cond.initialized cls :: (Bundle.ownAtomsX own ic cls ix rx names).filter vx_no, vx_ot w = true)
    (hU : vx_Zq Bundle.tN "UNASSIGNED_STACK" Bundle.steD A s s.heap) (hN : vx_Zq Bundle.tN "SUPPRESSED_SENTINEL" Bundle.listD A s s.heap) (hS : va_S A s.heap H locs) (hsize : ls.size = c.maxLocals)
    (d0 : decode cc pc = .ok (.new ik, 3)) (d3 : decode cc (pc + 3) = .ok (.dup, 1)) (d4 : decode cc (pc + 4) = .ok (.ldc_w is, 3)) (d7 : decode cc (pc + 7) = .ok (.invokespecial ic, 3)) (d10 : decode cc (pc + 10) = .ok (.athrow, 1))
    (hout : ∀ x ∈ c.exceptionTable.toList, covers x (pc + 10) = false)
    (hRframes : names.length + 3 < R.frames) (hRlocals : (rest.map fun v => v.category).sum + (13 * (names.length + 1) + 43) ≤ R.locals) (hRcells : cells + 1 ≤ R.cells) (hRslots : slots + 6 ≤ R.slots) (hlocks : meth.locks = false)
    (hx : ∀ t : State, s.vm.Alike t.vm → H.size ≤ t.heap.size → (∀ q : Nat, q < H.size → t.heap[q]? = H[q]?) → XC cls s t)
    (hf : ∀ z ∈ locs, free z.base) (hc : cells + 1 ≤ mc) (hs : slots + 6 ≤ ms) :
    W p l e R s m args below meth c H locs cells slots (vx_MQ below Qc XC args s mc ms free) (F0 m pc ls rest) := by
  intro T hT X
  have htr : e.platform.stackTraces = false := (show e.platform.stackTraces = l.stackTraces by rw [X.admits.platform]).trans hl
  have Y := vx_rebase X (R' := { frames := R.frames, locals := R.locals, cells := 1, slots := 6 }) (Nat.le_refl _) (Nat.le_refl _) hRcells hRslots
  obtain ⟨s', hA⟩ : ∃ z, z = (T.setVm s.vm).setFrames (.invoking m args :: below) := ⟨_, rfl⟩
  rw [← hA] at Y
  have hvm : s'.vm = s.vm := by rw [hA]; rfl
  have hhp : s'.heap = H := by rw [hA]; exact hT
  have hW0 : s.WarmedH s'.vm := by rw [hvm]; exact State.WarmedH.refl s
  have hat' : ∀ w ∈ (Bundle.ownAtomsX own ic cls ix rx names).filter vx_no, w.before args s' = true := fun w hw => vx_ot_at hW0 hvm.symm (hgood w (List.mem_cons_of_mem _ (List.mem_cons_of_mem _ hw))) (hat w hw)
  have hk' : (Cond.classLink own ik cls).before args s' = true := vx_ot_at hW0 hvm.symm (hgood _ List.mem_cons_self) hk
  have hini' : (Cond.initialized cls).before args s' = true := vx_ot_at hW0 hvm.symm (hgood _ (List.mem_cons_of_mem _ List.mem_cons_self)) hini
  have hU' : vx_Zq Bundle.tN "UNASSIGNED_STACK" Bundle.steD A s' s'.heap := by rw [hhp]; exact vx_Zq.moved hW0.alike (hU.kept hS.2.1)
  have hN' : vx_Zq Bundle.tN "SUPPRESSED_SENTINEL" Bundle.listD A s' s'.heap := by rw [hhp]; exact vx_Zq.moved hW0.alike (hN.kept hS.2.1)
  have h : ∀ w ∈ Bundle.ownAtomsX own ic cls ix rx names, w.before args s' = true := vx_own hat' (vx_isRefq hU'.1) (vx_isRefq hN'.1) hU'.2.word hN'.2.word
  have hown' : s'.vm.findClass own = some m.cls := by rw [hvm]; exact hown
  have hins : (Cond.instantiable cls 6).before args s' = true := h _ (by simp [Bundle.ownAtomsX])
  obtain ⟨vm₁, cX, kX, hfX, hkX, -, -, X₁, st1⟩ := Y.newCold hexec (own := own) (C := cls) (index := ik) (n := 6) hown' hk' hins hini'
    (g := F0 m pc ls rest) rfl (by rw [hb]; exact d0) (Nat.le_refl _) (Nat.le_refl _)
  generalize hT1 : (T.setVm vm₁).pushCell { cls := cX, slots := kX.instanceTypes.map defaultValue, vm := .none } = T1 at X₁ st1
  have hcat : (Value.ref T.heap.size).category = 1 := rfl
  have hcellA : T1.heap[T.heap.size]? = some (freshCell cX kX) := by rw [← hT1]; exact State.heap_pushCell_size _ _
  have d3' : decode c.code (pc + 3) = .ok (.dup, 1) := by rw [hb]; exact d3
  have d4' : decode c.code (pc + 4) = .ok (.ldc_w is, 3) := by rw [hb]; exact d4
  have hstr' : vk_R own is text sa s' := vk_R.warm hW0 hstr
  obtain ⟨U, hsteps, hrun, hend, hW, hsame, ce, hce, hOc, hOv⟩ := nx_ctor X₁ hexec htr x0 x1 x2 x5 (own := own) (cls := cls) (names := names) (ic := ic) hown' hcls hnames h (fun x hx => nomatch hx) hfX hkX hcellA (by rw [hhp, hT]; exact Nat.le_refl _) (msg := .ref sa) rfl
    (g := { method := m, pc := pc + 7, locals := ls, stack := .ref sa :: .ref T.heap.size :: .ref T.heap.size :: rest, locked := none }) rfl hsize rfl rfl (rest := rest) rfl
    (by rw [hb]; exact d7) (by rw [hb]; exact d10) hout hRframes (by simp only [List.map_cons, List.sum_cons, hcat]; omega) hlocks
  obtain ⟨f1, f2⟩ := vx_frame hsame
  rw [hhp] at f1 f2
  have hWs : s.WarmedH U.vm := State.WarmedH.trans hW0 hW
  have hcl : s.vm.findClass cls = some ce.cls := by
    have h9 := hOc
    rw [hvm] at h9
    exact h9
  have hall : s.sameButNew ({ U with vm := s.vm } : State) locs mc ms := by
    subst hA
    obtain ⟨e1, e2⟩ := hsame
    rw [State.setFrames_setFrames] at e1
    have h2 : (T.setVm s.vm).sameButNew ({ U with vm := s.vm } : State) [] (0 + 1) (0 + 6) := ⟨e1, e2⟩
    have h3 := X.same.trans h2
    rw [List.append_nil] at h3
    exact h3.mono hc hs
  refine ⟨U, ?_, .threw T.heap.size, hrun, hend, Or.inr ⟨T.heap.size, rfl, cls, ce, locs, hx U hWs.alike f1 (fun q hq => f2 q hq (fun z hz => nomatch hz)), hce, hOv, hcl, hWs, hall, hf⟩⟩
  refine st1 _ ?_
  show Steps p.tables e below (T1.setTop { method := m, pc := pc + 3, locals := ls, stack := .ref T.heap.size :: rest, locked := none }) _
  jvm_step X₁.here [X₁.here.top, hexec, d3', Value.category]
  exact X₁.ldcStringW hexec (own := own) (text := text) (index := is) (a := sa) hown' hstr'.1 hstr'.2
    (g := { method := m, pc := pc + 4, locals := ls, stack := .ref T.heap.size :: .ref T.heap.size :: rest, locked := none }) rfl d4' _ hsteps
end NXT
/-! laid by wip/p1/gen3.py: the words of the throws -/
def xw (w : Cond) : Prop := vx_no w = true → w ∈ lw_tbl ∧ gwOK w = true
theorem xw_in {w : Cond} (h : w ∈ lw_tbl) (g : gwOK w = true) : xw w := fun _ => ⟨h, g⟩
theorem xw_no {w : Cond} (h : vx_no w = false) : xw w := fun q => absurd (q.symm.trans h) (by decide)
theorem xw_thr : ∀ w ∈ Bundle.throwableAtoms, xw w := List.forall_mem_cons.mpr ⟨xw_in (in_t1 (List.mem_of_getElem? (i := 12) rfl)) rfl, List.forall_mem_cons.mpr ⟨xw_in (in_t3 (List.mem_of_getElem? (i := 94) rfl)) rfl, List.forall_mem_cons.mpr ⟨xw_in (in_t3 (List.mem_of_getElem? (i := 103) rfl)) rfl, List.forall_mem_cons.mpr ⟨xw_in (in_t3 (List.mem_of_getElem? (i := 108) rfl)) rfl, List.forall_mem_cons.mpr ⟨xw_in (in_t3 (List.mem_of_getElem? (i := 111) rfl)) rfl, List.forall_mem_cons.mpr ⟨xw_in (in_t3 (List.mem_of_getElem? (i := 113) rfl)) rfl, List.forall_mem_cons.mpr ⟨xw_in (in_t3 (List.mem_of_getElem? (i := 95) rfl)) rfl, List.forall_mem_cons.mpr ⟨xw_in (in_t3 (List.mem_of_getElem? (i := 96) rfl)) rfl, List.forall_mem_cons.mpr ⟨xw_in (in_t1 (List.mem_of_getElem? (i := 29) rfl)) rfl, List.forall_mem_cons.mpr ⟨xw_in (in_t1 (List.mem_of_getElem? (i := 30) rfl)) rfl, List.forall_mem_cons.mpr ⟨xw_in (in_t3 (List.mem_of_getElem? (i := 97) rfl)) rfl, List.forall_mem_cons.mpr ⟨xw_in (in_t3 (List.mem_of_getElem? (i := 102) rfl)) rfl, List.forall_mem_cons.mpr ⟨xw_in (in_t3 (List.mem_of_getElem? (i := 109) rfl)) rfl, List.forall_mem_cons.mpr ⟨xw_in (in_t3 (List.mem_of_getElem? (i := 129) rfl)) rfl, List.forall_mem_cons.mpr ⟨xw_in (in_t3 (List.mem_of_getElem? (i := 84) rfl)) rfl, List.forall_mem_cons.mpr ⟨xw_in (in_t3 (List.mem_of_getElem? (i := 130) rfl)) rfl, List.forall_mem_cons.mpr ⟨xw_in (in_t3 (List.mem_of_getElem? (i := 86) rfl)) rfl, List.forall_mem_cons.mpr ⟨xw_in (in_t3 (List.mem_of_getElem? (i := 131) rfl)) rfl, List.forall_mem_cons.mpr ⟨xw_in (in_t3 (List.mem_of_getElem? (i := 88) rfl)) rfl, List.forall_mem_cons.mpr ⟨xw_in (in_t3 (List.mem_of_getElem? (i := 98) rfl)) rfl, List.forall_mem_cons.mpr ⟨xw_no (by first | rfl | decide +kernel | simp [vx_no]), List.forall_mem_cons.mpr ⟨xw_in (in_t3 (List.mem_of_getElem? (i := 100) rfl)) rfl, List.forall_mem_cons.mpr ⟨xw_no (by first | rfl | decide +kernel | simp [vx_no]), List.forall_mem_cons.mpr ⟨xw_in (in_t3 (List.mem_of_getElem? (i := 90) rfl)) rfl, fun _ h => absurd h List.not_mem_nil⟩⟩⟩⟩⟩⟩⟩⟩⟩⟩⟩⟩⟩⟩⟩⟩⟩⟩⟩⟩⟩⟩⟩⟩
theorem xw_thS : ∀ w ∈ Bundle.throwableSAtoms, xw w := List.forall_mem_cons.mpr ⟨xw_in (in_t3 (List.mem_of_getElem? (i := 125) rfl)) rfl, List.forall_mem_cons.mpr ⟨xw_in (in_t3 (List.mem_of_getElem? (i := 126) rfl)) rfl, List.forall_mem_cons.mpr ⟨xw_in (in_t3 (List.mem_of_getElem? (i := 128) rfl)) rfl, List.forall_mem_cons.mpr ⟨xw_in (in_t3 (List.mem_of_getElem? (i := 90) rfl)) rfl, fun _ h => absurd h List.not_mem_nil⟩⟩⟩⟩
theorem xw_re : ∀ w ∈ Bundle.chainSAtoms "java/lang/RuntimeException" ["java/lang/Exception"], xw w := List.forall_mem_append.mpr ⟨List.forall_mem_cons.mpr ⟨xw_in (in_t3 (List.mem_of_getElem? (i := 119) rfl)) rfl, List.forall_mem_cons.mpr ⟨xw_in (in_t3 (List.mem_of_getElem? (i := 120) rfl)) rfl, List.forall_mem_cons.mpr ⟨xw_in (in_t3 (List.mem_of_getElem? (i := 121) rfl)) rfl, List.forall_mem_cons.mpr ⟨xw_in (in_t3 (List.mem_of_getElem? (i := 122) rfl)) rfl, List.forall_mem_cons.mpr ⟨xw_in (in_t3 (List.mem_of_getElem? (i := 78) rfl)) rfl, fun _ h => absurd h List.not_mem_nil⟩⟩⟩⟩⟩, List.forall_mem_cons.mpr ⟨xw_in (in_t3 (List.mem_of_getElem? (i := 122) rfl)) rfl, List.forall_mem_cons.mpr ⟨xw_in (in_t3 (List.mem_of_getElem? (i := 123) rfl)) rfl, List.forall_mem_cons.mpr ⟨xw_in (in_t3 (List.mem_of_getElem? (i := 124) rfl)) rfl, List.forall_mem_cons.mpr ⟨xw_in (in_t3 (List.mem_of_getElem? (i := 125) rfl)) rfl, List.forall_mem_cons.mpr ⟨xw_in (in_t3 (List.mem_of_getElem? (i := 80) rfl)) rfl, fun _ h => absurd h List.not_mem_nil⟩⟩⟩⟩⟩⟩
theorem xw_0 : ∀ w ∈ Bundle.ownAtomsX RX9 87 "java/lang/IllegalArgumentException" 7 prog_15_method_2_code xup, xw w := List.forall_mem_append.mpr ⟨List.forall_mem_append.mpr ⟨List.forall_mem_append.mpr ⟨xw_thr, xw_thS⟩, List.forall_mem_append.mpr ⟨List.forall_mem_cons.mpr ⟨xw_in (in_t3 (List.mem_of_getElem? (i := 116) rfl)) rfl, List.forall_mem_cons.mpr ⟨xw_in (in_t3 (List.mem_of_getElem? (i := 117) rfl)) rfl, List.forall_mem_cons.mpr ⟨xw_in (in_t3 (List.mem_of_getElem? (i := 118) rfl)) rfl, List.forall_mem_cons.mpr ⟨xw_in (in_t3 (List.mem_of_getElem? (i := 119) rfl)) rfl, List.forall_mem_cons.mpr ⟨xw_in (in_t3 (List.mem_of_getElem? (i := 76) rfl)) rfl, fun _ h => absurd h List.not_mem_nil⟩⟩⟩⟩⟩, xw_re⟩⟩, List.forall_mem_cons.mpr ⟨xw_in (in_t3 (List.mem_of_getElem? (i := 115) rfl)) rfl, List.forall_mem_cons.mpr ⟨xw_in (in_t3 (List.mem_of_getElem? (i := 73) rfl)) rfl, List.forall_mem_cons.mpr ⟨xw_in (in_t3 (List.mem_of_getElem? (i := 74) rfl)) rfl, List.forall_mem_cons.mpr ⟨xw_in (in_t3 (List.mem_of_getElem? (i := 81) rfl)) rfl, List.forall_mem_cons.mpr ⟨xw_in (in_t3 (List.mem_of_getElem? (i := 82) rfl)) rfl, List.forall_mem_cons.mpr ⟨xw_in (in_t3 (List.mem_of_getElem? (i := 83) rfl)) rfl, List.forall_mem_cons.mpr ⟨xw_in (in_t3 (List.mem_of_getElem? (i := 85) rfl)) rfl, List.forall_mem_cons.mpr ⟨xw_in (in_t3 (List.mem_of_getElem? (i := 87) rfl)) rfl, List.forall_mem_cons.mpr ⟨xw_in (in_t3 (List.mem_of_getElem? (i := 89) rfl)) rfl, List.forall_mem_cons.mpr ⟨xw_no (by first | rfl | decide +kernel | simp [vx_no]), List.forall_mem_cons.mpr ⟨xw_no (by first | rfl | decide +kernel | simp [vx_no]), List.forall_mem_cons.mpr ⟨xw_in (in_t3 (List.mem_of_getElem? (i := 93) rfl)) rfl, List.forall_mem_cons.mpr ⟨xw_in (in_t3 (List.mem_of_getElem? (i := 92) rfl)) rfl, List.forall_mem_cons.mpr ⟨xw_in (in_t3 (List.mem_of_getElem? (i := 91) rfl)) rfl, fun _ h => absurd h List.not_mem_nil⟩⟩⟩⟩⟩⟩⟩⟩⟩⟩⟩⟩⟩⟩⟩
theorem xw_1 : ∀ w ∈ Bundle.ownAtomsX RX9 109 "java/lang/IllegalStateException" 7 prog_16_method_2_code xup, xw w := List.forall_mem_append.mpr ⟨List.forall_mem_append.mpr ⟨List.forall_mem_append.mpr ⟨xw_thr, xw_thS⟩, List.forall_mem_append.mpr ⟨List.forall_mem_cons.mpr ⟨xw_in (in_t3 (List.mem_of_getElem? (i := 156) rfl)) rfl, List.forall_mem_cons.mpr ⟨xw_in (in_t3 (List.mem_of_getElem? (i := 157) rfl)) rfl, List.forall_mem_cons.mpr ⟨xw_in (in_t3 (List.mem_of_getElem? (i := 158) rfl)) rfl, List.forall_mem_cons.mpr ⟨xw_in (in_t3 (List.mem_of_getElem? (i := 119) rfl)) rfl, List.forall_mem_cons.mpr ⟨xw_in (in_t3 (List.mem_of_getElem? (i := 76) rfl)) rfl, fun _ h => absurd h List.not_mem_nil⟩⟩⟩⟩⟩, xw_re⟩⟩, List.forall_mem_cons.mpr ⟨xw_in (in_t3 (List.mem_of_getElem? (i := 155) rfl)) rfl, List.forall_mem_cons.mpr ⟨xw_in (in_t3 (List.mem_of_getElem? (i := 146) rfl)) rfl, List.forall_mem_cons.mpr ⟨xw_in (in_t3 (List.mem_of_getElem? (i := 147) rfl)) rfl, List.forall_mem_cons.mpr ⟨xw_in (in_t3 (List.mem_of_getElem? (i := 148) rfl)) rfl, List.forall_mem_cons.mpr ⟨xw_in (in_t3 (List.mem_of_getElem? (i := 105) rfl)) rfl, List.forall_mem_cons.mpr ⟨xw_in (in_t3 (List.mem_of_getElem? (i := 149) rfl)) rfl, List.forall_mem_cons.mpr ⟨xw_in (in_t3 (List.mem_of_getElem? (i := 150) rfl)) rfl, List.forall_mem_cons.mpr ⟨xw_in (in_t3 (List.mem_of_getElem? (i := 151) rfl)) rfl, List.forall_mem_cons.mpr ⟨xw_in (in_t3 (List.mem_of_getElem? (i := 152) rfl)) rfl, List.forall_mem_cons.mpr ⟨xw_no (by first | rfl | decide +kernel | simp [vx_no]), List.forall_mem_cons.mpr ⟨xw_no (by first | rfl | decide +kernel | simp [vx_no]), List.forall_mem_cons.mpr ⟨xw_in (in_t3 (List.mem_of_getElem? (i := 93) rfl)) rfl, List.forall_mem_cons.mpr ⟨xw_in (in_t3 (List.mem_of_getElem? (i := 92) rfl)) rfl, List.forall_mem_cons.mpr ⟨xw_in (in_t3 (List.mem_of_getElem? (i := 153) rfl)) rfl, fun _ h => absurd h List.not_mem_nil⟩⟩⟩⟩⟩⟩⟩⟩⟩⟩⟩⟩⟩⟩⟩
theorem xw_2 : ∀ w ∈ Bundle.ownAtomsX RX9 430 "java/lang/IndexOutOfBoundsException" 7 prog_17_method_2_code xup, xw w := List.forall_mem_append.mpr ⟨List.forall_mem_append.mpr ⟨List.forall_mem_append.mpr ⟨xw_thr, xw_thS⟩, List.forall_mem_append.mpr ⟨List.forall_mem_cons.mpr ⟨xw_in (in_t3 (List.mem_of_getElem? (i := 215) rfl)) rfl, List.forall_mem_cons.mpr ⟨xw_in (in_t3 (List.mem_of_getElem? (i := 216) rfl)) rfl, List.forall_mem_cons.mpr ⟨xw_in (in_t3 (List.mem_of_getElem? (i := 217) rfl)) rfl, List.forall_mem_cons.mpr ⟨xw_in (in_t3 (List.mem_of_getElem? (i := 119) rfl)) rfl, List.forall_mem_cons.mpr ⟨xw_in (in_t3 (List.mem_of_getElem? (i := 76) rfl)) rfl, fun _ h => absurd h List.not_mem_nil⟩⟩⟩⟩⟩, xw_re⟩⟩, List.forall_mem_cons.mpr ⟨xw_in (in_t3 (List.mem_of_getElem? (i := 214) rfl)) rfl, List.forall_mem_cons.mpr ⟨xw_in (in_t3 (List.mem_of_getElem? (i := 205) rfl)) rfl, List.forall_mem_cons.mpr ⟨xw_in (in_t3 (List.mem_of_getElem? (i := 206) rfl)) rfl, List.forall_mem_cons.mpr ⟨xw_in (in_t3 (List.mem_of_getElem? (i := 207) rfl)) rfl, List.forall_mem_cons.mpr ⟨xw_in (in_t3 (List.mem_of_getElem? (i := 106) rfl)) rfl, List.forall_mem_cons.mpr ⟨xw_in (in_t3 (List.mem_of_getElem? (i := 208) rfl)) rfl, List.forall_mem_cons.mpr ⟨xw_in (in_t3 (List.mem_of_getElem? (i := 209) rfl)) rfl, List.forall_mem_cons.mpr ⟨xw_in (in_t3 (List.mem_of_getElem? (i := 210) rfl)) rfl, List.forall_mem_cons.mpr ⟨xw_in (in_t3 (List.mem_of_getElem? (i := 211) rfl)) rfl, List.forall_mem_cons.mpr ⟨xw_no (by first | rfl | decide +kernel | simp [vx_no]), List.forall_mem_cons.mpr ⟨xw_no (by first | rfl | decide +kernel | simp [vx_no]), List.forall_mem_cons.mpr ⟨xw_in (in_t3 (List.mem_of_getElem? (i := 93) rfl)) rfl, List.forall_mem_cons.mpr ⟨xw_in (in_t3 (List.mem_of_getElem? (i := 92) rfl)) rfl, List.forall_mem_cons.mpr ⟨xw_in (in_t3 (List.mem_of_getElem? (i := 212) rfl)) rfl, fun _ h => absurd h List.not_mem_nil⟩⟩⟩⟩⟩⟩⟩⟩⟩⟩⟩⟩⟩⟩⟩
theorem xw_3 : ∀ w ∈ Bundle.ownAtomsX RX9 443 "java/util/NoSuchElementException" 13 prog_25_method_4_code xup, xw w := List.forall_mem_append.mpr ⟨List.forall_mem_append.mpr ⟨List.forall_mem_append.mpr ⟨xw_thr, xw_thS⟩, List.forall_mem_append.mpr ⟨List.forall_mem_cons.mpr ⟨xw_in (in_t4 (List.mem_of_getElem? (i := 29) rfl)) rfl, List.forall_mem_cons.mpr ⟨xw_in (in_t4 (List.mem_of_getElem? (i := 30) rfl)) rfl, List.forall_mem_cons.mpr ⟨xw_in (in_t4 (List.mem_of_getElem? (i := 31) rfl)) rfl, List.forall_mem_cons.mpr ⟨xw_in (in_t3 (List.mem_of_getElem? (i := 119) rfl)) rfl, List.forall_mem_cons.mpr ⟨xw_in (in_t3 (List.mem_of_getElem? (i := 76) rfl)) rfl, fun _ h => absurd h List.not_mem_nil⟩⟩⟩⟩⟩, xw_re⟩⟩, List.forall_mem_cons.mpr ⟨xw_in (in_t4 (List.mem_of_getElem? (i := 28) rfl)) rfl, List.forall_mem_cons.mpr ⟨xw_in (in_t4 (List.mem_of_getElem? (i := 19) rfl)) rfl, List.forall_mem_cons.mpr ⟨xw_in (in_t4 (List.mem_of_getElem? (i := 20) rfl)) rfl, List.forall_mem_cons.mpr ⟨xw_in (in_t4 (List.mem_of_getElem? (i := 21) rfl)) rfl, List.forall_mem_cons.mpr ⟨xw_in (in_t3 (List.mem_of_getElem? (i := 107) rfl)) rfl, List.forall_mem_cons.mpr ⟨xw_in (in_t4 (List.mem_of_getElem? (i := 22) rfl)) rfl, List.forall_mem_cons.mpr ⟨xw_in (in_t4 (List.mem_of_getElem? (i := 23) rfl)) rfl, List.forall_mem_cons.mpr ⟨xw_in (in_t4 (List.mem_of_getElem? (i := 24) rfl)) rfl, List.forall_mem_cons.mpr ⟨xw_in (in_t4 (List.mem_of_getElem? (i := 25) rfl)) rfl, List.forall_mem_cons.mpr ⟨xw_no (by first | rfl | decide +kernel | simp [vx_no]), List.forall_mem_cons.mpr ⟨xw_no (by first | rfl | decide +kernel | simp [vx_no]), List.forall_mem_cons.mpr ⟨xw_in (in_t3 (List.mem_of_getElem? (i := 93) rfl)) rfl, List.forall_mem_cons.mpr ⟨xw_in (in_t3 (List.mem_of_getElem? (i := 92) rfl)) rfl, List.forall_mem_cons.mpr ⟨xw_in (in_t4 (List.mem_of_getElem? (i := 26) rfl)) rfl, fun _ h => absurd h List.not_mem_nil⟩⟩⟩⟩⟩⟩⟩⟩⟩⟩⟩⟩⟩⟩⟩
def xix (e : Nat) : Nat := match e with
  | 0 => 7
  | 1 => 7
  | 2 => 7
  | 3 => 13
  | _ => 0
def xrx (e : Nat) : ByteArray := match e with
  | 0 => prog_15_method_2_code
  | 1 => prog_16_method_2_code
  | 2 => prog_17_method_2_code
  | 3 => prog_25_method_4_code
  | _ => ByteArray.empty
theorem xw_all : ∀ e, e < 4 → ∀ w ∈ Bundle.ownAtomsX RX9 (xic e) (xnm.getD e "") (xix e) (xrx e) xup, xw w
  | 0, _ => xw_0
  | 1, _ => xw_1
  | 2, _ => xw_2
  | 3, _ => xw_3
  | n + 4, h => absurd h (by omega)
theorem xfit : ∀ e, e < 4 → Bundle.fit (xnm.getD e "") = true := by decide +kernel
theorem xfit2 : ∀ n ∈ xup, Bundle.fit n = true := by decide +kernel
theorem xd0 : ∀ e, e < 4 → decode (xrx e) 0 = .ok (.aload_n 0, 1) := by decide +kernel
theorem xd1 : ∀ e, e < 4 → decode (xrx e) 1 = .ok (.aload_n 1, 1) := by decide +kernel
theorem xd2 : ∀ e, e < 4 → decode (xrx e) 2 = .ok (.invokespecial (xix e), 3) := by decide +kernel
theorem xd5 : ∀ e, e < 4 → decode (xrx e) 5 = .ok (.return_, 1) := by decide +kernel
def xct (e : Nat) : Nat := match e with
  | 0 => 13
  | 1 => 15
  | 2 => 32
  | 3 => 44
  | _ => 0
theorem xct_ok : ∀ e, e < 4 → Cond.classLink RL (xct e) (xnm.getD e "") ∈ lw_tbl
  | 0, _ => in_t3 (List.mem_of_getElem? (i := 63) rfl)
  | 1, _ => in_t3 (List.mem_of_getElem? (i := 64) rfl)
  | 2, _ => in_t3 (List.mem_of_getElem? (i := 195) rfl)
  | 3, _ => in_t4 (List.mem_of_getElem? (i := 10) rfl)
  | n + 4, h => absurd h (by omega)
theorem xcs_ok : ∀ e, e < 4 → Cond.castable (xnm.getD e "") (xnm.getD e "") ∈ lw_tbl
  | 0, _ => in_t3 (List.mem_of_getElem? (i := 74) rfl)
  | 1, _ => in_t3 (List.mem_of_getElem? (i := 147) rfl)
  | 2, _ => in_t3 (List.mem_of_getElem? (i := 206) rfl)
  | 3, _ => in_t4 (List.mem_of_getElem? (i := 20) rfl)
  | n + 4, h => absurd h (by omega)
/-- the rows of the tables of exceptions: caught, put away, a number is returned -/
def hkOK (cc : ByteArray) (nL : Nat) (r : (Nat × Nat × Nat × Int) × Nat × Nat) : Bool :=
  decide (r.1.2.2.1 < 4) && r.2.2 == xct r.1.2.2.1 && ((List.range 16).any (fun k => dcd cc r.2.1 (.astore k) 2 && decide (k < nL) && dcd cc (r.2.1 + 2) (.iconst r.1.2.2.2) 1 && dcd cc (r.2.1 + 3) .ireturn 1) || ([0, 1, 2, 3] : List (Fin 4)).any (fun k => dcd cc r.2.1 (.astore_n k) 1 && decide ((k : Nat) < nL) && dcd cc (r.2.1 + 1) (.iconst r.1.2.2.2) 1 && dcd cc (r.2.1 + 2) .ireturn 1))
noncomputable def hqOK (q : Nat × List ((Nat × Nat × Nat × Int) × Nat × Nat)) : Bool := match MT[q.1]? with
  | some M => q.2.all (hkOK (pB M) (pL M)) && decide (pR M = some .int) && decide (pO M = 11)
  | none => false
set_option maxRecDepth 100000 in
theorem HDq_ok : HDq.all hqOK = true := by decide +kernel
theorem nw_on {w : Cond} (h : nwOK w = true) : w.onTables = true := by
  cases w <;> first | rfl | (exact absurd h (by simp [nwOK]))
section FN2
variable {p : Program} {l : Launch} {e : Env} {R : Room} {s : State} {m : MethodId} {args : Array Value} {below : List Frame} {meth : Method} {c : Code} {D : va_G} {cy : Nat → ClassId} {b : Option Nat} {S : Nat × (Nat → Int32)} {M : PM} {ws0 : va_W} {n : Nat}
theorem xc_of {Q : Rs → PH → Prop} {E : String} {x : Nat} {h : PH} {ws : va_W} {H : Heap} {locs : List Loc} (hI : INV D cy (va_A ws0 s.heap.size) b s ws0 h ws H locs) (hxe : xnm[x]? = some E) (hq : Q (.inr x) h) (t : State) (h1 : H.size ≤ t.heap.size) (h2 : ∀ q : Nat, q < H.size → t.heap[q]? = H[q]?) : XcP D cy b ws0 s.heap.size Q E s t := by
  obtain ⟨hex, hrE, hP, hD, hS⟩ := hI
  exact ⟨⟨x, h, ws, hxe, hq, hex, hrE, hP.kept (fun k q hk => h2 q.1 (hP k q hk).lt), hD⟩, Nat.le_trans hS.1 h1, fun q q1 q2 => (h2 q (Nat.lt_of_lt_of_le q1 hS.1)).trans (hS.2.1 q q1 q2)⟩
theorem hx_plain {Q : Rs → PH → Prop} (hlocks : meth.locks = false) (htab : ∀ x ∈ c.exceptionTable.toList, False) :
    HXt p l e R s m args below meth c D cy (va_A ws0 s.heap.size) b M ws0 (vx_MQ below (QcP D cy b ws0 s.heap.size Q) (XcP D cy b ws0 s.heap.size Q) args s (pC M) (pS M) (va_A ws0 s.heap.size)) [] Q := by
  intro E ce q9 x pc ls rest lv' h ws H locs cells slots hxe hsome hnone hl hI hce hcv hcf hcl hsl
  exact vx_out (fun y hy => (htab y hy).elim) hlocks hce hcv hcf (fun t ht _ => xc_of hI hxe (hnone rfl) t (by rw [ht]; exact Nat.le_refl _) (fun q _ => by rw [ht])) hI.2.2.2.2.2.2 hcl hsl
theorem hn_of {Q : Rs → PH → Prop} {hd : List (Nat × Nat × Nat × Int)} (hc : CX p l R s m args meth c D cy (va_A ws0 s.heap.size) b S M n) (hlocks : meth.locks = false) (htab : pO M = 9 → ∀ x ∈ c.exceptionTable.toList, False) :
    HNt p l e R s m args below meth c D cy (va_A ws0 s.heap.size) b M ws0 (vx_MQ below (QcP D cy b ws0 s.heap.size Q) (XcP D cy b ws0 s.heap.size Q) args s (pC M) (pS M) (va_A ws0 s.heap.size)) hd Q := by
  obtain ⟨hx, hb, hmax, hown, hts, hXK, hA, hini, hRc, hRs, hRf, hRl, htr⟩ := hc
  intro i a pc x ls rest lv' h ws H locs cells slots hdg hxok hxl h0 hq hsum hl hI hcl hsl
  simp only [xok, hxl, Bool.and_eq_true, beq_iff_eq, decide_eq_true_eq, dcd] at hxok
  obtain ⟨⟨⟨⟨⟨⟨ho, hi⟩, hic⟩, hx4⟩, ho9⟩, hd3⟩, hrest⟩ := hxok
  have htab := htab ho9
  have hownE : cnm.getD (pO M) "" = RX9 := by rw [ho9]; rfl
  rw [hownE] at hown
  have hE : xnm[x.2.2.1]? = some (xnm.getD x.2.2.1 "") := by
    rw [List.getD, List.getElem?_eq_getElem (show x.2.2.1 < xnm.length from hx4)]; rfl
  have hmem := List.mem_of_getElem? hxl
  have hk : (Cond.classLink RX9 i (xnm.getD x.2.2.1 "")).before args s = true := by
    have h1 := XL_ok x hmem
    have e1 : xlW x = Cond.classLink RX9 i (xnm.getD x.2.2.1 "") := by
      unfold xlW
      rw [ho, hownE, hi]
    rw [e1] at h1
    exact hts _ (TBL_of h1)
  have hini2 : (Cond.initialized (xnm.getD x.2.2.1 "")).before args s = true := hts _ (TBL_of (INx_ok _ (List.mem_of_getElem? hE)))
  obtain ⟨tx, sa, hstr⟩ := hXK.2.2.2.2.2.1 x hmem
  have hxw := xw_all x.2.2.1 hx4
  have hat : ∀ w ∈ (Bundle.ownAtomsX RX9 (xic x.2.2.1) (xnm.getD x.2.2.1 "") (xix x.2.2.1) (xrx x.2.2.1) xup).filter vx_no, w.before args s = true ∧ vx_ot w = true := by
    intro w hw
    obtain ⟨h1, h2⟩ := List.mem_filter.mp hw
    obtain ⟨h3, h4⟩ := hxw w h1 h2
    simp only [gwOK, Bool.or_eq_true] at h4
    rcases h4 with h4 | h4
    · exact ⟨hts _ (TBL_of ⟨h3, h4⟩), by simp [vx_ot, h4]⟩
    · exact ⟨va_Nw.use (nw_on h4) (hXK.2.1 w h3 h4), by simp [vx_ot, nw_on h4]⟩
  have hgood : ∀ w ∈ Cond.classLink RX9 i (xnm.getD x.2.2.1 "") :: Cond.initialized (xnm.getD x.2.2.1 "") :: (Bundle.ownAtomsX RX9 (xic x.2.2.1) (xnm.getD x.2.2.1 "") (xix x.2.2.1) (xrx x.2.2.1) xup).filter vx_no, vx_ot w = true := by
    intro w hw
    rcases List.mem_cons.mp hw with rfl | hw
    · rfl
    · rcases List.mem_cons.mp hw with rfl | hw
      · rfl
      · exact (hat w hw).2
  have hXc : ∀ t : State, s.vm.Alike t.vm → H.size ≤ t.heap.size → (∀ q : Nat, q < H.size → t.heap[q]? = H[q]?) → XcP D cy b ws0 s.heap.size Q (xnm.getD x.2.2.1 "") s t := fun t _ g1 g2 => xc_of hI hE hq t g1 g2
  have hS := hI.2.2.2.2
  by_cases hw : x.2.2.2.1 = 1
  · rw [if_pos hw] at hrest
    simp only [Bool.and_eq_true, decide_eq_true_eq] at hrest
    obtain ⟨⟨hd4, hd7⟩, hd10⟩ := hrest
    rw [hic] at hd7
    exact nx_throwSW hx hb htr (xd0 _ hx4) (xd1 _ hx4) (xd2 _ hx4) (xd5 _ hx4) hown (xfit _ hx4) xfit2 hk hini2 hstr (fun w hw => (hat w hw).1) hgood hXK.2.2.2.2.1.1 hXK.2.2.2.2.1.2 hS (hl.1.trans hmax.symm) hdg hd3 hd4 hd7 hd10 (fun y hy => (htab y hy).elim) (by show 2 + 3 < _; omega) (by show _ + (13 * (2 + 1) + 43) ≤ _; omega) (Nat.le_trans hcl hRc) (Nat.le_trans hsl hRs) hlocks hXc hS.2.2 hcl hsl
  · rw [if_neg hw] at hrest
    simp only [Bool.and_eq_true, decide_eq_true_eq] at hrest
    obtain ⟨⟨hd4, hd6⟩, hd9⟩ := hrest
    rw [hic] at hd6
    exact nx_throwS hx hb htr (xd0 _ hx4) (xd1 _ hx4) (xd2 _ hx4) (xd5 _ hx4) hown (xfit _ hx4) xfit2 hk hini2 hstr (fun w hw => (hat w hw).1) hgood hXK.2.2.2.2.1.1 hXK.2.2.2.2.1.2 hS (hl.1.trans hmax.symm) hdg hd3 hd4 hd6 hd9 (fun y hy => (htab y hy).elim) (by show 2 + 3 < _; omega) (by show _ + (13 * (2 + 1) + 43) ≤ _; omega) (Nat.le_trans hcl hRc) (Nat.le_trans hsl hRs) hlocks hXc hS.2.2 hcl hsl
/-- a row of a table beside the machine's -/
def ent (r : (Nat × Nat × Nat × Int) × Nat × Nat) : ExceptionTableEntry := ⟨r.1.1, r.1.2.1, r.2.1, r.2.2⟩
theorem hx_wrap {Q : Rs → PH → Prop} {rows : List ((Nat × Nat × Nat × Int) × Nat × Nat)} (hc : CX p l R s m args meth c D cy (va_A ws0 s.heap.size) b S M n) (hlocks : meth.locks = false) (hret : meth.sig.returnType = pR M) (hO : pO M = 11) (hri : pR M = some .int) (hrows : ∀ r ∈ rows, hkOK (pB M) (pL M) r = true) (htab : c.exceptionTable.toList = rows.map ent) :
    HXt p l e R s m args below meth c D cy (va_A ws0 s.heap.size) b M ws0 (vx_MQ below (QcP D cy b ws0 s.heap.size Q) (XcP D cy b ws0 s.heap.size Q) args s (pC M) (pS M) (va_A ws0 s.heap.size)) (rows.map Prod.fst) Q := by
  have hRR := hr_of (e := e) (below := below) (Q := Q) (ws0 := ws0) hc hret hlocks
  obtain ⟨hx, hb, hmax, hown, hts, hXK, hA, hini, hRc, hRs, hRf, hRl, htr⟩ := hc
  have hownE : cnm.getD (pO M) "" = RL := by rw [hO]; rfl
  rw [hownE] at hown
  intro E ce q9 x pc ls rest lv' h ws H locs cells slots hxe hsome hnone hl hI hce hcv hcf hcl hsl
  have hxlt : x < 4 := (List.getElem?_eq_some_iff.mp hxe).1
  have hEe : ∀ y, y < 4 → xnm[y]? = some (xnm.getD y "") := fun y hy => by
    rw [List.getD, List.getElem?_eq_getElem (show y < xnm.length from hy)]; rfl
  have hE : E = xnm.getD x "" := Option.some.inj (hxe.symm.trans (hEe x hxlt))
  have hpass : ∀ r ∈ rows, (decide (r.1.1 ≤ pc) && decide (pc < r.1.2.1) && r.1.2.2.1 == x) = false → covers (ent r) pc = false ∨ ((ent r).catchType ≠ 0 ∧ ∃ nm : String, (Cond.classLink RL (ent r).catchType nm).before args s = true ∧ va_Nc E nm s) := by
    intro r hr hno
    have hk := hrows r hr
    simp only [hkOK, Bool.and_eq_true, decide_eq_true_eq, beq_iff_eq] at hk
    obtain ⟨⟨h4, hct⟩, -⟩ := hk
    by_cases hcv2 : covers (ent r) pc = true
    · right
      have hne : r.1.2.2.1 ≠ x := by
        intro q
        have h9 : (decide (r.1.1 ≤ pc) && decide (pc < r.1.2.1)) = true := hcv2
        rw [h9, q] at hno
        simp at hno
      refine ⟨?_, xnm.getD r.1.2.2.1 "", ?_, ?_⟩
      · show r.2.2 ≠ 0
        rw [hct]
        exact (by decide : ∀ y, y < 4 → xct y ≠ 0) _ h4
      · show (Cond.classLink RL r.2.2 _).before args s = true
        rw [hct]
        exact hts _ (TBL_of ⟨xct_ok _ h4, rfl⟩)
      · exact hXK.2.2.2.2.2.2.2 x _ E _ hxe (hEe _ h4) (fun q => hne q.symm)
    · left; simpa using hcv2
  cases hpc : p_catch (rows.map Prod.fst) pc x with
  | none =>
    have hall : ∀ r ∈ rows, (decide (r.1.1 ≤ pc) && decide (pc < r.1.2.1) && r.1.2.2.1 == x) = false := by
      intro r hr
      simp only [p_catch, Option.map_eq_none_iff, List.find?_eq_none] at hpc
      have h9 := hpc r.1 (List.mem_map_of_mem hr)
      simpa using h9
    refine vx_outP hown hlocks (fun z hz => ?_) hce hcv hcf (fun t ht _ => xc_of hI hxe (hnone hpc) t (by rw [ht]; exact Nat.le_refl _) (fun q _ => by rw [ht])) hI.2.2.2.2.2.2 hcl hsl
    rw [htab] at hz
    obtain ⟨r, hr, rfl⟩ := List.mem_map.mp hz
    exact hpass r hr (hall r hr)
  | some z =>
    have hQ := hsome z hpc
    simp only [p_catch, Option.map_eq_some_iff] at hpc
    obtain ⟨q, hq, rfl⟩ := hpc
    rw [List.find?_map, Option.map_eq_some_iff] at hq
    obtain ⟨r, hr, rfl⟩ := hq
    rw [List.find?_eq_some_iff_append] at hr
    obtain ⟨hyes, pre, suf, hsplit, hno⟩ := hr
    have hyes : (decide (r.1.1 ≤ pc) && decide (pc < r.1.2.1) && r.1.2.2.1 == x) = true := hyes
    have hrm : r ∈ rows := by rw [hsplit]; simp
    have hk := hrows r hrm
    simp only [hkOK, Bool.and_eq_true, decide_eq_true_eq, beq_iff_eq] at hk
    obtain ⟨⟨h4, hct⟩, hcode⟩ := hk
    simp only [Bool.and_eq_true, beq_iff_eq] at hyes
    obtain ⟨hcov, hxx⟩ := hyes
    refine vx_catch (own := RL) (name := xnm.getD r.1.2.2.1 "") (E := E) hown (pre.map ent) (ent r) (suf.map ent) (by rw [htab, hsplit]; simp) (fun z hz => ?_) (by show (decide (r.1.1 ≤ pc) && decide (pc < r.1.2.1)) = true; rw [hcov.1, hcov.2]; rfl) ?_ ?_ ?_ hce hcv hcf ?_
    · obtain ⟨r', hr', rfl⟩ := List.mem_map.mp hz
      refine hpass r' (by rw [hsplit]; simp [hr']) ?_
      have h9 : (!(decide (r'.1.1 ≤ pc) && decide (pc < r'.1.2.1) && r'.1.2.2.1 == x)) = true := hno r' hr'
      rwa [Bool.not_eq_true'] at h9
    · show r.2.2 ≠ 0
      rw [hct]
      exact (by decide : ∀ y, y < 4 → xct y ≠ 0) _ h4
    · show (Cond.classLink RL r.2.2 _).before args s = true
      rw [hct]
      exact hts _ (TBL_of ⟨xct_ok _ h4, rfl⟩)
    · rw [hE, hxx]
      exact va_Nw.use rfl (hXK.2.1 _ (xcs_ok x hxlt) rfl)
    · have hret9 : ∀ (pc9 : Nat) (ls9 : Array Slot), decode (pB M) pc9 = .ok (.ireturn, 1) → W p l e R s m args below meth c H locs cells slots (vx_MQ below (QcP D cy b ws0 s.heap.size Q) (XcP D cy b ws0 s.heap.size Q) args s (pC M) (pS M) (va_A ws0 s.heap.size)) (F0 m pc9 ls9 [.int (Int32.ofInt r.1.2.2.2)]) := fun pc9 ls9 hd9 =>
        hRR .ireturn pc9 ls9 (some (.int (Int32.ofInt r.1.2.2.2))) (some (.int (Int32.ofInt r.1.2.2.2))) h ws H locs cells slots hd9 ⟨.int, hri, vp_nar_int _⟩ hQ ⟨_, _, rfl, rfl, rfl⟩ hI hcl hsl
      rw [Bool.or_eq_true, List.any_eq_true, List.any_eq_true] at hcode
      rcases hcode with ⟨k, -, hk⟩ | ⟨k, -, hk⟩
      · simp only [Bool.and_eq_true, decide_eq_true_eq, dcd] at hk
        obtain ⟨⟨⟨k1, k2⟩, k3⟩, k4⟩ := hk
        exact lv_astore hx hb k1 hl k2 rfl (fun ls2 hl2 => lv_iconst hx hb k3 rfl (hret9 _ _ k4))
      · simp only [Bool.and_eq_true, decide_eq_true_eq, dcd] at hk
        obtain ⟨⟨⟨k1, k2⟩, k3⟩, k4⟩ := hk
        exact lv_astore_n hx hb k1 rfl hl k2 rfl (fun ls2 hl2 => lv_iconst hx hb k3 rfl (hret9 _ _ k4))
end FN2
/-! every method, by the number of calls that may be open -/
theorem hd_rows (μ : Nat) : ∃ rows, hdOf μ = rows.map Prod.fst ∧ tableOf (hhOf μ) = rows.map ent ∧ (rows = [] ∨ ∀ N, MT[μ]? = some N → (∀ r ∈ rows, hkOK (pB N) (pL N) r = true) ∧ pR N = some .int ∧ pO N = 11) := by
  cases hf : HDq.find? (fun q => q.1 == μ) with
  | none => exact ⟨[], by simp [hdOf, hf], by simp [hhOf, hf, tableOf], Or.inl rfl⟩
  | some q =>
    refine ⟨q.2, by simp [hdOf, hf], by simp [hhOf, hf, tableOf, ent], Or.inr fun N hN => ?_⟩
    have h1 := List.all_eq_true.mp HDq_ok q (List.mem_of_find?_eq_some hf)
    have h2 : q.1 = μ := by have h3 := List.find?_some hf; simpa using h3
    simp only [hqOK, h2, hN, Bool.and_eq_true, decide_eq_true_eq, List.all_eq_true] at h1
    exact ⟨h1.1.1, h1.1.2, h1.2⟩
theorem HD_wr : ∀ (μ : Nat) (N : PM), MT[μ]? = some N → pK N = 3 → pR N = some .int ∧ pO N = 11 := by
  intro μ N hN hk
  have h1 : MT.all (fun N => !(pK N == 3) || (decide (pR N = some .int) && decide (pO N = 11))) = true := by decide +kernel
  have h2 := List.all_eq_true.mp h1 N (List.mem_of_getElem? hN)
  simp only [hk, beq_self_eq_true, Bool.not_true, Bool.false_or, Bool.and_eq_true, decide_eq_true_eq] at h2
  exact h2
set_option maxHeartbeats 1000000 in
theorem sound_n {l : Launch} (htr : l.stackTraces = false) (D : va_G) (cy : Nat → ClassId) (b : Option Nat) (S : Nat × (Nat → Int32)) : ∀ (n μ : Nat) (N : PM) (av : List Value) (h : PH) (Q : Rs → PH → Prop), MT[μ]? = some N → ¬ pK N = 4 → Ex S n μ av h Q → CT l D cy b S n μ N av h Q
  | 0, _, _, _, _, _, _, _, H => H.elim
  | n + 1, μ, N, av, h, Q, hN, hk4, H => by
    obtain ⟨M', hM', hcat, HB⟩ := H
    cases Option.some.inj (hN.symm.trans hM')
    have hw := MT_w hN
    have hmem := List.mem_of_getElem? hN
    have hokn : mOK N = true := (MT_ok N hmem).resolve_left hk4
    have hpl := plain_all N hmem
    intro av' ws sz hav hrE
    have hcl : (cnm.getD (pO N) "") = (pY N).cls := by rw [List.getD, hw.1]; rfl
    have hlen : (lg_sl av').length ≤ pL N := by
      rw [sl_len]
      have h9 := A2.cats hav
      rw [show av'.map Value.category = av.map Value.category from h9]
      exact hcat
    refine px_of (cc := pB N) (maxL := pL N) (ret := pR N) hpl ?_ ?_
    · intro args s m hpre hnm
      have hat := atoms_spec (ws := wsN μ N) hpre
      by_cases hk3 : pK N = 3
      · have hcw := hat (Cond.codeWith (pY N) (pB N) (pL N) (pR N) (hhOf μ)) (by unfold wsN; rw [if_pos hk3]; exact List.mem_cons_self)
        obtain ⟨m9, meth, c, hn9, h1, h2, h3, h4, -, h5, h6, -⟩ := Cond.codeWith_spec hcw
        cases hnm.symm.trans hn9
        exact ⟨meth, c, h1, h2, h3, h4, h5, h6⟩
      · have hcw := hat (codeOf N) (by unfold wsN; rw [if_neg hk3]; exact List.mem_cons_self)
        obtain ⟨meth, c, h1, h2, h3, h4, h5, h6, -, -⟩ := Cond.code_spec hnm hcw
        exact ⟨meth, c, h1, h2, h3, h4, h5, h6⟩
    · intro p e s m args below meth c s₁ B hml hv
      obtain ⟨rfl, hsz, hP, hD0, hXK⟩ := hv
      subst hsz
      have hts0 := atoms_spec (ws := wsN μ N) B.pre
      have hts : ∀ w ∈ TBL, w.before av'.toArray s = true := fun w hw => hts0 w (List.mem_cons_of_mem _ hw)
      have hown : s.vm.findClass (cnm.getD (pO N) "") = some m.cls := by rw [hcl]; exact findClass_of_methodNamed B.named
      have hini : pK N = 2 → meth.name = "<init>" := fun hk2 => by
        have h1 := (name_of_methodNamed B.named B.method).1
        have h2 := hw.2
        rw [hk2] at h2
        rw [h1]
        exact h2.2.2.1
      have hc : CX p l (headSpec (wsN μ N) (rmN (n + 1) N)).room s m av'.toArray meth c D cy (va_A ws s.heap.size) b S N n := ⟨B.exec, B.bytes, hml, hown, hts, hXK, fun q hq => Or.inr hq, hini, Nat.le_refl _, Nat.le_refl _, (by show n + 9 ≤ n + 1 + 8; omega), (by show 40 * n + 240 ≤ 40 * (n + 1) + 200; omega), htr⟩
      have hR := hr_of (e := e) (below := below) (Q := Q) hc B.returns B.notSynchronized
      have hl := lv_entry av' (n := pL N) hlen
      have hrL := rl_args 0 hav
      have hI : INV D cy (va_A ws s.heap.size) b s ws h ws s.heap [] := ⟨fun _ _ q => q, hrE, hP, hD0.self, va_S.rf⟩
      rw [lg_entry_eq]
      by_cases hk3 : pK N = 3
      · have hcw := hts0 (Cond.codeWith (pY N) (pB N) (pL N) (pR N) (hhOf μ)) (by unfold wsN; rw [if_pos hk3]; exact List.mem_cons_self)
        have htab := vx_table (x := pY N) B hcw
        obtain ⟨rows, hr1, hr2, hr3⟩ := hd_rows μ
        rw [hr2] at htab
        rw [if_pos hk3, hr1] at HB
        obtain ⟨hri, hO⟩ := HD_wr μ N hN hk3
        have hrows : ∀ r ∈ rows, hkOK (pB N) (pL N) r = true := by
          rcases hr3 with rfl | h9
          · intro r hr; cases hr
          · exact (h9 N hN).1
        exact body hc (fun μ' N' av h Q' h1 h2 h3 => sound_n htr D cy b S n μ' N' av h Q' h1 h2 h3) hR (hx_wrap hc B.notSynchronized B.returns hO hri hrows htab) (hn_of hc B.notSynchronized (fun h9 => absurd (hO.symm.trans h9) (by decide))) hokn HB _ _ _ ws s.heap [] hl hrL rfl hI (Nat.zero_le _) (Nat.zero_le _)
      · have hcw := hts0 (codeOf N) (by unfold wsN; rw [if_neg hk3]; exact List.mem_cons_self)
        have ht : ∀ x ∈ c.exceptionTable.toList, False := by
          obtain ⟨meth9, c9, h1, h2, -, -, -, -, h7, -⟩ := Cond.code_spec B.named hcw
          cases Option.some.inj (h1.symm.trans B.method)
          cases Option.some.inj (h2.symm.trans (Stand.of_body B).code)
          intro x hx
          rw [Array.isEmpty_iff.mp h7] at hx
          cases hx
        rw [if_neg hk3] at HB
        exact body hc (fun μ' N' av h Q' h1 h2 h3 => sound_n htr D cy b S n μ' N' av h Q' h1 h2 h3) hR (hx_plain B.notSynchronized ht) (hn_of hc B.notSynchronized (fun _ => ht)) hokn HB _ _ _ ws s.heap [] hl hrL rfl hI (Nat.zero_le _) (Nat.zero_le _)
/-! rules of the pure machine -/
theorem brn.mono {c t f t' f' : Prop} (h1 : t → t') (h2 : f → f') (h : brn c t f) : brn c t' f' := ⟨fun q => h1 (h.1 q), fun q => h2 (h.2 q)⟩
theorem jmp.mono {pc : Nat} {off : Int} {f g : Nat → Prop} (h : ∀ t, f t → g t) (H : jmp pc off f) : jmp pc off g := ⟨H.1, h _ H.2⟩
theorem on1.mono {st : List Value} {f g : Int32 → List Value → Prop} (h : ∀ x r, f x r → g x r) (H : on1 st f) : on1 st g := by
  obtain ⟨x, r, rfl, H⟩ := on1_i H; exact h _ _ H
theorem on2.mono {st : List Value} {f g : Int32 → Int32 → List Value → Prop} (h : ∀ x y r, f x y r → g x y r) (H : on2 st f) : on2 st g := by
  obtain ⟨x, y, r, rfl, H⟩ := on2_i H; exact h _ _ _ H
theorem onL2.mono {st : List Value} {f g : Int64 → Int64 → List Value → Prop} (h : ∀ x y r, f x y r → g x y r) (H : onL2 st f) : onL2 st g := by
  obtain ⟨x, y, r, rfl, H⟩ := onL2_i H; exact h _ _ _ H
theorem onLI.mono {st : List Value} {f g : Int64 → Int32 → List Value → Prop} (h : ∀ x y r, f x y r → g x y r) (H : onLI st f) : onLI st g := by
  obtain ⟨x, y, r, rfl, H⟩ := onLI_i H; exact h _ _ _ H
theorem onR.mono {st : List Value} {f g : Nat → List Value → Prop} (h : ∀ x r, f x r → g x r) (H : onR st f) : onR st g := by
  obtain ⟨x, r, rfl, H⟩ := onR_i H; exact h _ _ H
theorem p_iald.mono {S : Nat × (Nat → Int32)} {h : PH} {st : List Value} {f g : List Value → Prop} (hh : ∀ r, f r → g r) (H : p_iald S h st f) : p_iald S h st g := by
  unfold p_iald at H ⊢
  split at H
  · split at H
    · exact ⟨H.1, hh _ H.2⟩
    · exact H.elim
  · exact ⟨H.1, hh _ H.2⟩
  · exact H.elim
theorem p_iast.mono {h : PH} {st : List Value} {f g : List Value → PH → Prop} (hh : ∀ r h, f r h → g r h) (H : p_iast h st f) : p_iast h st g := by
  unfold p_iast at H ⊢
  split at H
  · split at H
    · exact ⟨H.1, hh _ _ H.2⟩
    · exact H.elim
  · exact H.elim
theorem p_lald.mono {h : PH} {st : List Value} {f g : List Value → Prop} (hh : ∀ r, f r → g r) (H : p_lald h st f) : p_lald h st g := by
  unfold p_lald at H ⊢
  split at H
  · split at H
    · exact ⟨H.1, hh _ H.2⟩
    · exact H.elim
  · exact H.elim
theorem p_last.mono {h : PH} {st : List Value} {f g : List Value → PH → Prop} (hh : ∀ r h, f r h → g r h) (H : p_last h st f) : p_last h st g := by
  unfold p_last at H ⊢
  split at H
  · split at H
    · exact ⟨H.1, hh _ _ H.2⟩
    · exact H.elim
  · exact H.elim
theorem p_aald.mono {h : PH} {st : List Value} {f g : List Value → Prop} (hh : ∀ r, f r → g r) (H : p_aald h st f) : p_aald h st g := by
  unfold p_aald at H ⊢
  split at H
  · split at H
    · obtain ⟨h1, h2, q, h3, h4⟩ := H; exact ⟨h1, h2, q, h3, hh _ h4⟩
    · exact H.elim
  · exact H.elim
theorem p_aast.mono {h : PH} {st : List Value} {f g : List Value → PH → Prop} (hh : ∀ r h, f r h → g r h) (H : p_aast h st f) : p_aast h st g := by
  unfold p_aast at H ⊢
  split at H
  · split at H
    · exact ⟨H.1, hh _ _ H.2⟩
    · exact H.elim
  · exact H.elim
theorem p_alen.mono {S : Nat × (Nat → Int32)} {h : PH} {st : List Value} {f g : List Value → Prop} (hh : ∀ r, f r → g r) (H : p_alen S h st f) : p_alen S h st g := by
  unfold p_alen at H ⊢
  split at H
  · split at H
    · exact ⟨H.1, hh _ H.2⟩
    · exact H.elim
  · exact hh _ H
  · exact H.elim
theorem p_get.mono {h : PH} {ci k : Nat} {st : List Value} {f g : List Value → Prop} (hh : ∀ r, f r → g r) (H : p_get h ci k st f) : p_get h ci k st g := by
  unfold p_get at H ⊢
  split at H
  · split at H
    · obtain ⟨h1, h2, v, h3, h4⟩ := H; exact ⟨h1, h2, v, h3, hh _ h4⟩
    · exact H.elim
  · exact H.elim
theorem p_put.mono {h : PH} {ci k : Nat} {st : List Value} {f g : List Value → PH → Prop} (hh : ∀ r h, f r h → g r h) (H : p_put h ci k st f) : p_put h ci k st g := by
  unfold p_put at H ⊢
  split at H
  · split at H
    · obtain ⟨h1, h2, h3, h4, h5, h6⟩ := H; exact ⟨h1, h2, h3, h4, h5, hh _ _ h6⟩
    · exact H.elim
  · exact H.elim
theorem p_copy.mono {h : PH} {st : List Value} {f g : List Value → PH → Prop} (hh : ∀ r h, f r h → g r h) (H : p_copy h st f) : p_copy h st g := by
  unfold p_copy at H ⊢
  split at H
  · split at H
    · obtain ⟨h1, h2, h3, h4, h5, h6⟩ := H; exact ⟨h1, h2, h3, h4, h5, hh _ _ h6⟩
    · exact H.elim
  · exact H.elim
theorem p_new2.mono {h : PH} {st : List Value} {f g : List Value → PH → Nat → Nat → Prop} (hh : ∀ r h a b, f r h a b → g r h a b) (H : p_new2 h st f) : p_new2 h st g := by
  unfold p_new2 at H ⊢
  split at H
  · obtain ⟨h1, h2, h3, h4, h5⟩ := H; exact ⟨h1, h2, h3, h4, hh _ _ _ _ h5⟩
  · exact H.elim
theorem p_back.mono {M : PM} {hd : List (Nat × Nat × Nat × Int)} {Q Q' : Rs → PH → Prop} {K K' : Kt} (hQ : ∀ r h, Q r h → Q' r h) (hK : ∀ pc lv st h c s, K pc lv st h c s → K' pc lv st h c s) {pc : Nat} {lv : LV} {rest : List Value} {c s : Nat} (r : Rs) (h : PH) (H : p_back M hd Q K pc lv rest c s r h) : p_back M hd Q' K' pc lv rest c s r h := by
  unfold p_back at H ⊢
  cases r with
  | inl v => exact hK _ _ _ _ _ _ H
  | inr e =>
    simp only at H ⊢
    split at H
    · exact hQ _ _ H
    · exact hQ _ _ H
def Cmono (C : Nat → List Value → PH → (Rs → PH → Prop) → Prop) : Prop := ∀ (μ : Nat) (av : List Value) (h : PH) (Q Q' : Rs → PH → Prop), (∀ r h, Q r h → Q' r h) → C μ av h Q → C μ av h Q'
theorem p_call.mono {C : Nat → List Value → PH → (Rs → PH → Prop) → Prop} (hC : Cmono C) {M : PM} {hd : List (Nat × Nat × Nat × Int)} {Q Q' : Rs → PH → Prop} {K K' : Kt} (hQ : ∀ r h, Q r h → Q' r h) (hK : ∀ pc lv st h c s, K pc lv st h c s → K' pc lv st h c s) {pc μ : Nat} {virt : Bool} {lv : LV} {st : List Value} {h : PH} {c s : Nat} (H : p_call C M hd Q K pc μ virt lv st h c s) : p_call C M hd Q' K' pc μ virt lv st h c s := by
  unfold p_call at H ⊢
  split at H
  · exact H.elim
  · obtain ⟨h1, h2, h3, h4, h5, h6⟩ := H
    exact ⟨h1, h2, h3, h4, h5, hC _ _ _ _ _ (p_back.mono hQ hK) h6⟩
set_option maxHeartbeats 1000000 in
theorem pmI.mono {C : Nat → List Value → PH → (Rs → PH → Prop) → Prop} (hC : Cmono C) {S : Nat × (Nat → Int32)} {M : PM} {hd : List (Nat × Nat × Nat × Int)} {Q Q' : Rs → PH → Prop} {K K' : Kt} (hQ : ∀ r h, Q r h → Q' r h) (hK : ∀ pc lv st h c s, K pc lv st h c s → K' pc lv st h c s) {te : TE} {lv : LV} {st : List Value} {h : PH} {c s : Nat} (H : pmI C S M hd Q K te lv st h c s) : pmI C S M hd Q' K' te lv st h c s := by
  obtain ⟨pc, ins, ta, tb⟩ := te
  cases ins
  case ldc i => obtain ⟨q, h1, h2, H⟩ := H; exact ⟨q, h1, h2, hK _ _ _ _ _ _ H⟩
  case ldc_w i => obtain ⟨q, h1, h2, H⟩ := H; exact ⟨q, h1, h2, hK _ _ _ _ _ _ H⟩
  case iload i => obtain ⟨q, h1, H⟩ := H; exact ⟨q, h1, hK _ _ _ _ _ _ H⟩
  case iload_n i => obtain ⟨q, h1, H⟩ := H; exact ⟨q, h1, hK _ _ _ _ _ _ H⟩
  case lload i => obtain ⟨q, h1, H⟩ := H; exact ⟨q, h1, hK _ _ _ _ _ _ H⟩
  case aload i => obtain ⟨q, h1, h2, H⟩ := H; exact ⟨q, h1, h2, hK _ _ _ _ _ _ H⟩
  case aload_n i => obtain ⟨q, h1, h2, H⟩ := H; exact ⟨q, h1, h2, hK _ _ _ _ _ _ H⟩
  case istore i => exact ⟨H.1, on1.mono (fun _ _ => hK _ _ _ _ _ _) H.2⟩
  case istore_n i => exact ⟨H.1, on1.mono (fun _ _ => hK _ _ _ _ _ _) H.2⟩
  case lstore i => obtain ⟨h1, x, r, h2, H⟩ := H; exact ⟨h1, x, r, h2, hK _ _ _ _ _ _ H⟩
  case astore i => exact ⟨H.1, onR.mono (fun _ _ => hK _ _ _ _ _ _) H.2⟩
  case astore_n i => exact ⟨H.1, onR.mono (fun _ _ => hK _ _ _ _ _ _) H.2⟩
  case iinc i z => obtain ⟨h1, x, h2, H⟩ := H; exact ⟨h1, x, h2, hK _ _ _ _ _ _ H⟩
  case idiv => exact on2.mono (fun _ _ _ q => ⟨q.1, hK _ _ _ _ _ _ q.2⟩) H
  case irem => exact on2.mono (fun _ _ _ q => ⟨q.1, hK _ _ _ _ _ _ q.2⟩) H
  case dup => obtain ⟨v, r, h1, h2, H⟩ := H; exact ⟨v, r, h1, h2, hK _ _ _ _ _ _ H⟩
  case dup2 => obtain ⟨v, w, r, h1, h2, h3, H⟩ := H; exact ⟨v, w, r, h1, h2, h3, hK _ _ _ _ _ _ H⟩
  case pop => obtain ⟨v, r, h1, h2, H⟩ := H; exact ⟨v, r, h1, h2, hK _ _ _ _ _ _ H⟩
  case goto z => exact jmp.mono (fun _ => hK _ _ _ _ _ _) H
  case ifCond cc z => exact on1.mono (fun _ _ q => jmp.mono (fun _ => brn.mono (hK _ _ _ _ _ _) (hK _ _ _ _ _ _)) q) H
  case if_icmp cc z => exact on2.mono (fun _ _ _ q => jmp.mono (fun _ => brn.mono (hK _ _ _ _ _ _) (hK _ _ _ _ _ _)) q) H
  case tableswitch d lo hi offs => exact on1.mono (fun _ _ q => ⟨fun a => jmp.mono (fun _ => hK _ _ _ _ _ _) (q.1 a), fun a b => by obtain ⟨off, h1, h2⟩ := q.2 a b; exact ⟨off, h1, jmp.mono (fun _ => hK _ _ _ _ _ _) h2⟩⟩) H
  case iaload => exact p_iald.mono (f := fun st => K (pc + 1) lv st h c s) (g := fun st => K' (pc + 1) lv st h c s) (fun _ => hK _ _ _ _ _ _) H
  case iastore => exact p_iast.mono (f := fun st h => K (pc + 1) lv st h c s) (g := fun st h => K' (pc + 1) lv st h c s) (fun _ _ => hK _ _ _ _ _ _) H
  case laload => exact p_lald.mono (f := fun st => K (pc + 1) lv st h c s) (g := fun st => K' (pc + 1) lv st h c s) (fun _ => hK _ _ _ _ _ _) H
  case lastore => exact p_last.mono (f := fun st h => K (pc + 1) lv st h c s) (g := fun st h => K' (pc + 1) lv st h c s) (fun _ _ => hK _ _ _ _ _ _) H
  case aaload => exact p_aald.mono (f := fun st => K (pc + 1) lv st h c s) (g := fun st => K' (pc + 1) lv st h c s) (fun _ => hK _ _ _ _ _ _) H
  case aastore => exact p_aast.mono (f := fun st h => K (pc + 1) lv st h c s) (g := fun st h => K' (pc + 1) lv st h c s) (fun _ _ => hK _ _ _ _ _ _) H
  case arraylength => exact p_alen.mono (f := fun st => K (pc + 1) lv st h c s) (g := fun st => K' (pc + 1) lv st h c s) (fun _ => hK _ _ _ _ _ _) H
  case getfield i => exact p_get.mono (f := fun st => K (pc + 3) lv st h c s) (g := fun st => K' (pc + 3) lv st h c s) (fun _ => hK _ _ _ _ _ _) H
  case putfield i => exact p_put.mono (f := fun st h => K (pc + 3) lv st h c s) (g := fun st h => K' (pc + 3) lv st h c s) (fun _ _ => hK _ _ _ _ _ _) H
  case newarray t => exact on1.mono (fun _ _ q => ⟨q.1, q.2.1, q.2.2.1, q.2.2.2.1, q.2.2.2.2.imp (fun w => ⟨w.1, hK _ _ _ _ _ _ w.2⟩) (fun w => ⟨w.1, hK _ _ _ _ _ _ w.2⟩)⟩) H
  case anewarray i => exact on1.mono (fun _ _ q => ⟨q.1, q.2.1, q.2.2.1, q.2.2.2.1, hK _ _ _ _ _ _ q.2.2.2.2⟩) H
  case multianewarray i d => exact p_new2.mono (f := fun st h dc ds => c + dc ≤ pC M ∧ s + ds ≤ pS M ∧ K (pc + 4) lv st h (c + dc) (s + ds)) (g := fun st h dc ds => c + dc ≤ pC M ∧ s + ds ≤ pS M ∧ K' (pc + 4) lv st h (c + dc) (s + ds)) (fun _ _ _ _ q => ⟨q.1, q.2.1, hK _ _ _ _ _ _ q.2.2⟩) H
  case new i =>
    rcases H with ⟨h1, h2, h3, H⟩ | ⟨h1, h2, h3, h4, h5, x, h6, H⟩
    · exact Or.inl ⟨h1, h2, h3, hK _ _ _ _ _ _ H⟩
    · exact Or.inr ⟨h1, h2, h3, h4, h5, x, h6, hQ _ _ H⟩
  case invokevirtual i => exact p_call.mono hC hQ hK H
  case invokestatic i =>
    rcases H with ⟨h1, H⟩ | ⟨h1, H⟩
    · exact Or.inl ⟨h1, p_copy.mono (fun _ _ q => ⟨q.1, hK _ _ _ _ _ _ q.2⟩) H⟩
    · exact Or.inr ⟨h1, p_call.mono hC hQ hK H⟩
  case invokespecial i =>
    rcases H with ⟨h1, H⟩ | ⟨h1, H⟩
    · exact Or.inl ⟨h1, onR.mono (fun _ _ q => ⟨q.1, hK _ _ _ _ _ _ q.2⟩) H⟩
    · exact Or.inr ⟨h1, p_call.mono hC hQ hK H⟩
  case ireturn => obtain ⟨x, h1, h2, H⟩ := H; exact ⟨x, h1, h2, hQ _ _ H⟩
  case lreturn => obtain ⟨x, h1, h2, H⟩ := H; exact ⟨x, h1, h2, hQ _ _ H⟩
  case areturn => obtain ⟨x, h1, h2, H⟩ := H; exact ⟨x, h1, h2, hQ _ _ H⟩
  case return_ => obtain ⟨h1, h2, H⟩ := H; exact ⟨h1, h2, hQ _ _ H⟩
  all_goals first | exact hK _ _ _ _ _ _ H | exact on1.mono (fun _ _ => hK _ _ _ _ _ _) H | exact on2.mono (fun _ _ _ => hK _ _ _ _ _ _) H | exact onL2.mono (fun _ _ _ => hK _ _ _ _ _ _) H | exact onLI.mono (fun _ _ _ => hK _ _ _ _ _ _) H | exact (show False from H).elim
theorem Vx.mono {C : Nat → List Value → PH → (Rs → PH → Prop) → Prop} (hC : Cmono C) {S : Nat × (Nat → Int32)} {M : PM} {hd : List (Nat × Nat × Nat × Int)} {Q Q' : Rs → PH → Prop} (hQ : ∀ r h, Q r h → Q' r h) {pc : Nat} {lv : LV} {st : List Value} {h : PH} {c s : Nat} (H : Vx C S M hd Q pc lv st h c s) : Vx C S M hd Q' pc lv st h c s := by
  intro X hX
  refine H X (fun pc lv st h c s ⟨te, h1, h2⟩ => hX _ _ _ _ _ _ ⟨te, h1, pmI.mono hC hQ (fun _ _ _ _ _ _ q => q) h2⟩)
theorem Ex.mono (S : Nat × (Nat → Int32)) : ∀ n, Cmono (Ex S n)
  | 0 => fun _ _ _ _ _ _ H => H.elim
  | n + 1 => fun _ _ _ _ _ hQ ⟨M, h1, h2, H⟩ => ⟨M, h1, h2, Vx.mono (Ex.mono S n) hQ H⟩
/-- a step -/
theorem Vx.go {C : Nat → List Value → PH → (Rs → PH → Prop) → Prop} (hC : Cmono C) {S : Nat × (Nat → Int32)} {M : PM} {hd : List (Nat × Nat × Nat × Int)} {Q : Rs → PH → Prop} {pc : Nat} {lv : LV} {st : List Value} {h : PH} {c s : Nat} {te : TE} (h1 : (pT M).find? (fun e => e.1 == pc) = some te) (H : pmI C S M hd Q (Vx C S M hd Q) te lv st h c s) : Vx C S M hd Q pc lv st h c s := by
  intro X hX
  exact hX _ _ _ _ _ _ ⟨te, h1, pmI.mono hC (fun _ _ q => q) (fun _ _ _ _ _ _ q => q X hX) H⟩
/-! the pure machine run with unknown arguments, laid so that the kernel runs it quickly: a number is known, in a range, or a times an argument and b; the heap in rows of 16; what comes next is a function -/
abbrev AN : Type := Nat × Int × Int
abbrev AV : Type := Int ⊕ (AN ⊕ Value)
abbrev LW : Type := List AV
abbrev AE : Type := (Nat × LW) ⊕ (Nat × LW)
abbrev HT : Type := List (List AE)
abbrev EV : Type := List (Int × Int)
abbrev AQ : Type := Option AV ⊕ Nat
abbrev HD4 : Type := List (Nat × Nat × Nat × Int)
abbrev CX9 : Type := Nat × PM × HD4
abbrev GO : Type := Nat → LW → LW → Nat → HT → Nat → Nat → Bool
abbrev RT : Type := EV → AQ → Nat → HT → Bool
abbrev OPF : Type := CX9 → EV → LW → LW → Nat → HT → Nat → Nat → GO → (List EV → Bool) → (Nat → Bool → Bool) → (AQ → Bool) → Bool
abbrev aK (x : Int) : AV := .inl x
abbrev aG (lo hi : Int) : AV := .inr (.inl (0, lo, hi))
abbrev aY (t : Nat) (a b : Int) : AV := .inr (.inl (t + 1, a, b))
abbrev aR (a : Nat) : AV := .inr (.inr (.ref a))
abbrev aU : AV := .inr (.inr .null)
abbrev iLo : Int := -2147483648
abbrev iHi : Int := 2147483647
abbrev aTop : AV := aG iLo iHi
/-- places in lists -/
noncomputable def lget {α : Type} (l : List α) : Nat → Option α := List.rec (fun _ => none) (fun a _ ih n => Nat.rec (some a) (fun m _ => ih m) n) l
noncomputable def lset {α : Type} (l : List α) : Nat → α → (List α → Bool) → Bool := List.rec (fun _ _ _ => false) (fun a t ih n v k => Nat.rec (k (v :: t)) (fun m _ => ih m v (fun t' => k (a :: t'))) n) l
noncomputable def hget (h : HT) (a : Nat) : Option AE := match lget h (Nat.div a 16) with
  | some r => lget r (Nat.mod a 16)
  | none => none
noncomputable def hset (h : HT) (a : Nat) (v : AE) (k : HT → Bool) : Bool := match lget h (Nat.div a 16) with
  | some r => lset r (Nat.mod a 16) v fun r => lset h (Nat.div a 16) r k
  | none => false
noncomputable def repF {α : Type} (v : α) (n : Nat) : (List α → Bool) → Bool := Nat.rec (fun k => k []) (fun _ ih k => ih fun l => k (v :: l)) n
def natF (n : Nat) (k : Nat → Bool) : Bool := match n with
  | 0 => k 0
  | m + 1 => k (m + 1)
def bLt (x y : Int) : Bool := match x, y with
  | .ofNat a, .ofNat b => Nat.blt a b
  | .ofNat _, .negSucc _ => false
  | .negSucc _, .ofNat _ => true
  | .negSucc a, .negSucc b => Nat.blt b a
def bEq (x y : Int) : Bool := match x, y with
  | .ofNat a, .ofNat b => Nat.beq a b
  | .negSucc a, .negSucc b => Nat.beq a b
  | _, _ => false
def bLe (x y : Int) : Bool := !(bLt y x)
def inI (lo hi : Int) : Bool := bLe iLo lo && bLe hi iHi
def iF (x : Int) (k : Int → Bool) : Bool := match x with
  | .ofNat n => k (.ofNat n)
  | .negSucc n => k (.negSucc n)
def isNum (v : AV) : Bool := match v with
  | .inl _ => true
  | .inr (.inl _) => true
  | .inr (.inr _) => false
/-- a number's range -/
noncomputable def rK (env : EV) (v : AV) (k : Int → Int → Bool) : Bool := match v with
  | .inl x => k x x
  | .inr (.inl (0, lo, hi)) => k lo hi
  | .inr (.inl (t + 1, a, b)) => (match lget env t with
    | some r => (match bLt a 0 with
      | false => k (a * r.1 + b) (a * r.2 + b)
      | true => k (a * r.2 + b) (a * r.1 + b))
    | none => false)
  | .inr (.inr _) => false
/-- a number as a times an argument and b; 0: no argument -/
noncomputable def lin (env : EV) (v : AV) (k : AN → Bool) (no : Bool) : Bool := match v with
  | .inl x => k (0, 0, x)
  | .inr (.inl (0, lo, hi)) => (match bEq lo hi with
    | true => k (0, 0, lo)
    | false => no)
  | .inr (.inl (t + 1, a, b)) => (match lget env t with
    | some r => (match bEq r.1 r.2 with
      | true => iF (a * r.1 + b) fun z => k (0, 0, z)
      | false => k (t + 1, a, b))
    | none => no)
  | .inr (.inr _) => no
/-- ways are split: an argument's range in pieces -/
noncomputable def cutLe (env : EV) (t : Nat) (z : Int) (cut : List EV → Bool) : Bool := match lget env t with
  | some r => (match bLe r.1 z && bLt z r.2 with
    | true => lset env t (r.1, z) fun e => lset env t (z + 1, r.2) fun f => cut [e, f]
    | false => false)
  | none => false
noncomputable def cutAll1 (env : EV) (t : Nat) (lo : Int) (cut : List EV → Bool) : Nat → List EV → Bool := fun n => Nat.rec (fun acc => cut acc) (fun m ih acc => iF (lo + Int.ofNat m) fun z => lset env t (z, z) fun e => ih (e :: acc)) n
noncomputable def cutAll (env : EV) (t : Nat) (cut : List EV → Bool) : Bool := match lget env t with
  | some r => (match r.2 - r.1 with
    | .ofNat w => (match Nat.blt 0 w && Nat.blt w 64 with
      | true => cutAll1 env t r.1 cut (w + 1) []
      | false => false)
    | .negSucc _ => false)
  | none => false
noncomputable def widK (env : EV) (t : Nat) (k : Int → Bool) : Bool := match lget env t with
  | some r => k (r.2 - r.1)
  | none => false
/-- of two arguments the one with the smaller range is split -/
noncomputable def cutSm (env : EV) (t u : Nat) (cut : List EV → Bool) : Bool := widK env t fun a => widK env u fun b => match bEq a 0 || (!(bEq b 0) && bLt b a) with
  | true => cutAll env u cut
  | false => cutAll env t cut
def cmpR (c : ClassFile.Cond) (a b x y : Int) : Option Bool := match c with
  | .eq => (match bLt b x || bLt y a with
    | true => some false
    | false => (match bEq a b && (bEq x y && bEq a x) with
      | true => some true
      | false => none))
  | .ne => (match bLt b x || bLt y a with
    | true => some true
    | false => (match bEq a b && (bEq x y && bEq a x) with
      | true => some false
      | false => none))
  | .lt => (match bLt b x with
    | true => some true
    | false => (match bLt a y with
      | true => none
      | false => some false))
  | .ge => (match bLt b x with
    | true => some false
    | false => (match bLt a y with
      | true => none
      | false => some true))
  | .gt => (match bLt y a with
    | true => some true
    | false => (match bLt x b with
      | true => none
      | false => some false))
  | .le => (match bLt y a with
    | true => some false
    | false => (match bLt x b with
      | true => none
      | false => some true))
def cmpK (c : ClassFile.Cond) (a x : Int) : Bool := match c with
  | .eq => bEq a x
  | .ne => !(bEq a x)
  | .lt => bLt a x
  | .ge => !(bLt a x)
  | .gt => bLt x a
  | .le => !(bLt x a)
/-- where a times an argument and b changes its side -/
def thr (c : ClassFile.Cond) (a b : Int) : Int := match bLt a 0 with
  | false => (match c with
    | .lt | .ge => (-b - 1) / a
    | _ => (-b) / a)
  | true => (match c with
    | .lt | .ge => b / (-a)
    | _ => (b - 1) / (-a))
noncomputable def cutC (env : EV) (c : ClassFile.Cond) (t : Nat) (a b : Int) (cut : List EV → Bool) : Bool := match c with
  | .eq | .ne => (match lget env t with
    | some r => iF ((-b) / a) fun z => (match bLe r.1 z && bLt z r.2 with
      | true => cutLe env t z cut
      | false => cutLe env t (z - 1) cut)
    | none => false)
  | c => iF (thr c a b) fun z => cutLe env t z cut
noncomputable def wBrL (env : EV) (c : ClassFile.Cond) (t : Nat) (a b : Int) (cut : List EV → Bool) (y n : Bool) : Bool := match t with
  | 0 => (match cmpK c b 0 with
    | true => y
    | false => n)
  | t + 1 => (match bEq a 0 with
    | true => (match cmpK c b 0 with
      | true => y
      | false => n)
    | false => rK env (aY t a b) fun lo hi => (match cmpR c lo hi 0 0 with
      | some true => y
      | some false => n
      | none => cutC env c t a b cut))
noncomputable def wBr2 (env : EV) (c : ClassFile.Cond) (x y : AV) (cut : List EV → Bool) (t f : Bool) : Bool :=
  rK env x fun a b => rK env y fun a' b' => match cmpR c a b a' b' with
    | some true => t
    | some false => f
    | none => lin env x (fun p => lin env y (fun q => match Nat.beq p.1 0, Nat.beq q.1 0 with
        | true, _ => wBrL env c q.1 (p.2.1 - q.2.1) (p.2.2 - q.2.2) cut t f
        | _, true => wBrL env c p.1 (p.2.1 - q.2.1) (p.2.2 - q.2.2) cut t f
        | _, _ => (match Nat.beq p.1 q.1 with
          | true => wBrL env c p.1 (p.2.1 - q.2.1) (p.2.2 - q.2.2) cut t f
          | false => cutSm env (p.1 - 1) (q.1 - 1) cut)) (cutAll env (p.1 - 1) cut)) (lin env y (fun q => cutAll env (q.1 - 1) cut) false)
noncomputable def wBr (env : EV) (c : ClassFile.Cond) (x y : AV) (cut : List EV → Bool) (t f : Bool) : Bool := match x, y with
  | .inl a, .inl b => (match cmpK c a b with
    | true => t
    | false => f)
  | x, y => wBr2 env c x y cut t f
def kInt (z : Int) (k : AV → Bool) : Bool := match inI z z with
  | true => iF z fun z => k (.inl z)
  | false => iF (Int.bmod z 4294967296) fun z => k (.inl z)
/-- a times an argument and b, where that stays in the numbers -/
noncomputable def mkL (env : EV) (t : Nat) (a b : Int) (k : AV → Bool) (els : Bool) : Bool := match t with
  | 0 => kInt b k
  | t + 1 => (match bEq a 0 with
    | true => kInt b k
    | false => rK env (aY t a b) fun lo hi => (match inI lo hi with
      | true => k (aY t a b)
      | false => els))
def kRng (lo hi : Int) (k : AV → Bool) : Bool := match inI lo hi with
  | true => k (aG lo hi)
  | false => k aTop
noncomputable def wAdd (env : EV) (x y : AV) (cut : List EV → Bool) (k : AV → Bool) : Bool := match x, y with
  | .inl a, .inl b => kInt (a + b) k
  | x, y => (match isNum x && isNum y with
    | false => false
    | true => lin env x (fun p => lin env y (fun q => match Nat.beq p.1 0, Nat.beq q.1 0 with
      | true, _ => mkL env q.1 (p.2.1 + q.2.1) (p.2.2 + q.2.2) k (k aTop)
      | _, true => mkL env p.1 (p.2.1 + q.2.1) (p.2.2 + q.2.2) k (k aTop)
      | _, _ => (match Nat.beq p.1 q.1 with
        | true => mkL env p.1 (p.2.1 + q.2.1) (p.2.2 + q.2.2) k (k aTop)
        | false => cutSm env (p.1 - 1) (q.1 - 1) cut)) (k aTop)) (k aTop))
noncomputable def wSub (env : EV) (x y : AV) (cut : List EV → Bool) (k : AV → Bool) : Bool := match x, y with
  | .inl a, .inl b => kInt (a - b) k
  | x, y => (match isNum x && isNum y with
    | false => false
    | true => lin env x (fun p => lin env y (fun q => match Nat.beq p.1 0, Nat.beq q.1 0 with
      | true, _ => mkL env q.1 (p.2.1 - q.2.1) (p.2.2 - q.2.2) k (k aTop)
      | _, true => mkL env p.1 (p.2.1 - q.2.1) (p.2.2 - q.2.2) k (k aTop)
      | _, _ => (match Nat.beq p.1 q.1 with
        | true => mkL env p.1 (p.2.1 - q.2.1) (p.2.2 - q.2.2) k (k aTop)
        | false => cutSm env (p.1 - 1) (q.1 - 1) cut)) (k aTop)) (k aTop))
noncomputable def wMul (env : EV) (x y : AV) (cut : List EV → Bool) (k : AV → Bool) : Bool := match x, y with
  | .inl a, .inl b => kInt (a * b) k
  | x, y => (match isNum x && isNum y with
    | false => false
    | true => lin env x (fun p => lin env y (fun q => match Nat.beq p.1 0, Nat.beq q.1 0 with
      | true, _ => mkL env q.1 (p.2.2 * q.2.1) (p.2.2 * q.2.2) k (k aTop)
      | _, true => mkL env p.1 (p.2.1 * q.2.2) (p.2.2 * q.2.2) k (k aTop)
      | _, _ => cutSm env (p.1 - 1) (q.1 - 1) cut) (k aTop)) (k aTop))
def bin (f : Int32 → Int32 → Int32) (x y : Int) : Int := (f (Int32.ofInt x) (Int32.ofInt y)).toInt
noncomputable def wAny (env : EV) (x y : AV) (f : Int32 → Int32 → Int32) (k : AV → Bool) : Bool :=
  rK env x fun a b => rK env y fun a' b' => match bEq a b && bEq a' b' with
    | true => iF (bin f a a') fun z => k (.inl z)
    | false => k aTop
noncomputable def wNz (env : EV) (y : AV) (k : Bool) : Bool := rK env y fun a b => match bLt 0 a || bLt b 0 with
  | true => k
  | false => false
/-- a place that must be known -/
noncomputable def wIdx (env : EV) (v : AV) (cut : List EV → Bool) (k : Nat → Bool) : Bool := match v with
  | .inl (.ofNat j) => k j
  | v => lin env v (fun p => match p.1, p.2.2 with
    | 0, .ofNat j => k j
    | 0, .negSucc _ => false
    | t + 1, _ => cutAll env t cut) false
def w1 (v : AV) : Bool := match v with
  | .inr (.inr v) => Nat.beq v.category 1
  | _ => true
def wCat (v : AV) : Nat := match v with
  | .inr (.inr v) => v.category
  | _ => 1
noncomputable def cats (l : LW) : Nat := List.rec 0 (fun a _ ih => wCat a + ih) l
/-- from here on n numbers, each by c more than the one before, the first x -/
noncomputable def linChk (n : Nat) : LW → Int → Int → Bool := Nat.rec (fun _ _ _ => true) (fun _ ih l x c => match l with
  | .inl y :: r => (match bEq y x with
    | true => iF (x + c) fun z => ih r z c
    | false => false)
  | _ => false) n
noncomputable def ldrop {α : Type} (l : List α) : Nat → List α := List.rec (fun _ => []) (fun a t ih n => Nat.rec (a :: t) (fun m _ => ih m) n) l
/-- a row read at a place that isn't known: as far as it may be, it grows evenly -/
noncomputable def sRead (env : EV) (i : AV) (l : LW) (cut : List EV → Bool) (k : AV → Bool) : Bool := rK env i fun lo hi => match lo, hi - lo with
  | .ofNat j, .ofNat w => (match ldrop l j with
    | .inl x :: .inl y :: r => (match linChk (w + 1) (.inl x :: .inl y :: r) x (y - x) with
      | true => (match bEq x y with
        | true => k (.inl x)
        | false => (match i with
          | .inr (.inl (t + 1, a, b)) => k (aY t ((y - x) * a) ((y - x) * b + x - (y - x) * lo))
          | _ => false))
      | false => wIdx env i cut fun j => (match lget l j with
        | some v => k v
        | none => false))
    | _ => wIdx env i cut fun j => (match lget l j with
        | some v => k v
        | none => false))
  | _, _ => false
noncomputable def wRead (env : EV) (i : AV) (l : LW) (cut : List EV → Bool) (k : AV → Bool) : Bool := match i with
  | .inl (.ofNat j) => (match lget l j with
    | some v => k v
    | none => false)
  | i => lin env i (fun p => match p.1, p.2.2 with
    | 0, .ofNat j => (match lget l j with
      | some v => k v
      | none => false)
    | 0, .negSucc _ => false
    | _ + 1, _ => sRead env i l cut k) (sRead env i l cut k)
/-- a long that is a number of this kind, hidden in a double -/
def dT (z : UInt64) : Nat := z.toNat % 8
def dA (z : UInt64) : Int := (z.toNat / 8 % 2097152 : Nat) - 1048576
def dB (z : UInt64) : Int := (z.toNat / 16777216 : Nat) - 2147483648
def dMk (t : Nat) (a b : Int) : UInt64 := UInt64.ofNat (t + 8 * (a + 1048576).toNat + 16777216 * (b + 2147483648).toNat)
/-- the instructions -/
def o_no : OPF := fun _ _ _ _ _ _ _ _ _ _ _ _ => false
def o_push (v : AV) (n : Nat) : OPF := fun _ _ lv st m h c s go _ _ _ => go n lv (v :: st) m h c s
noncomputable def o_iload (i n : Nat) : OPF := fun _ _ lv st m h c s go _ _ _ => match lget lv i with
  | some v => (match isNum v with
    | true => go n lv (v :: st) m h c s
    | false => false)
  | none => false
noncomputable def o_aload (i n : Nat) : OPF := fun _ _ lv st m h c s go _ _ _ => match lget lv i with
  | some (.inr (.inr (.ref a))) => go n lv (.inr (.inr (.ref a)) :: st) m h c s
  | some (.inr (.inr (.retAddr a))) => go n lv (.inr (.inr (.retAddr a)) :: st) m h c s
  | _ => false
noncomputable def o_istore (i n : Nat) : OPF := fun X _ lv st m h c s go _ _ _ => match st with
  | v :: r => (match isNum v && Nat.blt i (pL X.2.1) with
    | true => lset lv i v fun lv => go n lv r m h c s
    | false => false)
  | _ => false
noncomputable def o_astore (i n : Nat) : OPF := fun X _ lv st m h c s go _ _ _ => match st with
  | .inr (.inr (.ref a)) :: r => (match Nat.blt i (pL X.2.1) with
    | true => lset lv i (.inr (.inr (.ref a))) fun lv => go n lv r m h c s
    | false => false)
  | _ => false
noncomputable def o_iinc (i : Nat) (z : Int) (n : Nat) : OPF := fun X env lv st m h c s go cut _ _ => match lget lv i with
  | some x => (match isNum x && Nat.blt i (pL X.2.1) with
    | true => wAdd env x (.inl z) cut fun v => lset lv i v fun lv => go n lv st m h c s
    | false => false)
  | none => false
noncomputable def o_iadd (n : Nat) : OPF := fun _ env lv st m h c s go cut _ _ => match st with
  | y :: x :: r => wAdd env x y cut fun v => go n lv (v :: r) m h c s
  | _ => false
noncomputable def o_isub (n : Nat) : OPF := fun _ env lv st m h c s go cut _ _ => match st with
  | y :: x :: r => wSub env x y cut fun v => go n lv (v :: r) m h c s
  | _ => false
noncomputable def o_imul (n : Nat) : OPF := fun _ env lv st m h c s go cut _ _ => match st with
  | y :: x :: r => wMul env x y cut fun v => go n lv (v :: r) m h c s
  | _ => false
noncomputable def o_any (f : Int32 → Int32 → Int32) (n : Nat) : OPF := fun _ env lv st m h c s go _ _ _ => match st with
  | y :: x :: r => wAny env x y f fun v => go n lv (v :: r) m h c s
  | _ => false
noncomputable def o_idiv (n : Nat) : OPF := fun _ env lv st m h c s go _ _ _ => match st with
  | y :: x :: r => wNz env y (wAny env x y (· / ·) fun v => go n lv (v :: r) m h c s)
  | _ => false
noncomputable def o_irem (n : Nat) : OPF := fun _ env lv st m h c s go _ _ _ => match st with
  | y :: x :: r => (match y with
    | .inl 1 => (match isNum x with
      | true => go n lv (.inl 0 :: r) m h c s
      | false => false)
    | y => wNz env y (wAny env x y (fun x y => x - x / y * y) fun v => go n lv (v :: r) m h c s))
  | _ => false
noncomputable def o_ineg (n : Nat) : OPF := fun _ env lv st m h c s go _ _ _ => match st with
  | x :: r => wAny env x (.inl 0) (fun x _ => -x) fun v => go n lv (v :: r) m h c s
  | _ => false
noncomputable def o_i2l (n : Nat) : OPF := fun _ env lv st m h c s go _ _ _ => match st with
  | x :: r => lin env x (fun p => match p.1 with
    | 0 => go n lv (.inr (.inr (.long (Int32.ofInt p.2.2).toInt64)) :: r) m h c s
    | t + 1 => (match Nat.beq (dT (dMk t p.2.1 p.2.2)) t && (bEq (dA (dMk t p.2.1 p.2.2)) p.2.1 && bEq (dB (dMk t p.2.1 p.2.2)) p.2.2) with
      | true => go n lv (.inr (.inr (.double (dMk t p.2.1 p.2.2))) :: r) m h c s
      | false => false)) false
  | _ => false
def o_lcmp (n : Nat) : OPF := fun _ _ lv st m h c s go _ _ _ => match st with
  | .inr (.inr (.long y)) :: .inr (.inr (.long x)) :: r => go n lv (.inl (lg_cmp x y).toInt :: r) m h c s
  | .inr (.inr (.double y)) :: .inr (.inr (.double x)) :: r => (match Nat.beq x.toNat y.toNat with
    | true => go n lv (.inl 0 :: r) m h c s
    | false => false)
  | _ => false
def o_dup (n : Nat) : OPF := fun _ _ lv st m h c s go _ _ _ => match st with
  | v :: r => (match w1 v with
    | true => go n lv (v :: v :: r) m h c s
    | false => false)
  | _ => false
def o_dup2 (n : Nat) : OPF := fun _ _ lv st m h c s go _ _ _ => match st with
  | v :: w :: r => (match w1 v && w1 w with
    | true => go n lv (v :: w :: v :: w :: r) m h c s
    | false => false)
  | _ => false
def o_pop (n : Nat) : OPF := fun _ _ lv st m h c s go _ _ _ => match st with
  | v :: r => (match w1 v with
    | true => go n lv r m h c s
    | false => false)
  | _ => false
def o_goto (t : Nat) : OPF := fun _ _ lv st m h c s go _ _ _ => go t lv st m h c s
noncomputable def o_if (cc : ClassFile.Cond) (t n : Nat) : OPF := fun _ env lv st m h c s go cut _ _ => match st with
  | x :: r => wBr env cc x (.inl 0) cut (go t lv r m h c s) (go n lv r m h c s)
  | _ => false
noncomputable def o_icmp (cc : ClassFile.Cond) (t n : Nat) : OPF := fun _ env lv st m h c s go cut _ _ => match st with
  | y :: x :: r => wBr env cc x y cut (go t lv r m h c s) (go n lv r m h c s)
  | _ => false
noncomputable def gAll (f : Nat → Bool) (l : List Nat) : Bool := List.rec true (fun e _ ih => match f e with
  | true => ih
  | false => false) l
noncomputable def o_sw (d : Nat) (lo hi : Int) (ts : List Nat) : OPF := fun _ env lv st m h c s go cut _ _ => match st with
  | x :: r => rK env x fun a b => (match bLt b lo || bLt hi a with
    | true => go d lv r m h c s
    | false => lin env x (fun p => (match p.1 with
      | 0 => (match bLt p.2.2 lo || bLt hi p.2.2 with
        | true => go d lv r m h c s
        | false => (match lget ts (p.2.2 - lo).toNat with
          | some t => go t lv r m h c s
          | none => false))
      | t + 1 => (match bLt a lo with
        | true => cutLe env t (lo - 1) cut
        | false => (match bLt hi b with
          | true => cutLe env t hi cut
          | false => cutAll env t cut)))) (match go d lv r m h c s with
            | true => gAll (fun t => go t lv r m h c s) ts
            | false => false))
  | _ => false
noncomputable def o_iald (n : Nat) : OPF := fun X env lv st m h c s go cut _ _ => match st with
  | i :: .inr (.inr (.ref a)) :: r => (match hget h a with
    | some (.inl (0, l)) => wRead env i l cut fun v => (match isNum v with
      | true => go n lv (v :: r) m h c s
      | false => false)
    | _ => false)
  | i :: .inr (.inr (.retAddr _)) :: r => wIdx env i cut fun j => (match Nat.blt j X.1 with
    | true => go n lv (aY j 1 0 :: r) m h c s
    | false => false)
  | _ => false
noncomputable def o_lald (n : Nat) : OPF := fun _ env lv st m h c s go cut _ _ => match st with
  | i :: .inr (.inr (.ref a)) :: r => (match hget h a with
    | some (.inl (1, l)) => wIdx env i cut fun j => (match lget l j with
      | some v => go n lv (v :: r) m h c s
      | none => false)
    | _ => false)
  | _ => false
noncomputable def o_aald (n : Nat) : OPF := fun _ env lv st m h c s go cut _ _ => match st with
  | i :: .inr (.inr (.ref a)) :: r => (match hget h a with
    | some (.inl (2, l)) => wIdx env i cut fun j => (match lget l j with
      | some (.inr (.inr (.ref x))) => go n lv (.inr (.inr (.ref x)) :: r) m h c s
      | _ => false)
    | some (.inl (3, l)) => wIdx env i cut fun j => (match lget l j with
      | some (.inr (.inr (.ref x))) => go n lv (.inr (.inr (.ref x)) :: r) m h c s
      | _ => false)
    | _ => false)
  | _ => false
noncomputable def o_iast (n : Nat) : OPF := fun _ env lv st m h c s go cut _ _ => match st with
  | x :: i :: .inr (.inr (.ref a)) :: r => (match isNum x with
    | true => (match hget h a with
      | some (.inl (0, l)) => wIdx env i cut fun j => lset l j x fun l => hset h a (.inl (0, l)) fun h => go n lv r m h c s
      | _ => false)
    | false => false)
  | _ => false
noncomputable def o_last (n : Nat) : OPF := fun _ env lv st m h c s go cut _ _ => match st with
  | .inr (.inr (.long x)) :: i :: .inr (.inr (.ref a)) :: r => (match hget h a with
    | some (.inl (1, l)) => wIdx env i cut fun j => lset l j (.inr (.inr (.long x))) fun l => hset h a (.inl (1, l)) fun h => go n lv r m h c s
    | _ => false)
  | .inr (.inr (.double x)) :: i :: .inr (.inr (.ref a)) :: r => (match hget h a with
    | some (.inl (1, l)) => wIdx env i cut fun j => lset l j (.inr (.inr (.double x))) fun l => hset h a (.inl (1, l)) fun h => go n lv r m h c s
    | _ => false)
  | _ => false
noncomputable def o_aast (n : Nat) : OPF := fun _ env lv st m h c s go cut _ _ => match st with
  | .inr (.inr (.ref v)) :: i :: .inr (.inr (.ref a)) :: r => (match hget h a with
    | some (.inl (2, l)) => (match hget h v with
      | some (.inr (1, _)) => wIdx env i cut fun j => lset l j (.inr (.inr (.ref v))) fun l => hset h a (.inl (2, l)) fun h => go n lv r m h c s
      | _ => false)
    | _ => false)
  | _ => false
noncomputable def o_alen (n : Nat) : OPF := fun X _ lv st m h c s go _ _ _ => match st with
  | .inr (.inr (.ref a)) :: r => (match hget h a with
    | some (.inl (t, l)) => (match Nat.blt t 4 && Nat.blt l.length 2147483648 with
      | true => natF l.length fun z => go n lv (.inl (.ofNat z) :: r) m h c s
      | false => false)
    | _ => false)
  | .inr (.inr (.retAddr _)) :: r => (match Nat.blt X.1 2147483648 with
    | true => go n lv (.inl (.ofNat X.1) :: r) m h c s
    | false => false)
  | _ => false
noncomputable def o_get (ci f n : Nat) : OPF := fun _ _ lv st m h c s go _ _ _ => match st with
  | .inr (.inr (.ref a)) :: r => (match hget h a with
    | some (.inr (cj, fs)) => (match Nat.beq cj ci with
      | true => (match lget fs f with
        | some v => go n lv (v :: r) m h c s
        | none => false)
      | false => false)
    | _ => false)
  | _ => false
def isBit (v : AV) : Bool := match v with
  | .inl x => bEq x 0 || bEq x 1
  | _ => false
def isRf (v : AV) : Bool := match v with
  | .inr (.inr (.ref _)) => true
  | _ => false
def okTy (ty : Nat) (v : AV) : Bool := match ty with
  | 0 => isNum v
  | 1 => isBit v
  | _ => isRf v
/-- ty 0: a number, 1: yes or no, 2: a reference -/
noncomputable def o_put (ci f ty n : Nat) : OPF := fun _ _ lv st m h c s go _ _ _ => match st with
  | v :: .inr (.inr (.ref a)) :: r => (match hget h a with
    | some (.inr (cj, fs)) => (match Nat.beq cj ci && okTy ty v with
      | true => lset fs f v fun fs => hset h a (.inr (cj, fs)) fun h => go n lv r m h c s
      | false => false)
    | _ => false)
  | _ => false
noncomputable def wNew (X : CX9) (n : Nat) (lv r : LW) (m : Nat) (h : HT) (c s z : Nat) (v : AE) (go : GO) : Bool := match Nat.ble (c + 1) (pC X.2.1) && Nat.ble (s + z) (pS X.2.1) with
  | true => natF (m + 1) fun m1 => natF (c + 1) fun c1 => natF (s + z) fun s1 => hset h m v fun h => go n lv (.inr (.inr (.ref m)) :: r) m1 h c1 s1
  | false => false
noncomputable def o_newi (n : Nat) : OPF := fun X _ lv st m h c s go _ _ _ => match st with
  | .inl (.ofNat z) :: r => (match Nat.ble z 10000 with
    | true => repF (.inl 0) z fun l => wNew X n lv r m h c s z (.inl (0, l)) go
    | false => false)
  | _ => false
noncomputable def o_newl (n : Nat) : OPF := fun X _ lv st m h c s go _ _ _ => match st with
  | .inl (.ofNat z) :: r => (match Nat.ble z 10000 with
    | true => repF (.inr (.inr (.long 0))) z fun l => wNew X n lv r m h c s z (.inl (1, l)) go
    | false => false)
  | _ => false
noncomputable def o_newr (n : Nat) : OPF := fun X _ lv st m h c s go _ _ _ => match st with
  | .inl (.ofNat z) :: r => (match Nat.ble z 10000 with
    | true => repF aU z fun l => wNew X n lv r m h c s z (.inl (2, l)) go
    | false => false)
  | _ => false
/-- a row of z references, the first to b -/
noncomputable def refsF (z : Nat) : Nat → (LW → Bool) → Bool := Nat.rec (fun _ k => k []) (fun _ ih b k => natF (b + 1) fun b1 => ih b1 fun l => k (.inr (.inr (.ref b)) :: l)) z
noncomputable def rowsF (row : LW) (z : Nat) : Nat → HT → (HT → Bool) → Bool := Nat.rec (fun _ h k => k h) (fun _ ih b h k => hset h b (.inl (0, row)) fun h => natF (b + 1) fun b1 => ih b1 h k) z
noncomputable def o_new2 (n : Nat) : OPF := fun X _ lv st m h c s go _ _ _ => match st with
  | .inl (.ofNat w) :: .inl (.ofNat z) :: r => (match Nat.ble w 1000 && (Nat.ble z 1000 && (Nat.ble (c + (1 + z)) (pC X.2.1) && Nat.ble (s + (z + z * w)) (pS X.2.1))) with
    | true => refsF z (m + 1) fun l => repF (.inl 0) w fun row => hset h m (.inl (3, l)) fun h => rowsF row z (m + 1) h fun h =>
        natF (m + 1 + z) fun m1 => natF (c + (1 + z)) fun c1 => natF (s + (z + z * w)) fun s1 => go n lv (.inr (.inr (.ref m)) :: r) m1 h c1 s1
    | false => false)
  | _ => false
noncomputable def o_new (ci z : Nat) (d : LW) (n : Nat) : OPF := fun X _ lv st m h c s go _ _ _ => wNew X n lv st m h c s z (.inr (ci, d)) go
noncomputable def o_throw (e : Nat) : OPF := fun X _ _ st _ _ c s _ _ _ ret => match X.2.2 with
  | [] => (match Nat.ble (c + 1) (pC X.2.1) && (Nat.ble (s + 6) (pS X.2.1) && Nat.ble (cats st) 8) with
    | true => ret (.inr e)
    | false => false)
  | _ => false
def o_call (μ : Nat) (virt : Bool) : OPF := fun _ _ _ _ _ _ _ _ _ _ call _ => call μ virt
noncomputable def o_copy (n : Nat) : OPF := fun _ _ lv st m h c s go _ _ _ => match st with
  | .inl (.ofNat z) :: .inl (.ofNat dp) :: .inr (.inr (.ref a1)) :: .inl (.ofNat sp) :: .inr (.inr (.ref a0)) :: r => (match hget h a0 with
    | some (.inl (0, l0)) => (match hget h a1 with
      | some (.inl (0, l1)) => (match Nat.ble (sp + z) l0.length && (Nat.ble (dp + z) l1.length && Nat.ble (cats r) 8) with
        | true => hset h a1 (.inl (0, l1.take dp ++ (l0.drop sp).take z ++ l1.drop (dp + z))) fun h => go n lv r m h c s
        | false => false)
      | _ => false)
    | _ => false)
  | _ => false
noncomputable def o_obj (n : Nat) : OPF := fun _ _ lv st m h c s go _ _ _ => match st with
  | .inr (.inr (.ref _)) :: r => (match Nat.ble (cats r) 8 with
    | true => go n lv r m h c s
    | false => false)
  | _ => false
noncomputable def o_iret : OPF := fun X env _ st _ _ _ _ _ _ _ ret => match st with
  | [x] => (match pR X.2.1 with
    | some .int => (match isNum x with
      | true => ret (.inl (some x))
      | false => false)
    | some .boolean => lin env x (fun p => match Nat.beq p.1 0 && (bEq p.2.2 0 || bEq p.2.2 1) with
      | true => ret (.inl (some (.inl p.2.2)))
      | false => false) false
    | _ => false)
  | _ => false
def o_aret : OPF := fun X _ _ st _ _ _ _ _ _ _ ret => match st with
  | [.inr (.inr (.ref a))] => (match pR X.2.1 with
    | some (.object _) => ret (.inl (some (.inr (.inr (.ref a)))))
    | _ => false)
  | _ => false
def o_ret : OPF := fun X _ _ st _ _ _ _ _ _ _ ret => match st with
  | [] => (match pR X.2.1 with
    | none => ret (.inl none)
    | _ => false)
  | _ => false
/-- what an instruction is -/
def jT (pc : Nat) (z : Int) (f : Nat → OPF) : OPF := if 0 ≤ (pc : Int) + z then f ((pc : Int) + z).toNat else o_no
def dW (ci : Nat) : LW := (dflt ci).map fun v => match v with
  | .int x => .inl x.toInt
  | v => .inr (.inr v)
def noD (v : Value) : Bool := match v with
  | .double _ => false
  | _ => true
noncomputable def mkO (te : TE) : OPF := match te.2.1 with
  | .iconst z => o_push (.inl (Int32.ofInt z).toInt) (te.1 + 1)
  | .bipush z => o_push (.inl (Int8.ofInt z).toInt32.toInt) (te.1 + 2)
  | .sipush z => o_push (.inl (Int16.ofInt z).toInt32.toInt) (te.1 + 3)
  | .lconst n => o_push (.inr (.inr (.long (Int64.ofNat n)))) (te.1 + 1)
  | .ldc _ => (match KLs[te.2.2.1]? with
    | some q => if te.2.2.2 = 0 then o_push (.inl q.2.2.toInt) (te.1 + 2) else o_no
    | none => o_no)
  | .ldc_w _ => (match KLs[te.2.2.1]? with
    | some q => if te.2.2.2 = 0 then o_push (.inl q.2.2.toInt) (te.1 + 3) else o_no
    | none => o_no)
  | .iload i => o_iload i (te.1 + 2)
  | .iload_n i => o_iload i (te.1 + 1)
  | .aload i => o_aload i (te.1 + 2)
  | .aload_n i => o_aload i (te.1 + 1)
  | .istore i => o_istore i (te.1 + 2)
  | .istore_n i => o_istore i (te.1 + 1)
  | .astore i => o_astore i (te.1 + 2)
  | .astore_n i => o_astore i (te.1 + 1)
  | .iinc i z => if inI z z = true then o_iinc i z (te.1 + 3) else o_no
  | .iadd => o_iadd (te.1 + 1)
  | .isub => o_isub (te.1 + 1)
  | .imul => o_imul (te.1 + 1)
  | .idiv => o_idiv (te.1 + 1)
  | .irem => o_irem (te.1 + 1)
  | .ineg => o_ineg (te.1 + 1)
  | .ishl => o_any (fun x y => x <<< (y &&& 31)) (te.1 + 1)
  | .ishr => o_any (fun x y => x >>> (y &&& 31)) (te.1 + 1)
  | .iand => o_any (· &&& ·) (te.1 + 1)
  | .ior => o_any (· ||| ·) (te.1 + 1)
  | .ixor => o_any (· ^^^ ·) (te.1 + 1)
  | .i2l => o_i2l (te.1 + 1)
  | .lcmp => o_lcmp (te.1 + 1)
  | .dup => o_dup (te.1 + 1)
  | .dup2 => o_dup2 (te.1 + 1)
  | .pop => o_pop (te.1 + 1)
  | .goto z => jT te.1 z o_goto
  | .ifCond cc z => jT te.1 z fun t => o_if cc t (te.1 + 3)
  | .if_icmp cc z => jT te.1 z fun t => o_icmp cc t (te.1 + 3)
  | .tableswitch d lo hi offs => if offs.toList.all (fun o => decide (0 ≤ (te.1 : Int) + o)) = true ∧ hi - lo + 1 = offs.size then jT te.1 d fun d => o_sw d lo hi (offs.toList.map fun o => ((te.1 : Int) + o).toNat) else o_no
  | .iaload => o_iald (te.1 + 1)
  | .iastore => o_iast (te.1 + 1)
  | .laload => o_lald (te.1 + 1)
  | .lastore => o_last (te.1 + 1)
  | .aaload => o_aald (te.1 + 1)
  | .aastore => o_aast (te.1 + 1)
  | .arraylength => o_alen (te.1 + 1)
  | .getfield _ => if te.2.2.2 < fnum te.2.2.1 then o_get te.2.2.1 te.2.2.2 (te.1 + 3) else o_no
  | .putfield _ => if te.2.2.2 < fnum te.2.2.1 then (match ftyX te.2.2.1 te.2.2.2 with
    | .int => o_put te.2.2.1 te.2.2.2 0 (te.1 + 3)
    | .boolean => o_put te.2.2.1 te.2.2.2 1 (te.1 + 3)
    | .object _ => o_put te.2.2.1 te.2.2.2 2 (te.1 + 3)
    | .array _ => o_put te.2.2.1 te.2.2.2 2 (te.1 + 3)
    | _ => o_no) else o_no
  | .newarray .int => o_newi (te.1 + 2)
  | .newarray .long => o_newl (te.1 + 2)
  | .anewarray _ => o_newr (te.1 + 3)
  | .multianewarray _ _ => o_new2 (te.1 + 4)
  | .new _ => if te.2.2.2 = 0 ∧ (dflt te.2.2.1).all noD = true then o_new te.2.2.1 (fnum te.2.2.1) (dW te.2.2.1) (te.1 + 3) else if te.2.2.2 = 1 then (match XLs[te.2.2.1]? with
    | some x => o_throw x.2.2.1
    | none => o_no) else o_no
  | .invokevirtual _ => o_call te.2.2.1 true
  | .invokestatic _ => if te.2.2.2 = 7 then o_copy (te.1 + 3) else o_call te.2.2.1 false
  | .invokespecial _ => if te.2.2.2 = 6 then o_obj (te.1 + 3) else if te.2.2.2 = 4 ∨ te.2.2.2 = 5 then o_call te.2.2.1 true else o_no
  | .ireturn => o_iret
  | .areturn => o_aret
  | .return_ => o_ret
  | _ => o_no
/-- a method for the run: its row, its rows of exceptions, empty places, its instructions -/
abbrev MEn : Type := PM × HD4 × LW × List (Nat × OPF)
noncomputable def ffnd (pc : Nat) (l : List (Nat × OPF)) (k : OPF → List (Nat × OPF) → Bool) (no : Bool) : Bool := List.rec no (fun e r ih => Bool.rec ih (k e.2 r) (Nat.beq e.1 pc)) l
noncomputable def ffch (pc : Nat) (T rest : List (Nat × OPF)) (k : OPF → List (Nat × OPF) → Bool) : Bool := ffnd pc rest k (ffnd pc T k false)
noncomputable def lAll (f : EV → Bool) (l : List EV) : Bool := List.rec true (fun e _ ih => Bool.rec false ih (f e)) l
/-- n values off the stack, onto the places -/
noncomputable def tkr (n : Nat) : LW → LW → (LW → LW → Bool) → Bool := Nat.rec (fun st acc k => k acc st) (fun _ ih st acc k => match st with
  | x :: r => (match w1 x with
    | true => ih r (x :: acc) k
    | false => false)
  | [] => false) n
noncomputable def wRecv (virt : Bool) (o : Nat) (args : LW) (h : HT) (k : Bool) : Bool := match virt with
  | false => k
  | true => (match args with
    | .inr (.inr (.ref a)) :: _ => (match hget h a with
      | some (.inr (cj, _)) => (match Nat.beq cj o with
        | true => k
        | false => false)
      | _ => false)
    | _ => false)
def wBack (hd : HD4) (pc e : Nat) : AQ := match p_catch hd pc e with
  | some z => .inl (some (.inl (Int32.ofInt z).toInt))
  | none => .inr e
abbrev CAL : Type := Nat → MEn → EV → LW → Nat → HT → RT → Bool
noncomputable def mget (mt : List (List MEn)) (μ : Nat) : Option MEn := match lget mt (Nat.div μ 20) with
  | some r => lget r (Nat.mod μ 20)
  | none => none
noncomputable def aB (X : CX9) (T : List (Nat × OPF)) (mt : List (List MEn)) (cal : CAL) (ret : RT) : Nat → EV → Nat → List (Nat × OPF) → LW → LW → Nat → HT → Nat → Nat → Bool := fun k => Nat.rec (fun _ _ _ _ _ _ _ _ _ => false) (fun _ ih env pc rest lv st m h c s =>
  ffch pc T rest fun f r => f X env lv st m h c s (fun pc lv st m h c s => ih env pc r lv st m h c s) (fun l => lAll (fun env => ih env pc rest lv st m h c s) l)
      (fun μ virt => match mget mt μ with
        | some N => tkr (pN N.1) st N.2.2.1 fun args rst => (match Nat.ble (cats rst) 8 && (Nat.ble (c + pC N.1) (pC X.2.1) && Nat.ble (s + pS N.1) (pS X.2.1)) with
          | true => natF (c + pC N.1) fun c1 => natF (s + pS N.1) fun s1 => wRecv virt (pO N.1) args h (cal μ N env args m h (fun env q m h => match q with
            | .inl (some x) => ih env (pc + 3) r lv (x :: rst) m h c1 s1
            | .inl none => ih env (pc + 3) r lv rst m h c1 s1
            | .inr e => ret env (wBack X.2.2 pc e) m h))
          | false => false)
        | none => false)
      (fun q => ret env q m h)) k
noncomputable def aM (L fuel : Nat) (mt : List (List MEn)) (n : Nat) : CAL := Nat.rec (fun _ _ _ _ _ _ _ => false) (fun _ ih _ N env args m h ret => aB (L, N.1, N.2.1) N.2.2.2 mt ih ret fuel env 0 N.2.2.2 args [] m h 0 0) n
/-! the run with unknown arguments stands for all runs: what a picture means -/
def vV (θ : Nat → Int32) (v w : Value) : Prop := match v with
  | .double z => ∃ y : Int32, w = .long y.toInt64 ∧ y.toInt = dA z * (θ (dT z)).toInt + dB z
  | v => w = v
def vR (θ : Nat → Int32) (a : AV) (w : Value) : Prop := match a with
  | .inl x => ∃ y : Int32, w = .int y ∧ y.toInt = x
  | .inr (.inl (0, lo, hi)) => ∃ y : Int32, w = .int y ∧ lo ≤ y.toInt ∧ y.toInt ≤ hi
  | .inr (.inl (t + 1, a, b)) => ∃ y : Int32, w = .int y ∧ y.toInt = a * (θ t).toInt + b
  | .inr (.inr v) => vV θ v w
def eR (θ : Nat → Int32) (env : EV) : Prop := ∀ t r, env[t]? = some r → r.1 ≤ (θ t).toInt ∧ (θ t).toInt ≤ r.2
def cR (θ : Nat → Int32) (x : AE) (y : PE) : Prop := match x, y with
  | .inl (0, l), .inl (0, n, .inl g) => n = l.length ∧ ∀ (j : Nat) (a : AV), l[j]? = some a → vR θ a (.int (g j))
  | .inl (1, l), .inl (1, n, .inr (.inl g)) => n = l.length ∧ ∀ (j : Nat) (a : AV), l[j]? = some a → vR θ a (.long (g j))
  | .inl (2, l), .inl (2, n, .inr (.inr (.inr (.inr g)))) => n = l.length ∧ ∀ (j : Nat) (a : AV), l[j]? = some a → vR θ a (va_rf (g j))
  | .inl (3, l), .inl (3, n, .inr (.inr (.inr (.inr g)))) => n = l.length ∧ ∀ (j : Nat) (a : AV), l[j]? = some a → vR θ a (va_rf (g j))
  | .inr (ci, fs), .inr (cj, gs) => cj = ci ∧ A2 (vR θ) fs gs
  | _, _ => False
def lR (θ : Nat → Int32) (lv : LW) (lv' : LV) : Prop := ∀ i v, lv[i]? = some v → v = aU ∨ ∃ w, px_g lv' i = some w ∧ vR θ v w ∧ w.category = 1
def hR (θ : Nat → Int32) (m : Nat) (h : HT) (h' : PH) : Prop := h'.length = m ∧ ∀ a c, hget h a = some c → c = .inl (99, []) ∨ ∃ y, h'[a]? = some y ∧ cR θ c y
def resR (θ : Nat → Int32) (q : AQ) (r : Rs) : Prop := match q, r with
  | .inl v, .inl w => A2 (vR θ) v.toList w.toList
  | .inr e, .inr f => f = e
  | _, _ => False
def CUT (θ : Nat → Int32) (cut : List EV → Bool) : Prop := ∃ l, cut l = true ∧ ∃ e ∈ l, eR θ e
/-! lists -/
theorem lget_eq {α : Type} : ∀ (l : List α) (i : Nat), lget l i = l[i]?
  | [], i => by simp [lget]
  | a :: l, 0 => rfl
  | a :: l, i + 1 => by
    have h := lget_eq l i
    show lget l i = _
    rw [h]; simp
theorem lset_ok {α : Type} {v : α} : ∀ {l : List α} {i : Nat} {k : List α → Bool}, lset l i v k = true → i < l.length ∧ k (l.set i v) = true
  | [], i, k, h => by cases (show false = true from h)
  | a :: l, 0, k, h => ⟨by simp, h⟩
  | a :: l, i + 1, k, h => by
    have h1 := lset_ok (l := l) (i := i) (k := fun t' => k (a :: t')) h
    exact ⟨by simp; exact h1.1, h1.2⟩
theorem ldrop_eq {α : Type} : ∀ (l : List α) (i : Nat), ldrop l i = l.drop i
  | [], i => by simp [ldrop]
  | a :: l, 0 => rfl
  | a :: l, i + 1 => by
    have h := ldrop_eq l i
    show ldrop l i = _
    rw [h]; simp
theorem hset_ok {h : HT} {a : Nat} {v : AE} {k : HT → Bool} (H : hset h a v k = true) : ∃ h2, k h2 = true ∧ (∃ x, hget h a = some x) ∧ ∀ b, hget h2 b = if b = a then some v else hget h b := by
  unfold hset at H
  split at H
  · rename_i r hr
    obtain ⟨h1, H⟩ := lset_ok H
    obtain ⟨h2, H⟩ := lset_ok H
    rw [lget_eq] at hr
    refine ⟨_, H, ⟨r[a % 16], ?_⟩, fun b => ?_⟩
    · unfold hget
      rw [lget_eq, hr]
      simp only
      rw [lget_eq]
      exact List.getElem?_eq_getElem h1
    · unfold hget
      rw [lget_eq, lget_eq]
      by_cases hd : Nat.div b 16 = Nat.div a 16
      · rw [hd, List.getElem?_set_self h2, hr]
        simp only
        rw [lget_eq, lget_eq]
        by_cases hm : Nat.mod b 16 = Nat.mod a 16
        · have hba : b = a := by
            have e1 := Nat.div_add_mod b 16
            have e2 := Nat.div_add_mod a 16
            have hd' : b / 16 = a / 16 := hd
            have hm' : b % 16 = a % 16 := hm
            omega
          rw [if_pos hba, hm, List.getElem?_set_self h1]
        · have hba : ¬ b = a := fun q => hm (by rw [q])
          rw [if_neg hba, List.getElem?_set_ne (fun q => hm q.symm)]
      · have hba : ¬ b = a := fun q => hd (by rw [q])
        rw [if_neg hba, List.getElem?_set_ne (fun q => hd q.symm)]
  · cases H
theorem repF_ok {α : Type} {v : α} : ∀ {n : Nat} {k : List α → Bool}, repF v n k = true → k (List.replicate n v) = true
  | 0, k, h => h
  | n + 1, k, h => repF_ok (n := n) (k := fun l => k (v :: l)) h
theorem natF_ok {n : Nat} {k : Nat → Bool} (h : natF n k = true) : k n = true := by cases n <;> exact h
theorem iF_ok {x : Int} {k : Int → Bool} (h : iF x k = true) : k x = true := by cases x <;> exact h
theorem blt_iff {a b : Nat} : Nat.blt a b = true ↔ a < b := by
  show Nat.ble (a + 1) b = true ↔ _
  rw [Nat.ble_eq]; omega
theorem bLt_iff {x y : Int} : bLt x y = true ↔ x < y := by
  cases x with
  | ofNat a => cases y with
    | ofNat b => show Nat.blt a b = true ↔ _; rw [blt_iff]; simp
    | negSucc b => show false = true ↔ _; constructor
                   · intro h; cases h
                   · intro h; exfalso; have := Int.negSucc_lt_zero b; have := Int.natCast_nonneg a; simp at h; omega
  | negSucc a => cases y with
    | ofNat b => show true = true ↔ _; constructor
                 · intro _; have := Int.negSucc_lt_zero a; have := Int.natCast_nonneg b; simp; omega
                 · intro _; rfl
    | negSucc b => show Nat.blt b a = true ↔ _; rw [blt_iff]; omega
theorem bEq_iff {x y : Int} : bEq x y = true ↔ x = y := by
  cases x with
  | ofNat a => cases y with
    | ofNat b => show Nat.beq a b = true ↔ _; rw [Nat.beq_eq]; exact ⟨fun h => by rw [h], fun h => Int.ofNat.inj h⟩
    | negSucc b => show false = true ↔ _; simp
  | negSucc a => cases y with
    | ofNat b => show false = true ↔ _; simp
    | negSucc b => show Nat.beq a b = true ↔ _; rw [Nat.beq_eq]; simp
theorem bLt_no {x y : Int} : bLt x y = false ↔ y ≤ x := by
  rw [← Bool.not_eq_true, bLt_iff]; omega
theorem bEq_no {x y : Int} : bEq x y = false ↔ ¬ x = y := by
  rw [← Bool.not_eq_true, bEq_iff]
theorem bLe_iff {x y : Int} : bLe x y = true ↔ x ≤ y := by
  unfold bLe; rw [Bool.not_eq_true', bLt_no]
theorem inI_iff {lo hi : Int} : inI lo hi = true ↔ -2147483648 ≤ lo ∧ hi ≤ 2147483647 := by
  unfold inI; rw [Bool.and_eq_true, bLe_iff, bLe_iff]
theorem beq_iff {a b : Nat} : Nat.beq a b = true ↔ a = b := by rw [Nat.beq_eq]
theorem i32_rng (x : Int32) : -2147483648 ≤ x.toInt ∧ x.toInt ≤ 2147483647 := ⟨by have := Int32.le_toInt x; omega, by have := Int32.toInt_lt x; omega⟩
theorem bm {a : Int} (h1 : -2147483648 ≤ a) (h2 : a ≤ 2147483647) : a.bmod 4294967296 = a := by
  rw [Int.bmod_def]
  omega
theorem toInt_inj {x y : Int32} (h : x.toInt = y.toInt) : x = y := by rw [← Int32.ofInt_toInt x, h, Int32.ofInt_toInt]
/-! numbers -/
section NUM
variable {θ : Nat → Int32} {env : EV} {cut : List EV → Bool}
theorem mul_neg_rng {a lo hi x : Int} (ha : a < 0) (h1 : lo ≤ x) (h2 : x ≤ hi) : a * hi ≤ a * x ∧ a * x ≤ a * lo := by
  have e1 := Int.mul_le_mul_of_nonpos_left (Int.le_of_lt ha) h2
  have e2 := Int.mul_le_mul_of_nonpos_left (Int.le_of_lt ha) h1
  exact ⟨e1, e2⟩
theorem mul_pos_rng {a lo hi x : Int} (ha : 0 ≤ a) (h1 : lo ≤ x) (h2 : x ≤ hi) : a * lo ≤ a * x ∧ a * x ≤ a * hi :=
  ⟨Int.mul_le_mul_of_nonneg_left h1 ha, Int.mul_le_mul_of_nonneg_left h2 ha⟩
theorem rKY {t : Nat} {a b : Int} {k : Int → Int → Bool} (he : eR θ env) (h : rK env (aY t a b) k = true) : ∃ lo hi, lo ≤ a * (θ t).toInt + b ∧ a * (θ t).toInt + b ≤ hi ∧ k lo hi = true := by
  simp only [rK, lget_eq] at h
  split at h
  · rename_i r hr
    obtain ⟨h1, h2⟩ := he _ _ hr
    split at h
    · rename_i ha
      obtain ⟨g1, g2⟩ := mul_pos_rng (bLt_no.mp ha) h1 h2
      exact ⟨_, _, by omega, by omega, h⟩
    · rename_i ha
      obtain ⟨g1, g2⟩ := mul_neg_rng (bLt_iff.mp ha) h1 h2
      exact ⟨_, _, by omega, by omega, h⟩
  · cases h
theorem rK_ok {v : AV} {w : Value} {k : Int → Int → Bool} (he : eR θ env) (hv : vR θ v w) (h : rK env v k = true) : ∃ (y : Int32) (lo hi : Int), w = .int y ∧ lo ≤ y.toInt ∧ y.toInt ≤ hi ∧ k lo hi = true := by
  rcases v with x | ⟨t, a, b⟩ | v
  · obtain ⟨y, rfl, e⟩ := hv
    exact ⟨y, x, x, rfl, by omega, by omega, h⟩
  · cases t with
    | zero => obtain ⟨y, rfl, e1, e2⟩ := hv; exact ⟨y, a, b, rfl, e1, e2, h⟩
    | succ t =>
      obtain ⟨y, rfl, e⟩ := hv
      obtain ⟨lo, hi, h1, h2, h3⟩ := rKY he h
      exact ⟨y, lo, hi, rfl, by omega, by omega, h3⟩
  · cases (show false = true from h)
def lZ (θ : Nat → Int32) (p : AN) (z : Int) : Prop := match p.1 with
  | 0 => z = p.2.2 ∧ p.2.1 = 0
  | t + 1 => z = p.2.1 * (θ t).toInt + p.2.2
theorem lin_ok {v : AV} {w : Value} {k : AN → Bool} {no : Bool} (he : eR θ env) (hv : vR θ v w) (h : lin env v k no = true) : (∃ (y : Int32) (p : AN), w = .int y ∧ lZ θ p y.toInt ∧ k p = true) ∨ no = true := by
  rcases v with x | ⟨t, a, b⟩ | v
  · obtain ⟨y, rfl, e⟩ := hv
    exact Or.inl ⟨y, (0, 0, x), rfl, ⟨e, rfl⟩, h⟩
  · cases t with
    | zero =>
      obtain ⟨y, rfl, e1, e2⟩ := hv
      simp only [lin] at h
      split at h
      · rename_i hb
        rw [bEq_iff] at hb
        exact Or.inl ⟨y, (0, 0, a), rfl, ⟨by show _ = a; omega, rfl⟩, h⟩
      · exact Or.inr h
    | succ t =>
      obtain ⟨y, rfl, e⟩ := hv
      simp only [lin, lget_eq] at h
      split at h
      · rename_i r hr
        obtain ⟨h1, h2⟩ := he _ _ hr
        split at h
        · rename_i hb
          rw [bEq_iff] at hb
          have h3 : (θ t).toInt = r.1 := by omega
          exact Or.inl ⟨y, (0, 0, a * r.1 + b), rfl, ⟨by show _ = a * r.1 + b; rw [e, h3], rfl⟩, iF_ok h⟩
        · exact Or.inl ⟨y, (t + 1, a, b), rfl, e, h⟩
      · exact Or.inr h
  · exact Or.inr h
theorem eR.set {env : EV} (he : eR θ env) {t : Nat} {q : Int × Int} (h : q.1 ≤ (θ t).toInt ∧ (θ t).toInt ≤ q.2) : eR θ (env.set t q) := by
  intro t' r hr
  by_cases ht : t = t'
  · subst ht
    rw [List.getElem?_set] at hr
    simp only [if_true] at hr
    split at hr
    · cases hr; exact h
    · cases hr
  · rw [List.getElem?_set_ne ht] at hr
    exact he t' r hr
theorem cutLe_ok {t : Nat} {z : Int} (he : eR θ env) (h : cutLe env t z cut = true) : CUT θ cut := by
  unfold cutLe at h
  rw [lget_eq] at h
  split at h
  · rename_i r hr
    obtain ⟨h1, h2⟩ := he _ _ hr
    split at h
    · obtain ⟨-, h⟩ := lset_ok h
      obtain ⟨-, h⟩ := lset_ok h
      refine ⟨_, h, ?_⟩
      rcases Int.lt_or_le z (θ t).toInt with q | q
      · exact ⟨_, List.mem_cons_of_mem _ List.mem_cons_self, he.set ⟨by show z + 1 ≤ _; omega, h2⟩⟩
      · exact ⟨_, List.mem_cons_self, he.set ⟨h1, q⟩⟩
    · cases h
  · cases h
theorem cutAll1_ok {t : Nat} {lo : Int} (he : eR θ env) : ∀ {n : Nat} {acc : List EV}, cutAll1 env t lo cut n acc = true → (∃ e ∈ acc, eR θ e) ∨ (lo ≤ (θ t).toInt ∧ (θ t).toInt < lo + n) → CUT θ cut
  | 0, acc, h, hc => ⟨acc, h, hc.resolve_right (by intro q; omega)⟩
  | n + 1, acc, h, hc => by
    have h1 := iF_ok (show iF (lo + Int.ofNat n) (fun z => lset env t (z, z) fun e => cutAll1 env t lo cut n (e :: acc)) = true from h)
    obtain ⟨-, h2⟩ := lset_ok h1
    refine cutAll1_ok he h2 ?_
    rcases hc with ⟨e, he1, he2⟩ | ⟨q1, q2⟩
    · exact Or.inl ⟨e, List.mem_cons_of_mem _ he1, he2⟩
    · by_cases hq : (θ t).toInt = lo + Int.ofNat n
      · exact Or.inl ⟨_, List.mem_cons_self, he.set ⟨by show lo + Int.ofNat n ≤ _; omega, by show _ ≤ lo + Int.ofNat n; omega⟩⟩
      · exact Or.inr ⟨q1, by simp at hq; omega⟩
theorem cutAll_ok {t : Nat} (he : eR θ env) (h : cutAll env t cut = true) : CUT θ cut := by
  unfold cutAll at h
  rw [lget_eq] at h
  split at h
  · rename_i r hr
    obtain ⟨h1, h2⟩ := he _ _ hr
    split at h
    · rename_i w hw
      split at h
      · refine cutAll1_ok he h (Or.inr ⟨h1, ?_⟩)
        have hw' : r.2 - r.1 = (w : Int) := hw
        omega
      · cases h
    · cases h
  · cases h
theorem cutSm_ok {t u : Nat} (he : eR θ env) (h : cutSm env t u cut = true) : CUT θ cut := by
  unfold cutSm widK at h
  split at h
  · split at h
    · dsimp only at h
      split at h
      · exact cutAll_ok he h
      · exact cutAll_ok he h
    · cases h
  · cases h
def ccZ (c : ClassFile.Cond) (x y : Int) : Prop := match c with
  | .eq => x = y
  | .ne => ¬ x = y
  | .lt => x < y
  | .ge => y ≤ x
  | .gt => y < x
  | .le => x ≤ y
theorem ccI_iff {c : ClassFile.Cond} {x y : Int32} : ccI c x y ↔ ccZ c x.toInt y.toInt := by
  cases c <;> simp only [ccI, ccZ, Int32.lt_iff_toInt_lt, Int32.le_iff_toInt_le]
  · exact ⟨fun h => by rw [h], toInt_inj⟩
  · exact ⟨fun h q => h (toInt_inj q), fun h q => h (by rw [q])⟩
theorem ccZ_sub {c : ClassFile.Cond} {x y : Int} : ccZ c x y ↔ ccZ c (x - y) 0 := by cases c <;> simp only [ccZ] <;> omega
theorem cmpK_iff {c : ClassFile.Cond} {x y : Int} : cmpK c x y = true ↔ ccZ c x y := by
  cases c <;> simp only [cmpK, ccZ, Bool.not_eq_true', bLt_iff, bEq_iff, bLt_no, bEq_no]
theorem cmpR_ok {c : ClassFile.Cond} {a b a' b' x y : Int} (h1 : a ≤ x) (h2 : x ≤ b) (h3 : a' ≤ y) (h4 : y ≤ b') {v : Bool} (h : cmpR c a b a' b' = some v) : ccZ c x y ↔ v = true := by
  cases c <;> simp only [cmpR] at h <;> (split at h) <;> (try (split at h)) <;> (first | (cases h; done) | skip) <;> cases h <;> rename_i q1 <;> (try rename_i q2) <;> simp only [Bool.or_eq_true, Bool.and_eq_true, Bool.or_eq_false_iff, Bool.and_eq_false_imp, bLt_iff, bEq_iff, bLt_no, bEq_no] at * <;> simp only [ccZ, iff_true, Bool.false_eq_true, iff_false] <;> omega
theorem cutC_ok {c : ClassFile.Cond} {t : Nat} {a b : Int} (he : eR θ env) (h : cutC env c t a b cut = true) : CUT θ cut := by
  unfold cutC at h
  split at h
  · split at h
    · have h := iF_ok h
      split at h
      · exact cutLe_ok he h
      · exact cutLe_ok he h
    · cases h
  · split at h
    · have h := iF_ok h
      split at h
      · exact cutLe_ok he h
      · exact cutLe_ok he h
    · cases h
  · exact cutLe_ok he (iF_ok h)
theorem wBrL_ok {c : ClassFile.Cond} {t : Nat} {a b z : Int} {y n : Bool} (he : eR θ env) (hz : lZ θ (t, a, b) z) (h : wBrL env c t a b cut y n = true) : (ccZ c z 0 ∧ y = true) ∨ (¬ ccZ c z 0 ∧ n = true) ∨ CUT θ cut := by
  have key : ∀ {b : Int}, z = b → (match cmpK c b 0 with | true => y | false => n) = true → (ccZ c z 0 ∧ y = true) ∨ (¬ ccZ c z 0 ∧ n = true) ∨ CUT θ cut := by
    intro b e h
    subst e
    split at h
    · rename_i q; exact Or.inl ⟨cmpK_iff.mp q, h⟩
    · rename_i q; exact Or.inr (Or.inl ⟨fun q2 => (by rw [cmpK_iff.mpr q2] at q; cases q), h⟩)
  cases t with
  | zero => exact key hz.1 h
  | succ t =>
    simp only [wBrL] at h
    split at h
    · rename_i ha
      rw [bEq_iff] at ha
      have hz' : z = a * (θ t).toInt + b := hz
      rw [ha, Int.zero_mul, Int.zero_add] at hz'
      exact key hz' h
    · have hz' : z = a * (θ t).toInt + b := hz
      obtain ⟨lo, hi, h1, h2, h⟩ := rKY he h
      rw [← hz'] at h1 h2
      split at h
      · rename_i q; exact Or.inl ⟨(cmpR_ok h1 h2 (Int.le_refl 0) (Int.le_refl 0) q).mpr rfl, h⟩
      · rename_i q; exact Or.inr (Or.inl ⟨fun q2 => (by have := (cmpR_ok h1 h2 (Int.le_refl 0) (Int.le_refl 0) q).mp q2; cases this), h⟩)
      · exact Or.inr (Or.inr (cutC_ok he h))
theorem lZ_l {p q : AN} {x y : Int} (g : Int → Int → Int) (hg : ∀ a b a' b' u : Int, g (a * u + b) (a' * u + b') = g a a' * u + g b b') (hx : lZ θ p x) (hy : lZ θ q y) (h : Nat.beq p.1 0 = true) : lZ θ (q.1, g p.2.1 q.2.1, g p.2.2 q.2.2) (g x y) ∨ g 0 0 ≠ 0 := by
  by_cases h00 : g 0 0 = 0
  · left
    obtain ⟨t, a, b⟩ := p
    obtain ⟨t', a', b'⟩ := q
    have ht : t = 0 := beq_iff.mp h
    subst ht
    obtain ⟨rfl, ha⟩ := hx
    have ha : a = 0 := ha
    subst ha
    cases t' with
    | zero =>
      obtain ⟨rfl, ha'⟩ := hy
      have ha' : a' = 0 := ha'
      subst ha'
      exact ⟨rfl, h00⟩
    | succ t' =>
      have hy : y = a' * (θ t').toInt + b' := hy
      show g x y = g 0 a' * (θ t').toInt + g x b'
      have := hg 0 x a' b' (θ t').toInt
      rw [Int.zero_mul, Int.zero_add] at this
      rw [hy, this]
  · exact Or.inr h00
theorem lZ_r {p q : AN} {x y : Int} (g : Int → Int → Int) (hg : ∀ a b a' b' u : Int, g (a * u + b) (a' * u + b') = g a a' * u + g b b') (hx : lZ θ p x) (hy : lZ θ q y) (h : Nat.beq q.1 0 = true) : lZ θ (p.1, g p.2.1 q.2.1, g p.2.2 q.2.2) (g x y) ∨ g 0 0 ≠ 0 := by
  by_cases h00 : g 0 0 = 0
  · left
    obtain ⟨t, a, b⟩ := p
    obtain ⟨t', a', b'⟩ := q
    have ht : t' = 0 := beq_iff.mp h
    subst ht
    obtain ⟨rfl, ha⟩ := hy
    have ha : a' = 0 := ha
    subst ha
    cases t with
    | zero =>
      obtain ⟨rfl, ha'⟩ := hx
      have ha' : a = 0 := ha'
      subst ha'
      exact ⟨rfl, h00⟩
    | succ t =>
      have hx : x = a * (θ t).toInt + b := hx
      show g x y = g a 0 * (θ t).toInt + g b y
      have := hg a b 0 y (θ t).toInt
      rw [Int.zero_mul, Int.zero_add] at this
      rw [hx, this]
  · exact Or.inr h00
theorem lZ_s {p q : AN} {x y : Int} (g : Int → Int → Int) (hg : ∀ a b a' b' u : Int, g (a * u + b) (a' * u + b') = g a a' * u + g b b') (h00 : g 0 0 = 0) (hx : lZ θ p x) (hy : lZ θ q y) (h : Nat.beq p.1 q.1 = true) : lZ θ (p.1, g p.2.1 q.2.1, g p.2.2 q.2.2) (g x y) := by
  obtain ⟨t, a, b⟩ := p
  obtain ⟨t', a', b'⟩ := q
  have ht : t = t' := beq_iff.mp h
  subst ht
  cases t with
  | zero =>
    obtain ⟨rfl, ha⟩ := hx
    obtain ⟨rfl, ha'⟩ := hy
    have ha : a = 0 := ha
    have ha' : a' = 0 := ha'
    subst ha
    subst ha'
    exact ⟨rfl, h00⟩
  | succ t =>
    have hx : x = a * (θ t).toInt + b := hx
    have hy : y = a' * (θ t).toInt + b' := hy
    show g x y = g a a' * (θ t).toInt + g b b'
    rw [hx, hy, hg]
theorem g_add (a b a' b' u : Int) : (a * u + b) + (a' * u + b') = (a + a') * u + (b + b') := by rw [Int.add_mul]; omega
theorem g_sub (a b a' b' u : Int) : (a * u + b) - (a' * u + b') = (a - a') * u + (b - b') := by rw [Int.sub_mul]; omega
theorem wBr2_ok {c : ClassFile.Cond} {x y : AV} {xv yv : Int32} {t f : Bool} (he : eR θ env) (hx : vR θ x (.int xv)) (hy : vR θ y (.int yv)) (h : wBr2 env c x y cut t f = true) : (ccI c xv yv ∧ t = true) ∨ (¬ ccI c xv yv ∧ f = true) ∨ CUT θ cut := by
  unfold wBr2 at h
  obtain ⟨x1, a, b, e1, a1, a2, h⟩ := rK_ok he hx h
  cases e1
  obtain ⟨y1, a', b', e2, b1, b2, h⟩ := rK_ok he hy h
  cases e2
  have fin : ∀ {z : Int} {t' : Nat} {a b : Int}, z = xv.toInt - yv.toInt → lZ θ (t', a, b) z → wBrL env c t' a b cut t f = true → (ccI c xv yv ∧ t = true) ∨ (¬ ccI c xv yv ∧ f = true) ∨ CUT θ cut := by
    intro z t' a b ez hz h
    rw [ccI_iff, ccZ_sub, ← ez]
    exact wBrL_ok he hz h
  split at h
  · rename_i q
    rw [ccI_iff]
    exact Or.inl ⟨(cmpR_ok a1 a2 b1 b2 q).mpr rfl, h⟩
  · rename_i q
    rw [ccI_iff]
    exact Or.inr (Or.inl ⟨fun q2 => (by have := (cmpR_ok a1 a2 b1 b2 q).mp q2; cases this), h⟩)
  · rcases lin_ok he hx h with ⟨x2, p, e1, hp, h⟩ | h
    · cases e1
      rcases lin_ok he hy h with ⟨y2, q, e2, hq, h⟩ | h
      · cases e2
        split at h
        · rename_i hp0
          exact fin rfl ((lZ_l (· - ·) g_sub hp hq hp0).resolve_right (by simp)) h
        · rename_i hq0 _
          exact fin rfl ((lZ_r (· - ·) g_sub hp hq hq0).resolve_right (by simp)) h
        · split at h
          · rename_i hpq
            exact fin rfl (lZ_s (· - ·) g_sub (by simp) hp hq hpq) h
          · exact Or.inr (Or.inr (cutSm_ok he h))
      · exact Or.inr (Or.inr (cutAll_ok he h))
    · rcases lin_ok he hy h with ⟨y2, q, e2, hq, h⟩ | h
      · exact Or.inr (Or.inr (cutAll_ok he h))
      · cases h
theorem wBr_ok {c : ClassFile.Cond} {x y : AV} {wx wy : Value} {t f : Bool} (he : eR θ env) (hx : vR θ x wx) (hy : vR θ y wy) (h : wBr env c x y cut t f = true) : ∃ xv yv, wx = .int xv ∧ wy = .int yv ∧ ((ccI c xv yv ∧ t = true) ∨ (¬ ccI c xv yv ∧ f = true) ∨ CUT θ cut) := by
  have gen : wBr2 env c x y cut t f = true → ∃ xv yv, wx = .int xv ∧ wy = .int yv ∧ ((ccI c xv yv ∧ t = true) ∨ (¬ ccI c xv yv ∧ f = true) ∨ CUT θ cut) := by
    intro h
    have h0 := h
    unfold wBr2 at h0
    obtain ⟨xv, a, b, rfl, a1, a2, h1⟩ := rK_ok he hx h0
    obtain ⟨yv, a', b', rfl, b1, b2, h2⟩ := rK_ok he hy h1
    exact ⟨xv, yv, rfl, rfl, wBr2_ok he hx hy h⟩
  unfold wBr at h
  split at h
  · obtain ⟨xv, rfl, e1⟩ := hx
    obtain ⟨yv, rfl, e2⟩ := hy
    refine ⟨xv, yv, rfl, rfl, ?_⟩
    rw [ccI_iff, e1, e2]
    split at h
    · rename_i q; exact Or.inl ⟨cmpK_iff.mp q, h⟩
    · rename_i q; exact Or.inr (Or.inl ⟨fun q2 => (by rw [cmpK_iff.mpr q2] at q; cases q), h⟩)
  · exact gen h
theorem kInt_ok {z : Int} {k : AV → Bool} (h : kInt z k = true) : k (.inl (z.bmod 4294967296)) = true := by
  unfold kInt at h
  split at h
  · rename_i q
    rw [inI_iff] at q
    rw [bm q.1 q.2]
    exact iF_ok h
  · exact iF_ok h
theorem mkL_ok {t : Nat} {a b z : Int} {k : AV → Bool} {els : Bool} {zv : Int32} (he : eR θ env) (hz : lZ θ (t, a, b) z) (hzv : zv.toInt = z.bmod 4294967296) (h : mkL env t a b k els = true) : (∃ v, k v = true ∧ vR θ v (.int zv)) ∨ els = true := by
  cases t with
  | zero =>
    have e : z = b := hz.1
    subst e
    exact Or.inl ⟨_, kInt_ok h, zv, rfl, hzv⟩
  | succ t =>
    have hz' : z = a * (θ t).toInt + b := hz
    simp only [mkL] at h
    split at h
    · rename_i ha
      rw [bEq_iff] at ha
      rw [ha, Int.zero_mul, Int.zero_add] at hz'
      subst hz'
      exact Or.inl ⟨_, kInt_ok h, zv, rfl, hzv⟩
    · obtain ⟨lo, hi, h1, h2, h⟩ := rKY he h
      split at h
      · rename_i q
        rw [inI_iff] at q
        refine Or.inl ⟨_, h, zv, rfl, ?_⟩
        rw [hzv, hz', bm (by omega) (by omega)]
      · exact Or.inr h
theorem top_R (x : Int32) : vR θ aTop (.int x) := ⟨x, rfl, (i32_rng x).1, (i32_rng x).2⟩
theorem isNum_ok {v : AV} {w : Value} (h : isNum v = true) (hv : vR θ v w) : ∃ y : Int32, w = .int y := by
  rcases v with x | ⟨_ | t, a, b⟩ | v
  · obtain ⟨y, rfl, -⟩ := hv; exact ⟨y, rfl⟩
  · obtain ⟨y, rfl, -⟩ := hv; exact ⟨y, rfl⟩
  · obtain ⟨y, rfl, -⟩ := hv; exact ⟨y, rfl⟩
  · cases (show false = true from h)
theorem wAdd_ok {x y : AV} {wx wy : Value} {k : AV → Bool} (he : eR θ env) (hx : vR θ x wx) (hy : vR θ y wy) (h : wAdd env x y cut k = true) : ∃ xv yv, wx = .int xv ∧ wy = .int yv ∧ ((∃ v, k v = true ∧ vR θ v (.int (xv + yv))) ∨ CUT θ cut) := by
  unfold wAdd at h
  split at h
  · obtain ⟨xv, rfl, e1⟩ := hx
    obtain ⟨yv, rfl, e2⟩ := hy
    exact ⟨xv, yv, rfl, rfl, Or.inl ⟨_, kInt_ok h, xv + yv, rfl, by rw [Int32.toInt_add, e1, e2]⟩⟩
  · split at h
    · cases h
    · rename_i hn
      rw [Bool.and_eq_true] at hn
      obtain ⟨xv, rfl⟩ := isNum_ok hn.1 hx
      obtain ⟨yv, rfl⟩ := isNum_ok hn.2 hy
      refine ⟨xv, yv, rfl, rfl, ?_⟩
      have top : k aTop = true → (∃ v, k v = true ∧ vR θ v (.int (xv + yv))) ∨ CUT θ cut := fun h => Or.inl ⟨_, h, top_R _⟩
      have fin : ∀ {t : Nat} {a b : Int}, lZ θ (t, a, b) (xv.toInt + yv.toInt) → mkL env t a b k (k aTop) = true → (∃ v, k v = true ∧ vR θ v (.int (xv + yv))) ∨ CUT θ cut := by
        intro t a b hz h
        rcases mkL_ok (zv := xv + yv) he hz (by rw [Int32.toInt_add]) h with q | q
        · exact Or.inl q
        · exact top q
      rcases lin_ok he hx h with ⟨x2, p, e1, hp, h⟩ | h
      · cases e1
        rcases lin_ok he hy h with ⟨y2, q, e2, hq, h⟩ | h
        · cases e2
          split at h
          · rename_i hp0
            exact fin ((lZ_l (· + ·) g_add hp hq hp0).resolve_right (by simp)) h
          · rename_i hq0 _
            exact fin ((lZ_r (· + ·) g_add hp hq hq0).resolve_right (by simp)) h
          · split at h
            · rename_i hpq
              exact fin (lZ_s (· + ·) g_add (by simp) hp hq hpq) h
            · exact Or.inr (cutSm_ok he h)
        · exact top h
      · exact top h
theorem wSub_ok {x y : AV} {wx wy : Value} {k : AV → Bool} (he : eR θ env) (hx : vR θ x wx) (hy : vR θ y wy) (h : wSub env x y cut k = true) : ∃ xv yv, wx = .int xv ∧ wy = .int yv ∧ ((∃ v, k v = true ∧ vR θ v (.int (xv - yv))) ∨ CUT θ cut) := by
  unfold wSub at h
  split at h
  · obtain ⟨xv, rfl, e1⟩ := hx
    obtain ⟨yv, rfl, e2⟩ := hy
    exact ⟨xv, yv, rfl, rfl, Or.inl ⟨_, kInt_ok h, xv - yv, rfl, by rw [Int32.toInt_sub, e1, e2]⟩⟩
  · split at h
    · cases h
    · rename_i hn
      rw [Bool.and_eq_true] at hn
      obtain ⟨xv, rfl⟩ := isNum_ok hn.1 hx
      obtain ⟨yv, rfl⟩ := isNum_ok hn.2 hy
      refine ⟨xv, yv, rfl, rfl, ?_⟩
      have top : k aTop = true → (∃ v, k v = true ∧ vR θ v (.int (xv - yv))) ∨ CUT θ cut := fun h => Or.inl ⟨_, h, top_R _⟩
      have fin : ∀ {t : Nat} {a b : Int}, lZ θ (t, a, b) (xv.toInt - yv.toInt) → mkL env t a b k (k aTop) = true → (∃ v, k v = true ∧ vR θ v (.int (xv - yv))) ∨ CUT θ cut := by
        intro t a b hz h
        rcases mkL_ok (zv := xv - yv) he hz (by rw [Int32.toInt_sub]) h with q | q
        · exact Or.inl q
        · exact top q
      rcases lin_ok he hx h with ⟨x2, p, e1, hp, h⟩ | h
      · cases e1
        rcases lin_ok he hy h with ⟨y2, q, e2, hq, h⟩ | h
        · cases e2
          split at h
          · rename_i hp0
            exact fin ((lZ_l (· - ·) g_sub hp hq hp0).resolve_right (by simp)) h
          · rename_i hq0 _
            exact fin ((lZ_r (· - ·) g_sub hp hq hq0).resolve_right (by simp)) h
          · split at h
            · rename_i hpq
              exact fin (lZ_s (· - ·) g_sub (by simp) hp hq hpq) h
            · exact Or.inr (cutSm_ok he h)
        · exact top h
      · exact top h
theorem lZ_ml {p q : AN} {x y : Int} (hx : lZ θ p x) (hy : lZ θ q y) (h : Nat.beq p.1 0 = true) : lZ θ (q.1, p.2.2 * q.2.1, p.2.2 * q.2.2) (x * y) := by
  obtain ⟨t, a, b⟩ := p
  obtain ⟨t', a', b'⟩ := q
  have ht : t = 0 := beq_iff.mp h
  subst ht
  obtain ⟨rfl, -⟩ := hx
  cases t' with
  | zero =>
    obtain ⟨rfl, ha'⟩ := hy
    have ha' : a' = 0 := ha'
    subst ha'
    exact ⟨rfl, Int.mul_zero _⟩
  | succ t' =>
    have hy : y = a' * (θ t').toInt + b' := hy
    show x * y = x * a' * (θ t').toInt + x * b'
    rw [hy, Int.mul_add, Int.mul_assoc]
theorem lZ_mr {p q : AN} {x y : Int} (hx : lZ θ p x) (hy : lZ θ q y) (h : Nat.beq q.1 0 = true) : lZ θ (p.1, p.2.1 * q.2.2, p.2.2 * q.2.2) (x * y) := by
  obtain ⟨t, a, b⟩ := p
  obtain ⟨t', a', b'⟩ := q
  have ht : t' = 0 := beq_iff.mp h
  subst ht
  obtain ⟨rfl, -⟩ := hy
  cases t with
  | zero =>
    obtain ⟨rfl, ha'⟩ := hx
    have ha' : a = 0 := ha'
    subst ha'
    exact ⟨rfl, Int.zero_mul _⟩
  | succ t =>
    have hx : x = a * (θ t).toInt + b := hx
    show x * y = a * y * (θ t).toInt + b * y
    rw [hx, Int.add_mul, Int.mul_right_comm]
theorem wMul_ok {x y : AV} {wx wy : Value} {k : AV → Bool} (he : eR θ env) (hx : vR θ x wx) (hy : vR θ y wy) (h : wMul env x y cut k = true) : ∃ xv yv, wx = .int xv ∧ wy = .int yv ∧ ((∃ v, k v = true ∧ vR θ v (.int (xv * yv))) ∨ CUT θ cut) := by
  unfold wMul at h
  split at h
  · obtain ⟨xv, rfl, e1⟩ := hx
    obtain ⟨yv, rfl, e2⟩ := hy
    exact ⟨xv, yv, rfl, rfl, Or.inl ⟨_, kInt_ok h, xv * yv, rfl, by rw [Int32.toInt_mul, e1, e2]⟩⟩
  · split at h
    · cases h
    · rename_i hn
      rw [Bool.and_eq_true] at hn
      obtain ⟨xv, rfl⟩ := isNum_ok hn.1 hx
      obtain ⟨yv, rfl⟩ := isNum_ok hn.2 hy
      refine ⟨xv, yv, rfl, rfl, ?_⟩
      have top : k aTop = true → (∃ v, k v = true ∧ vR θ v (.int (xv * yv))) ∨ CUT θ cut := fun h => Or.inl ⟨_, h, top_R _⟩
      have fin : ∀ {t : Nat} {a b : Int}, lZ θ (t, a, b) (xv.toInt * yv.toInt) → mkL env t a b k (k aTop) = true → (∃ v, k v = true ∧ vR θ v (.int (xv * yv))) ∨ CUT θ cut := by
        intro t a b hz h
        rcases mkL_ok (zv := xv * yv) he hz (by rw [Int32.toInt_mul]) h with q | q
        · exact Or.inl q
        · exact top q
      rcases lin_ok he hx h with ⟨x2, p, e1, hp, h⟩ | h
      · cases e1
        rcases lin_ok he hy h with ⟨y2, q, e2, hq, h⟩ | h
        · cases e2
          split at h
          · rename_i hp0
            exact fin (lZ_ml hp hq hp0) h
          · rename_i hq0 _
            exact fin (lZ_mr hp hq hq0) h
          · exact Or.inr (cutSm_ok he h)
        · exact top h
      · exact top h
theorem known {x : Int32} {a b : Int} (h1 : a ≤ x.toInt) (h2 : x.toInt ≤ b) (h : a = b) : x = Int32.ofInt a := by
  have h3 : x.toInt = a := by omega
  rw [← h3, Int32.ofInt_toInt]
theorem wAny_ok {x y : AV} {wx wy : Value} {f : Int32 → Int32 → Int32} {k : AV → Bool} (he : eR θ env) (hx : vR θ x wx) (hy : vR θ y wy) (h : wAny env x y f k = true) : ∃ xv yv, wx = .int xv ∧ wy = .int yv ∧ ∃ v, k v = true ∧ vR θ v (.int (f xv yv)) := by
  unfold wAny at h
  obtain ⟨xv, a, b, rfl, a1, a2, h⟩ := rK_ok he hx h
  obtain ⟨yv, a', b', rfl, b1, b2, h⟩ := rK_ok he hy h
  refine ⟨xv, yv, rfl, rfl, ?_⟩
  split at h
  · rename_i q
    rw [Bool.and_eq_true, bEq_iff, bEq_iff] at q
    refine ⟨_, iF_ok h, f xv yv, rfl, ?_⟩
    unfold bin
    rw [← known a1 a2 q.1, ← known b1 b2 q.2]
  · exact ⟨_, h, top_R _⟩
theorem wNz_ok {y : AV} {wy : Value} {k : Bool} (he : eR θ env) (hy : vR θ y wy) (h : wNz env y k = true) : k = true ∧ ∀ yv, wy = .int yv → ¬ yv = 0 := by
  unfold wNz at h
  obtain ⟨yv, a, b, rfl, a1, a2, h⟩ := rK_ok he hy h
  split at h
  · rename_i q
    refine ⟨h, fun y' e q2 => ?_⟩
    cases e
    subst q2
    rw [Bool.or_eq_true, bLt_iff, bLt_iff] at q
    have : (0 : Int32).toInt = 0 := by decide
    omega
  · cases h
/-- a place -/
theorem idx_of {iv : Int32} {j : Nat} (h : iv.toInt = (j : Int)) : iv.toNatClampNeg = j := by
  show iv.toInt.toNat = j
  rw [h]; rfl
theorem wIdx_ok {v : AV} {w : Value} {k : Nat → Bool} (he : eR θ env) (hv : vR θ v w) (h : wIdx env v cut k = true) : ∃ iv, w = .int iv ∧ ((∃ j : Nat, iv.toInt = (j : Int) ∧ k j = true) ∨ CUT θ cut) := by
  unfold wIdx at h
  split at h
  · obtain ⟨iv, rfl, e⟩ := hv
    exact ⟨iv, rfl, Or.inl ⟨_, e, h⟩⟩
  · rcases lin_ok he hv h with ⟨iv, p, rfl, hp, h⟩ | h
    · refine ⟨iv, rfl, ?_⟩
      obtain ⟨t, a, b⟩ := p
      split at h
      · rename_i j e1 e2
        have e1 : t = 0 := e1
        have e2 : b = Int.ofNat j := e2
        subst e1
        exact Or.inl ⟨j, hp.1.trans e2, h⟩
      · cases h
      · exact Or.inr (cutAll_ok he h)
    · cases h
theorem vin {iv : Int32} {j n : Nat} (h : iv.toInt = (j : Int)) (hj : j < n) : vp_in iv n := vp_in_iff.mpr ⟨by omega, by omega⟩
theorem linChk_ok : ∀ {n : Nat} {l : LW} {x c : Int}, linChk n l x c = true → ∀ i, i < n → l[i]? = some (.inl (x + c * (i : Int)))
  | 0, _, _, _, _, i, hi => by omega
  | n + 1, [], x, c, h, i, hi => by cases (show false = true from h)
  | n + 1, .inr b :: r, x, c, h, i, hi => by cases (show false = true from h)
  | n + 1, .inl y :: r, x, c, h, i, hi => by
    have h1 : (match bEq y x with
        | true => iF (x + c) fun z => linChk n r z c
        | false => false) = true := h
    split at h1
    · rename_i q
      rw [bEq_iff] at q
      subst q
      have h2 := iF_ok h1
      cases i with
      | zero => simp
      | succ i =>
        have := linChk_ok h2 i (by omega)
        rw [List.getElem?_cons_succ, this]
        have e : y + c + c * (i : Int) = y + c * ((i + 1 : Nat) : Int) := by
          rw [Int.natCast_add, Int.mul_add]; simp; omega
        rw [e]
    · cases h1
end NUM
/-! every instruction of the quick evaluator, with unknown arguments -/
theorem c_0 {θ : Nat → Int32} {l : List AV} {y : PE} (h : cR θ (.inl (0, l)) y) : ∃ g, y = .inl (0, l.length, .inl g) ∧ ∀ (j : Nat) (a : AV), l[j]? = some a → vR θ a (.int (g j)) := by
  rcases y with ⟨t, n, g | g | g | g | g⟩ | ⟨ci, fs⟩
  · rcases t with _ | t
    · obtain ⟨rfl, h⟩ := h; exact ⟨g, rfl, h⟩
    · exact h.elim
  all_goals (first | exact h.elim | (rcases t with _ | _ | _ | _ | t <;> exact h.elim))
theorem c_1 {θ : Nat → Int32} {l : List AV} {y : PE} (h : cR θ (.inl (1, l)) y) : ∃ g, y = .inl (1, l.length, .inr (.inl g)) ∧ ∀ (j : Nat) (a : AV), l[j]? = some a → vR θ a (.long (g j)) := by
  rcases y with ⟨t, n, g | g | g | g | g⟩ | ⟨ci, fs⟩
  · rcases t with _ | _ | t <;> exact h.elim
  · rcases t with _ | _ | t
    · exact h.elim
    · obtain ⟨rfl, h⟩ := h; exact ⟨g, rfl, h⟩
    · exact h.elim
  all_goals (first | exact h.elim | (rcases t with _ | _ | _ | _ | t <;> exact h.elim))
theorem c_2 {θ : Nat → Int32} {l : List AV} {y : PE} (h : cR θ (.inl (2, l)) y) : ∃ g, y = .inl (2, l.length, .inr (.inr (.inr (.inr g)))) ∧ ∀ (j : Nat) (a : AV), l[j]? = some a → vR θ a (va_rf (g j)) := by
  rcases y with ⟨t, n, g | g | g | g | g⟩ | ⟨ci, fs⟩
  · rcases t with _ | _ | _ | t <;> exact h.elim
  · rcases t with _ | _ | _ | t <;> exact h.elim
  · rcases t with _ | _ | _ | t <;> exact h.elim
  · rcases t with _ | _ | _ | t <;> exact h.elim
  · rcases t with _ | _ | _ | t
    · exact h.elim
    · exact h.elim
    · obtain ⟨rfl, h⟩ := h; exact ⟨g, rfl, h⟩
    · exact h.elim
  · exact h.elim
theorem c_3 {θ : Nat → Int32} {l : List AV} {y : PE} (h : cR θ (.inl (3, l)) y) : ∃ g, y = .inl (3, l.length, .inr (.inr (.inr (.inr g)))) ∧ ∀ (j : Nat) (a : AV), l[j]? = some a → vR θ a (va_rf (g j)) := by
  rcases y with ⟨t, n, g | g | g | g | g⟩ | ⟨ci, fs⟩
  · rcases t with _ | _ | _ | _ | t <;> exact h.elim
  · rcases t with _ | _ | _ | _ | t <;> exact h.elim
  · rcases t with _ | _ | _ | _ | t <;> exact h.elim
  · rcases t with _ | _ | _ | _ | t <;> exact h.elim
  · rcases t with _ | _ | _ | _ | t
    · exact h.elim
    · exact h.elim
    · exact h.elim
    · obtain ⟨rfl, h⟩ := h; exact ⟨g, rfl, h⟩
    · exact h.elim
  · exact h.elim
theorem c_o {θ : Nat → Int32} {ci : Nat} {fs : List AV} {y : PE} (h : cR θ (.inr (ci, fs)) y) : ∃ gs, y = .inr (ci, gs) ∧ A2 (vR θ) fs gs := by
  rcases y with ⟨t, n, g⟩ | ⟨cj, gs⟩
  · exact (show False from by rcases t with _ | _ | _ | _ | t <;> rcases g with g | g | g | g | g <;> exact h).elim
  · obtain ⟨rfl, h⟩ := h; exact ⟨gs, rfl, h⟩
theorem c_set0 {θ : Nat → Int32} {l : List AV} {g : Nat → Int32} (hg : ∀ (j : Nat) (a : AV), l[j]? = some a → vR θ a (.int (g j))) {j : Nat} {v : AV} {x : Int32} (hv : vR θ v (.int x)) : cR θ (.inl (0, l.set j v)) (.inl (0, l.length, .inl (upd g j x))) := by
  refine ⟨by simp, fun i a hi => ?_⟩
  by_cases h : j = i
  · subst h
    rw [List.getElem?_set] at hi
    simp only [if_true] at hi
    split at hi
    · cases hi; rw [show upd g j x j = x from if_pos rfl]; exact hv
    · cases hi
  · rw [List.getElem?_set_ne h] at hi
    rw [show upd g j x i = g i from if_neg (fun q => h q.symm)]
    exact hg i a hi
theorem iald_mk {S : Nat × (Nat → Int32)} {h : PH} {i : Int32} {a n : Nat} {g : Nat → Int32} {r : List Value} {k : List Value → Prop} (h1 : h[a]? = some (.inl (0, n, .inl g))) (h2 : vp_in i n) (h3 : k (.int (g i.toNatClampNeg) :: r)) : p_iald S h (.int i :: .ref a :: r) k := by
  simp only [p_iald, h1]; exact ⟨h2, h3⟩
theorem iast_mk {h : PH} {x i : Int32} {a n : Nat} {g : Nat → Int32} {r : List Value} {k : List Value → PH → Prop} (h1 : h[a]? = some (.inl (0, n, .inl g))) (h2 : vp_in i n) (h3 : k r (h.set a (.inl (0, n, .inl (upd g i.toNatClampNeg x))))) : p_iast h (.int x :: .int i :: .ref a :: r) k := by
  simp only [p_iast, h1]; exact ⟨h2, h3⟩
theorem lald_mk {h : PH} {i : Int32} {a n : Nat} {g : Nat → Int64} {r : List Value} {k : List Value → Prop} (h1 : h[a]? = some (.inl (1, n, .inr (.inl g)))) (h2 : vp_in i n) (h3 : k (.long (g i.toNatClampNeg) :: r)) : p_lald h (.int i :: .ref a :: r) k := by
  simp only [p_lald, h1]; exact ⟨h2, h3⟩
theorem last_mk {h : PH} {x : Int64} {i : Int32} {a n : Nat} {g : Nat → Int64} {r : List Value} {k : List Value → PH → Prop} (h1 : h[a]? = some (.inl (1, n, .inr (.inl g)))) (h2 : vp_in i n) (h3 : k r (h.set a (.inl (1, n, .inr (.inl (vp_updL g i.toNatClampNeg x)))))) : p_last h (.long x :: .int i :: .ref a :: r) k := by
  simp only [p_last, h1]; exact ⟨h2, h3⟩
theorem aald_mk {h : PH} {i : Int32} {a n t q : Nat} {g : Nat → Option Nat} {r : List Value} {k : List Value → Prop} (h1 : h[a]? = some (.inl (t, n, .inr (.inr (.inr (.inr g)))))) (ht : t = 2 ∨ t = 3) (h2 : vp_in i n) (hq : g i.toNatClampNeg = some q) (h3 : k (.ref q :: r)) : p_aald h (.int i :: .ref a :: r) k := by
  simp only [p_aald, h1]; exact ⟨ht, h2, q, hq, h3⟩
theorem aast_mk {h : PH} {v : Nat} {i : Int32} {a n : Nat} {g : Nat → Option Nat} {fs : List Value} {r : List Value} {k : List Value → PH → Prop} (h1 : h[a]? = some (.inl (2, n, .inr (.inr (.inr (.inr g)))))) (hv : h[v]? = some (.inr (1, fs))) (h2 : vp_in i n) (h3 : k r (h.set a (.inl (2, n, .inr (.inr (.inr (.inr (va_up g i.toNatClampNeg (some v))))))))) : p_aast h (.ref v :: .int i :: .ref a :: r) k := by
  simp only [p_aast, h1, hv]; exact ⟨h2, h3⟩
theorem alen_mk {S : Nat × (Nat → Int32)} {h : PH} {a t : Nat} {x : vp_A} {r : List Value} {k : List Value → Prop} (h1 : h[a]? = some (.inl (t, x))) (ht : t < 4) (h3 : k (.int (Int32.ofNat x.1) :: r)) : p_alen S h (.ref a :: r) k := by
  simp only [p_alen, h1]; exact ⟨ht, h3⟩
theorem get_mk {h : PH} {ci f a : Nat} {fs : List Value} {v : Value} {r : List Value} {k : List Value → Prop} (h1 : h[a]? = some (.inr (ci, fs))) (hf : f < fnum ci) (hv : fs[f]? = some v) (h3 : k (v :: r)) : p_get h ci f (.ref a :: r) k := by
  simp only [p_get, h1]; exact ⟨trivial, hf, v, hv, h3⟩
theorem put_mk {h : PH} {ci f a : Nat} {fs : List Value} {v : Value} {r : List Value} {k : List Value → PH → Prop} (h1 : h[a]? = some (.inr (ci, fs))) (hf : f < fnum ci) (hl : f < fs.length) (hn : narrow (ftyX ci f) v = v) (hg : fits (ftyX ci f) v = true) (h3 : k r (h.set a (.inr (ci, fs.set f v)))) : p_put h ci f (v :: .ref a :: r) k := by
  simp only [p_put, h1]; exact ⟨trivial, hf, hl, hn, hg, h3⟩
theorem copy_mk {h : PH} {n dp sp : Int32} {a1 a0 n0 n1 : Nat} {f g : Nat → Int32} {r : List Value} {k : List Value → PH → Prop} (h0 : h[a0]? = some (.inl (0, n0, .inl f))) (h1 : h[a1]? = some (.inl (0, n1, .inl g))) (q1 : ¬ sp < 0) (q2 : ¬ dp < 0) (q3 : ¬ n < 0) (q4 : sp.toNatClampNeg + n.toNatClampNeg ≤ n0) (q5 : dp.toNatClampNeg + n.toNatClampNeg ≤ n1) (h3 : k r (h.set a1 (.inl (0, n1, .inl (va_cpy f g sp.toNatClampNeg dp.toNatClampNeg n.toNatClampNeg))))) : p_copy h (.int n :: .int dp :: .ref a1 :: .int sp :: .ref a0 :: r) k := by
  simp only [p_copy, h0, h1]; exact ⟨q1, q2, q3, q4, q5, h3⟩
theorem rf_some {θ : Nat → Int32} {o : Option Nat} {a : Nat} (h : vR θ (.inr (.inr (.ref a))) (va_rf o)) : o = some a := by
  cases o with
  | none => cases (show va_rf none = .ref a from h)
  | some b => cases (show va_rf (some b) = .ref a from h); rfl
theorem cpy_R {θ : Nat → Int32} {l0 l1 : List AV} {f g : Nat → Int32} (hf : ∀ (j : Nat) (a : AV), l0[j]? = some a → vR θ a (.int (f j))) (hg : ∀ (j : Nat) (a : AV), l1[j]? = some a → vR θ a (.int (g j))) {sp dp n : Nat} (h0 : sp + n ≤ l0.length) (h1 : dp + n ≤ l1.length) : cR θ (.inl (0, l1.take dp ++ (l0.drop sp).take n ++ l1.drop (dp + n))) (.inl (0, l1.length, .inl (va_cpy f g sp dp n))) := by
  have e1 : (l1.take dp).length = dp := by rw [List.length_take]; omega
  have e2 : ((l0.drop sp).take n).length = n := by rw [List.length_take, List.length_drop]; omega
  refine ⟨by simp; omega, fun j a hj => ?_⟩
  have key : l1.take dp ++ (l0.drop sp).take n ++ l1.drop (dp + n) = l1.take dp ++ ((l0.drop sp).take n ++ l1.drop (dp + n)) := List.append_assoc _ _ _
  rw [key, List.getElem?_append] at hj
  unfold va_cpy
  split at hj
  · rw [if_neg (by omega)]
    rw [List.getElem?_take_of_lt (by omega)] at hj
    exact hg _ _ hj
  · rw [List.getElem?_append, e1] at hj
    split at hj
    · rw [if_pos (by omega)]
      rw [List.getElem?_take_of_lt (by omega), List.getElem?_drop] at hj
      exact hf _ _ hj
    · rw [if_neg (by omega)]
      rw [List.getElem?_drop, e2] at hj
      exact hg _ _ (by rw [← hj]; congr 1; omega)
theorem c_set1 {θ : Nat → Int32} {l : List AV} {g : Nat → Int64} (hg : ∀ (j : Nat) (a : AV), l[j]? = some a → vR θ a (.long (g j))) {j : Nat} {v : AV} {x : Int64} (hv : vR θ v (.long x)) : cR θ (.inl (1, l.set j v)) (.inl (1, l.length, .inr (.inl (vp_updL g j x)))) := by
  refine ⟨by simp, fun i a hi => ?_⟩
  by_cases h : j = i
  · subst h
    rw [List.getElem?_set] at hi
    simp only [if_true] at hi
    split at hi
    · cases hi; rw [show vp_updL g j x j = x from if_pos rfl]; exact hv
    · cases hi
  · rw [List.getElem?_set_ne h] at hi
    rw [show vp_updL g j x i = g i from if_neg (fun q => h q.symm)]
    exact hg i a hi
theorem c_set2 {θ : Nat → Int32} {l : List AV} {g : Nat → Option Nat} (hg : ∀ (j : Nat) (a : AV), l[j]? = some a → vR θ a (va_rf (g j))) {j v : Nat} : cR θ (.inl (2, l.set j (.inr (.inr (.ref v))))) (.inl (2, l.length, .inr (.inr (.inr (.inr (va_up g j (some v))))))) := by
  refine ⟨by simp, fun i a hi => ?_⟩
  by_cases h : j = i
  · subst h
    rw [List.getElem?_set] at hi
    simp only [if_true] at hi
    split at hi
    · cases hi; rw [show va_up g j (some v) j = some v from if_pos rfl]; rfl
    · cases hi
  · rw [List.getElem?_set_ne h] at hi
    rw [show va_up g j (some v) i = g i from if_neg (fun q => h q.symm)]
    exact hg i a hi
theorem rep_0 {θ : Nat → Int32} (n : Nat) : cR θ (.inl (0, List.replicate n (.inl 0))) (.inl (0, n, .inl (fun _ => 0))) := by
  refine ⟨by simp, fun j a hj => ?_⟩
  rw [List.getElem?_replicate] at hj
  split at hj
  · cases hj; exact ⟨0, rfl, by decide⟩
  · cases hj
theorem rep_1 {θ : Nat → Int32} (n : Nat) : cR θ (.inl (1, List.replicate n (.inr (.inr (.long 0))))) (.inl (1, n, .inr (.inl (fun _ => 0)))) := by
  refine ⟨by simp, fun j a hj => ?_⟩
  rw [List.getElem?_replicate] at hj
  split at hj
  · cases hj; rfl
  · cases hj
theorem rep_2 {θ : Nat → Int32} (n : Nat) : cR θ (.inl (2, List.replicate n aU)) (.inl (2, n, .inr (.inr (.inr (.inr (fun _ => none)))))) := by
  refine ⟨by simp, fun j a hj => ?_⟩
  rw [List.getElem?_replicate] at hj
  split at hj
  · cases hj; rfl
  · cases hj
theorem rep_3 {θ : Nat → Int32} (n m : Nat) : cR θ (.inl (3, (List.range n).map (fun i => aR (m + 1 + i)))) (.inl (3, n, .inr (.inr (.inr (.inr (fun i => if i < n then some (m + 1 + i) else none)))))) := by
  refine ⟨by simp, fun j a hj => ?_⟩
  rw [List.getElem?_map] at hj
  by_cases hjn : j < n
  · rw [List.getElem?_range hjn] at hj
    cases hj
    show vR θ _ (va_rf (if j < n then some (m + 1 + j) else none))
    rw [if_pos hjn]
    rfl
  · rw [List.getElem?_eq_none (by simpa using hjn)] at hj
    cases hj
theorem dflt_R {θ : Nat → Int32} (ci : Nat) (hd : (dflt ci).all noD = true) : A2 (vR θ) (dW ci) (dflt ci) := by
  unfold dW
  revert hd
  generalize dflt ci = l
  intro hd
  induction l with
  | nil => rfl
  | cons v l ih =>
    rw [List.all_cons, Bool.and_eq_true] at hd
    refine ⟨v, l, rfl, ?_, ih hd.2⟩
    cases v <;> first | exact ⟨_, rfl, rfl⟩ | rfl | (cases (show false = true from hd.1))
/-! locals -/
theorem pg_self (lv : LV) (i : Nat) (w : Value) : px_g (px_s1 lv i w) i = some w := by simp [px_g, px_s1]
theorem pg_filt {i j : Nat} (hji : ¬ j = i) : ∀ {lv : LV} {u : Value}, px_g lv j = some u → u.category = 1 → px_g (lv.filter (fun q => !(q.1 == i) && !(q.1 + 1 == i && q.2.category == 2))) j = some u
  | [], u, h, _ => by simp [px_g] at h
  | q :: lv, u, h, hu => by
    by_cases hq : q.1 = j
    · have e : q.2 = u := by
        simp only [px_g, List.find?, hq, beq_self_eq_true] at h
        simpa using h
      have hP : (!(q.1 == i) && !(q.1 + 1 == i && q.2.category == 2)) = true := by
        rw [e, hu, hq]; simp [hji]
      rw [List.filter_cons, if_pos hP]
      simp [px_g, List.find?, hq, e]
    · have h' : px_g lv j = some u := by
        simp only [px_g, List.find?] at h ⊢
        rw [show (q.1 == j) = false by simp [hq]] at h
        exact h
      have ih := pg_filt hji h' hu
      rw [List.filter_cons]
      split
      · simp only [px_g, List.find?] at ih ⊢
        rw [show (q.1 == j) = false by simp [hq]]
        exact ih
      · exact ih
theorem pg_ne {lv : LV} {i j : Nat} {u w : Value} (hji : ¬ j = i) (h : px_g lv j = some u) (hu : u.category = 1) : px_g (px_s1 lv i w) j = some u := by
  have := pg_filt hji h hu
  unfold px_s1
  simp only [px_g, List.find?] at this ⊢
  rw [show (i == j) = false by simp; exact fun q => hji q.symm]
  exact this
theorem lR.set {θ : Nat → Int32} {lv : LW} {lv' : LV} (h : lR θ lv lv') {i : Nat} {v : AV} {w : Value} (hv : vR θ v w) (hc : w.category = 1) : lR θ (lv.set i v) (px_s1 lv' i w) := by
  intro j u hu
  by_cases hij : i = j
  · subst hij
    rw [List.getElem?_set] at hu
    simp only [if_true] at hu
    split at hu
    · cases hu; exact Or.inr ⟨w, pg_self _ _ _, hv, hc⟩
    · cases hu
  · rw [List.getElem?_set_ne hij] at hu
    rcases h j u hu with q | ⟨w2, h1, h2, h3⟩
    · exact Or.inl q
    · exact Or.inr ⟨w2, pg_ne (fun q => hij q.symm) h1 h3, h2, h3⟩
/-! the heap -/
theorem hR.at {θ : Nat → Int32} {m : Nat} {h : HT} {h' : PH} (H : hR θ m h h') {a : Nat} {c : AE} (hc : hget h a = some c) (hn : ¬ c = .inl (99, [])) : ∃ y, h'[a]? = some y ∧ cR θ c y := (H.2 a c hc).resolve_left hn
theorem hR.set {θ : Nat → Int32} {m : Nat} {h h2 : HT} {h' : PH} (H : hR θ m h h') {a : Nat} {v : AE} {y y0 : PE} (ha : h'[a]? = some y0) (hs : ∀ b, hget h2 b = if b = a then some v else hget h b) (hc : cR θ v y) : hR θ m h2 (h'.set a y) := by
  have hl : a < h'.length := (List.getElem?_eq_some_iff.mp ha).1
  refine ⟨by rw [List.length_set]; exact H.1, fun b c hb => ?_⟩
  rw [hs] at hb
  split at hb
  · rename_i e
    cases hb
    subst e
    exact Or.inr ⟨y, List.getElem?_set_self hl, hc⟩
  · rename_i e
    rcases H.2 b c hb with q | ⟨y2, h1, h2⟩
    · exact Or.inl q
    · exact Or.inr ⟨y2, by rw [List.getElem?_set_ne (fun q => e q.symm)]; exact h1, h2⟩
theorem hR.push {θ : Nat → Int32} {m : Nat} {h h2 : HT} {h' : PH} (H : hR θ m h h') {v : AE} {y : PE} (hs : ∀ b, hget h2 b = if b = m then some v else hget h b) (hc : cR θ v y) : hR θ (m + 1) h2 (h' ++ [y]) := by
  have hm := H.1
  refine ⟨by simp; exact hm, fun b c hb => ?_⟩
  rw [hs] at hb
  split at hb
  · rename_i e
    cases hb
    refine Or.inr ⟨y, ?_, hc⟩
    rw [e, ← hm]; simp
  · rcases H.2 b c hb with q | ⟨y2, h1, h2⟩
    · exact Or.inl q
    · exact Or.inr ⟨y2, by rw [List.getElem?_append_left (List.getElem?_eq_some_iff.mp h1).1]; exact h1, h2⟩
theorem rowsF_ok {θ : Nat → Int32} {row : LW} {y : PE} (hc : cR θ (.inl (0, row)) y) : ∀ {z b : Nat} {h : HT} {k : HT → Bool} {h' : PH}, rowsF row z b h k = true → hR θ b h h' → ∃ h2, k h2 = true ∧ hR θ (b + z) h2 (h' ++ List.replicate z y)
  | 0, b, h, k, h', H, hh => ⟨h, H, by simpa using hh⟩
  | z + 1, b, h, k, h', H, hh => by
    obtain ⟨h2, H, -, hs⟩ := hset_ok (show hset h b (.inl (0, row)) (fun h => natF (b + 1) fun b1 => rowsF row z b1 h k) = true from H)
    obtain ⟨h3, H3, hh3⟩ := rowsF_ok hc (natF_ok H) (hh.push hs hc)
    refine ⟨h3, H3, ?_⟩
    rw [List.append_assoc] at hh3
    rw [show b + (z + 1) = b + 1 + z by omega, List.replicate_succ]
    exact hh3
theorem refsF_ok : ∀ {z b : Nat} {k : LW → Bool}, refsF z b k = true → k ((List.range z).map (fun i => aR (b + i))) = true
  | 0, b, k, h => h
  | z + 1, b, k, h => by
    have h1 := natF_ok (show natF (b + 1) (fun b1 => refsF z b1 fun l => k (.inr (.inr (.ref b)) :: l)) = true from h)
    have h2 := refsF_ok h1
    rw [List.range_succ_eq_map, List.map_cons, List.map_map]
    have e : (fun i => aR (b + i)) ∘ Nat.succ = fun i => aR (b + 1 + i) := by
      funext i; show aR (b + (i + 1)) = _; rw [show b + (i + 1) = b + 1 + i by omega]
    rw [e]
    exact h2
theorem vR.cat {θ : Nat → Int32} {a : AV} {w : Value} (h : vR θ a w) : w.category = wCat a := by
  rcases a with x | ⟨_ | t, r⟩ | v
  · obtain ⟨y, rfl, -⟩ := h; rfl
  · obtain ⟨y, rfl, -⟩ := h; rfl
  · obtain ⟨y, rfl, -⟩ := h; rfl
  · cases v
    case double z => obtain ⟨y, rfl, -⟩ := h; rfl
    all_goals (rw [show w = _ from h]; rfl)
theorem w1_ok {θ : Nat → Int32} {a : AV} {w : Value} (h : w1 a = true) (hv : vR θ a w) : w.category = 1 := by
  rw [hv.cat]
  rcases a with x | x | v
  · rfl
  · rfl
  · exact beq_iff.mp h
theorem cats_ok {θ : Nat → Int32} : ∀ {l : LW} {l' : List Value}, A2 (vR θ) l l' → (l'.map Value.category).sum = cats l
  | [], _, h => by rw [show _ = [] from h]; rfl
  | a :: as, _, ⟨_, _, e, q, t⟩ => by subst e; rw [List.map_cons, List.sum_cons, q.cat, cats_ok t]; rfl
theorem num1 {y : Int32} : (Value.int y).category = 1 := rfl
theorem sRead_ok {θ : Nat → Int32} {env : EV} {i : AV} {l : LW} {cut : List EV → Bool} {k : AV → Bool} {w : Value} (he : eR θ env) (hi : vR θ i w) (h : sRead env i l cut k = true) : ∃ iv, w = .int iv ∧ ((∃ (j : Nat) (a v : AV), iv.toInt = (j : Int) ∧ l[j]? = some a ∧ k v = true ∧ ∀ u, vR θ a u → vR θ v u) ∨ CUT θ cut) := by
  unfold sRead at h
  obtain ⟨iv, lo, hi2, rfl, a1, a2, h⟩ := rK_ok he hi h
  refine ⟨iv, rfl, ?_⟩
  have idx : (wIdx env i cut fun j => (match lget l j with
        | some v => k v
        | none => false)) = true → ((∃ (j : Nat) (a v : AV), iv.toInt = (j : Int) ∧ l[j]? = some a ∧ k v = true ∧ ∀ u, vR θ a u → vR θ v u) ∨ CUT θ cut) := by
    intro h
    obtain ⟨iv2, e, h⟩ := wIdx_ok he hi h
    cases e
    rcases h with ⟨j, hj, h⟩ | h
    · rw [lget_eq] at h
      split at h
      · rename_i v hv
        exact Or.inl ⟨j, v, v, hj, hv, h, fun _ q => q⟩
      · cases h
    · exact Or.inr h
  split at h
  · rename_i j w hw
    have hw' : hi2 - (Int.ofNat j) = (w : Int) := hw
    split at h
    · rename_i x y r hr
      rw [ldrop_eq] at hr
      split at h
      · rename_i hlin
        have h0 : 0 ≤ iv.toInt := Int.le_trans (Int.natCast_nonneg j) a1
        have a1' : (j : Int) ≤ iv.toInt := a1
        have hw2 : hi2 - (j : Int) = (w : Int) := hw'
        have hl := linChk_ok hlin (iv.toInt.toNat - j) (by omega)
        have hj : iv.toInt = ((iv.toInt.toNat : Nat) : Int) := by omega
        have hget : l[iv.toInt.toNat]? = some (.inl (x + (y - x) * ((iv.toInt.toNat - j : Nat) : Int))) := by
          have e : l[iv.toInt.toNat]? = (l.drop j)[iv.toInt.toNat - j]? := by
            rw [List.getElem?_drop]; congr 1; omega
          rw [e, hr]; exact hl
        split at h
        · rename_i hxy
          rw [bEq_iff] at hxy
          refine Or.inl ⟨_, _, _, hj, hget, h, fun u hu => ?_⟩
          rw [hxy, Int.sub_self, Int.zero_mul, Int.add_zero] at hu
          rw [hxy]
          exact hu
        · split at h
          · rename_i t a b _
            obtain ⟨iv2, e, ea⟩ := hi
            cases e
            refine Or.inl ⟨_, _, _, hj, hget, h, fun u hu => ?_⟩
            obtain ⟨z, rfl, ez⟩ := hu
            refine ⟨z, rfl, ?_⟩
            rw [ez]
            have e1 : ((iv.toInt.toNat - j : Nat) : Int) = a * (θ t).toInt + b - (j : Int) := by omega
            rw [e1]
            show _ = (y - x) * a * (θ t).toInt + ((y - x) * b + x - (y - x) * (j : Int))
            rw [Int.mul_sub, Int.mul_add, Int.mul_assoc]
            omega
          · cases h
      · exact idx h
    · exact idx h
  · cases h
theorem wRead_ok {θ : Nat → Int32} {env : EV} {i : AV} {l : LW} {cut : List EV → Bool} {k : AV → Bool} {w : Value} (he : eR θ env) (hi : vR θ i w) (h : wRead env i l cut k = true) : ∃ iv, w = .int iv ∧ ((∃ (j : Nat) (a v : AV), iv.toInt = (j : Int) ∧ l[j]? = some a ∧ k v = true ∧ ∀ u, vR θ a u → vR θ v u) ∨ CUT θ cut) := by
  unfold wRead at h
  split at h
  · rename_i j
    obtain ⟨iv, rfl, e⟩ := hi
    rw [lget_eq] at h
    split at h
    · rename_i v hv
      exact ⟨iv, rfl, Or.inl ⟨j, v, v, e, hv, h, fun _ q => q⟩⟩
    · cases h
  · rcases lin_ok he hi h with ⟨iv, p, rfl, hp, h⟩ | h
    · obtain ⟨t, a, b⟩ := p
      split at h
      · rename_i j e1 e2
        have e1 : t = 0 := e1
        have e2 : b = Int.ofNat j := e2
        subst e1
        rw [lget_eq] at h
        split at h
        · rename_i v hv
          exact ⟨iv, rfl, Or.inl ⟨j, v, v, hp.1.trans e2, hv, h, fun _ q => q⟩⟩
        · cases h
      · cases h
      · exact sRead_ok he hi h
    · exact sRead_ok he hi h
/-- what an instruction's function owes -/
def POK (θ : Nat → Int32) (L : Nat) (C : Nat → List Value → PH → (Rs → PH → Prop) → Prop) (M : PM) (hd : HD4) (Q : Rs → PH → Prop) (K : Kt) (f : OPF) (te : TE) : Prop :=
  ∀ (env : EV) (lv st : LW) (m : Nat) (h : HT) (c s : Nat) (go : GO) (cut : List EV → Bool) (call : Nat → Bool → Bool) (ret : AQ → Bool) (lv' : LV) (st' : List Value) (h' : PH),
    eR θ env → lR θ lv lv' → A2 (vR θ) st st' → hR θ m h h' →
    (∀ pc2 lv2 st2 m2 h2 c2 s2, go pc2 lv2 st2 m2 h2 c2 s2 = true → ∀ lv2' st2' h2', lR θ lv2 lv2' → A2 (vR θ) st2 st2' → hR θ m2 h2 h2' → K pc2 lv2' st2' h2' c2 s2) →
    (∀ μ virt, call μ virt = true → p_call C M hd Q K te.1 μ virt lv' st' h' c s) →
    (∀ q, ret q = true → ∀ r, resR θ q r → Q r h') →
    f (L, M, hd) env lv st m h c s go cut call ret = true →
    CUT θ cut ∨ pmI C (L, θ) M hd Q K te lv' st' h' c s
section OPS
variable {θ : Nat → Int32} {L : Nat} {C : Nat → List Value → PH → (Rs → PH → Prop) → Prop} {M : PM} {hd : HD4} {Q : Rs → PH → Prop} {K : Kt} {pc ta tb : Nat}
theorem k_no {te : TE} : POK θ L C M hd Q K o_no te := by
  intro env lv st m h c s go cut call ret lv' st' h' he hlv hst hh hgo hcall hret H
  cases (show false = true from H)
theorem k_push {te : TE} {v : AV} {w : Value} {n : Nat} (hv : vR θ v w) (hp : ∀ (lv' : LV) (st' : List Value) (h' : PH) (c s : Nat), K n lv' (w :: st') h' c s → pmI C (L, θ) M hd Q K te lv' st' h' c s) : POK θ L C M hd Q K (o_push v n) te := by
  intro env lv st m h c s go cut call ret lv' st' h' he hlv hst hh hgo hcall hret H
  exact Or.inr (hp _ _ _ _ _ (hgo _ _ _ _ _ _ _ H _ _ _ hlv ⟨_, _, rfl, hv, hst⟩ hh))
theorem k_iload {te : TE} {i n : Nat} (hp : ∀ (lv' : LV) (st' : List Value) (h' : PH) (c s : Nat), (∃ x, px_g lv' i = some (.int x) ∧ K n lv' (.int x :: st') h' c s) → pmI C (L, θ) M hd Q K te lv' st' h' c s) : POK θ L C M hd Q K (o_iload i n) te := by
  intro env lv st m h c s go cut call ret lv' st' h' he hlv hst hh hgo hcall hret H
  unfold o_iload at H
  rw [lget_eq] at H
  split at H
  · rename_i v hv
    split at H
    · rename_i hn
      rcases hlv _ _ hv with rfl | ⟨w, hw, hvw, -⟩
      · cases (show false = true from hn)
      · obtain ⟨y, rfl⟩ := isNum_ok hn hvw
        exact Or.inr (hp _ _ _ _ _ ⟨y, hw, hgo _ _ _ _ _ _ _ H _ _ _ hlv ⟨_, _, rfl, hvw, hst⟩ hh⟩)
    · cases H
  · cases H
theorem k_aload {te : TE} {i n : Nat} (hp : ∀ (lv' : LV) (st' : List Value) (h' : PH) (c s : Nat), (∃ v, px_g lv' i = some v ∧ (∃ a, v = .ref a ∨ v = .retAddr a) ∧ K n lv' (v :: st') h' c s) → pmI C (L, θ) M hd Q K te lv' st' h' c s) : POK θ L C M hd Q K (o_aload i n) te := by
  intro env lv st m h c s go cut call ret lv' st' h' he hlv hst hh hgo hcall hret H
  unfold o_aload at H
  rw [lget_eq] at H
  split at H
  · rename_i a hv
    rcases hlv _ _ hv with q | ⟨w, hw, hvw, -⟩
    · cases q
    · exact Or.inr (hp _ _ _ _ _ ⟨w, hw, ⟨a, Or.inl hvw⟩, hgo _ _ _ _ _ _ _ H _ _ _ hlv ⟨_, _, rfl, hvw, hst⟩ hh⟩)
  · rename_i a hv
    rcases hlv _ _ hv with q | ⟨w, hw, hvw, -⟩
    · cases q
    · exact Or.inr (hp _ _ _ _ _ ⟨w, hw, ⟨a, Or.inr hvw⟩, hgo _ _ _ _ _ _ _ H _ _ _ hlv ⟨_, _, rfl, hvw, hst⟩ hh⟩)
  · cases H
theorem k_istore {te : TE} {i n : Nat} (hp : ∀ (lv' : LV) (st' : List Value) (h' : PH) (c s : Nat), (i < pL M ∧ on1 st' fun x r => K n (px_s1 lv' i (.int x)) r h' c s) → pmI C (L, θ) M hd Q K te lv' st' h' c s) : POK θ L C M hd Q K (o_istore i n) te := by
  intro env lv st m h c s go cut call ret lv' st' h' he hlv hst hh hgo hcall hret H
  unfold o_istore at H
  split at H
  · obtain ⟨w, r', rfl, hw, hr⟩ := hst
    split at H
    · rename_i hn
      rw [Bool.and_eq_true, blt_iff] at hn
      obtain ⟨y, rfl⟩ := isNum_ok hn.1 hw
      obtain ⟨-, H⟩ := lset_ok H
      exact Or.inr (hp _ _ _ _ _ ⟨hn.2, hgo _ _ _ _ _ _ _ H _ _ _ (hlv.set hw rfl) hr hh⟩)
    · cases H
  · cases H
theorem k_astore {te : TE} {i n : Nat} (hp : ∀ (lv' : LV) (st' : List Value) (h' : PH) (c s : Nat), (i < pL M ∧ onR st' fun x r => K n (px_s1 lv' i (.ref x)) r h' c s) → pmI C (L, θ) M hd Q K te lv' st' h' c s) : POK θ L C M hd Q K (o_astore i n) te := by
  intro env lv st m h c s go cut call ret lv' st' h' he hlv hst hh hgo hcall hret H
  unfold o_astore at H
  split at H
  · rename_i a r
    obtain ⟨w, r', rfl, hw, hr⟩ := hst
    obtain rfl : w = .ref a := hw
    split at H
    · rename_i hn
      rw [blt_iff] at hn
      obtain ⟨-, H⟩ := lset_ok H
      exact Or.inr (hp _ _ _ _ _ ⟨hn, hgo _ _ _ _ _ _ _ H _ _ _ (hlv.set (show vR θ (.inr (.inr (.ref a))) (.ref a) from rfl) rfl) hr hh⟩)
    · cases H
  · cases H
theorem k_iinc {i : Nat} {z : Int} (hz : inI z z = true) : POK θ L C M hd Q K (o_iinc i z (pc + 3)) (pc, .iinc i z, ta, tb) := by
  intro env lv st m h c s go cut call ret lv' st' h' he hlv hst hh hgo hcall hret H
  unfold o_iinc at H
  rw [lget_eq] at H
  split at H
  · rename_i v hv
    split at H
    · rename_i hn
      rw [Bool.and_eq_true, blt_iff] at hn
      rcases hlv _ _ hv with rfl | ⟨w, hw, hvw, -⟩
      · cases (show false = true from hn.1)
      · rw [inI_iff] at hz
        have hzz : (Int32.ofInt z).toInt = z := (Int32.toInt_ofInt (n := z)).trans (bm hz.1 hz.2)
        obtain ⟨xv, yv, rfl, ey, q⟩ := wAdd_ok (y := .inl z) (wy := .int (Int32.ofInt z)) he hvw ⟨_, rfl, hzz⟩ H
        cases ey
        rcases q with ⟨v2, H, hv2⟩ | q
        · obtain ⟨-, H⟩ := lset_ok H
          exact Or.inr ⟨hn.2, xv, hw, hgo _ _ _ _ _ _ _ H _ _ _ (hlv.set hv2 rfl) hst hh⟩
        · exact Or.inl q
    · cases H
  · cases H
theorem k_iadd : POK θ L C M hd Q K (o_iadd (pc + 1)) (pc, .iadd, ta, tb) := by
  intro env lv st m h c s go cut call ret lv' st' h' he hlv hst hh hgo hcall hret H
  unfold o_iadd at H
  split at H
  · obtain ⟨w, _, rfl, hy, w2, r', rfl, hx, hr⟩ := hst
    obtain ⟨xv, yv, rfl, rfl, q⟩ := wAdd_ok he hx hy H
    rcases q with ⟨v, H, hv⟩ | q
    · exact Or.inr (hgo _ _ _ _ _ _ _ H _ _ _ hlv ⟨_, _, rfl, hv, hr⟩ hh)
    · exact Or.inl q
  · cases H
theorem k_isub : POK θ L C M hd Q K (o_isub (pc + 1)) (pc, .isub, ta, tb) := by
  intro env lv st m h c s go cut call ret lv' st' h' he hlv hst hh hgo hcall hret H
  unfold o_isub at H
  split at H
  · obtain ⟨w, _, rfl, hy, w2, r', rfl, hx, hr⟩ := hst
    obtain ⟨xv, yv, rfl, rfl, q⟩ := wSub_ok he hx hy H
    rcases q with ⟨v, H, hv⟩ | q
    · exact Or.inr (hgo _ _ _ _ _ _ _ H _ _ _ hlv ⟨_, _, rfl, hv, hr⟩ hh)
    · exact Or.inl q
  · cases H
theorem k_imul : POK θ L C M hd Q K (o_imul (pc + 1)) (pc, .imul, ta, tb) := by
  intro env lv st m h c s go cut call ret lv' st' h' he hlv hst hh hgo hcall hret H
  unfold o_imul at H
  split at H
  · obtain ⟨w, _, rfl, hy, w2, r', rfl, hx, hr⟩ := hst
    obtain ⟨xv, yv, rfl, rfl, q⟩ := wMul_ok he hx hy H
    rcases q with ⟨v, H, hv⟩ | q
    · exact Or.inr (hgo _ _ _ _ _ _ _ H _ _ _ hlv ⟨_, _, rfl, hv, hr⟩ hh)
    · exact Or.inl q
  · cases H
theorem k_any {te : TE} {f : Int32 → Int32 → Int32} {n : Nat} (hp : ∀ (lv' : LV) (r : List Value) (x y : Int32) (h' : PH) (c s : Nat), K n lv' (.int (f x y) :: r) h' c s → pmI C (L, θ) M hd Q K te lv' (.int y :: .int x :: r) h' c s) : POK θ L C M hd Q K (o_any f n) te := by
  intro env lv st m h c s go cut call ret lv' st' h' he hlv hst hh hgo hcall hret H
  unfold o_any at H
  split at H
  · obtain ⟨w, _, rfl, hy, w2, r', rfl, hx, hr⟩ := hst
    obtain ⟨xv, yv, rfl, rfl, v, H, hv⟩ := wAny_ok he hx hy H
    exact Or.inr (hp _ _ _ _ _ _ _ (hgo _ _ _ _ _ _ _ H _ _ _ hlv ⟨_, _, rfl, hv, hr⟩ hh))
  · cases H
theorem k_idiv : POK θ L C M hd Q K (o_idiv (pc + 1)) (pc, .idiv, ta, tb) := by
  intro env lv st m h c s go cut call ret lv' st' h' he hlv hst hh hgo hcall hret H
  unfold o_idiv at H
  split at H
  · obtain ⟨w, _, rfl, hy, w2, r', rfl, hx, hr⟩ := hst
    obtain ⟨H, hz⟩ := wNz_ok he hy H
    obtain ⟨xv, yv, rfl, rfl, v, H, hv⟩ := wAny_ok he hx hy H
    exact Or.inr ⟨hz yv rfl, hgo _ _ _ _ _ _ _ H _ _ _ hlv ⟨_, _, rfl, hv, hr⟩ hh⟩
  · cases H
theorem rem1 (x y : Int32) (h : y.toInt = 1) : x - x / y * y = 0 := by
  have hy : y = 1 := toInt_inj (by rw [h]; decide)
  subst hy
  apply toInt_inj
  have h1 : (1 : Int32).toInt = 1 := by decide
  have h0 : (0 : Int32).toInt = 0 := by decide
  have hx := i32_rng x
  have e : (x / 1 * 1 : Int32).toInt = x.toInt := by
    rw [Int32.toInt_mul, Int32.toInt_div, h1, Int.tdiv_one, Int.mul_one]
    show ((x.toInt).bmod 4294967296).bmod 4294967296 = _
    rw [bm hx.1 hx.2, bm hx.1 hx.2]
  rw [Int32.toInt_sub, e, Int.sub_self, h0]
  decide
theorem k_irem : POK θ L C M hd Q K (o_irem (pc + 1)) (pc, .irem, ta, tb) := by
  intro env lv st m h c s go cut call ret lv' st' h' he hlv hst hh hgo hcall hret H
  unfold o_irem at H
  split at H
  · obtain ⟨w, _, rfl, hy, w2, r', rfl, hx, hr⟩ := hst
    split at H
    · split at H
      · rename_i hn
        obtain ⟨xv, rfl⟩ := isNum_ok hn hx
        obtain ⟨yv, rfl, e⟩ := hy
        refine Or.inr ⟨fun q => ?_, ?_⟩
        · subst q
          have h0 : (0 : Int32).toInt = 0 := by decide
          rw [h0] at e
          cases e
        · rw [rem1 xv yv e]
          exact hgo _ _ _ _ _ _ _ H _ _ _ hlv ⟨_, _, rfl, ⟨0, rfl, by decide⟩, hr⟩ hh
      · cases H
    · obtain ⟨H, hz⟩ := wNz_ok he hy H
      obtain ⟨xv, yv, rfl, rfl, v, H, hv⟩ := wAny_ok he hx hy H
      exact Or.inr ⟨hz yv rfl, hgo _ _ _ _ _ _ _ H _ _ _ hlv ⟨_, _, rfl, hv, hr⟩ hh⟩
  · cases H
theorem k_ineg : POK θ L C M hd Q K (o_ineg (pc + 1)) (pc, .ineg, ta, tb) := by
  intro env lv st m h c s go cut call ret lv' st' h' he hlv hst hh hgo hcall hret H
  unfold o_ineg at H
  split at H
  · obtain ⟨w, r', rfl, hx, hr⟩ := hst
    obtain ⟨xv, yv, rfl, -, v, H, hv⟩ := wAny_ok (y := .inl 0) (wy := .int 0) he hx ⟨0, rfl, by decide⟩ H
    exact Or.inr (hgo _ _ _ _ _ _ _ H _ _ _ hlv ⟨_, _, rfl, hv, hr⟩ hh)
  · cases H
theorem k_i2l : POK θ L C M hd Q K (o_i2l (pc + 1)) (pc, .i2l, ta, tb) := by
  intro env lv st m h c s go cut call ret lv' st' h' he hlv hst hh hgo hcall hret H
  unfold o_i2l at H
  split at H
  · obtain ⟨w, r', rfl, hx, hr⟩ := hst
    rcases lin_ok he hx H with ⟨xv, p, rfl, hp, H⟩ | H
    · obtain ⟨t, a, b⟩ := p
      split at H
      · rename_i e1
        have e1 : t = 0 := e1
        subst e1
        have e2 : xv.toInt = b := hp.1
        refine Or.inr (hgo _ _ _ _ _ _ _ H _ _ _ hlv ⟨_, _, rfl, ?_, hr⟩ hh)
        show Value.long _ = .long _
        rw [← e2, Int32.ofInt_toInt]
      · rename_i t1 e1
        have e1 : t = t1 + 1 := e1
        subst e1
        split at H
        · rename_i hc
          rw [Bool.and_eq_true, Bool.and_eq_true, beq_iff, bEq_iff, bEq_iff] at hc
          refine Or.inr (hgo _ _ _ _ _ _ _ H _ _ _ hlv ⟨_, _, rfl, ⟨xv, rfl, ?_⟩, hr⟩ hh)
          rw [hc.1, hc.2.1, hc.2.2]
          exact hp
        · cases H
    · cases H
  · cases H
theorem k_lcmp : POK θ L C M hd Q K (o_lcmp (pc + 1)) (pc, .lcmp, ta, tb) := by
  intro env lv st m h c s go cut call ret lv' st' h' he hlv hst hh hgo hcall hret H
  unfold o_lcmp at H
  split at H
  · obtain ⟨w, _, rfl, hy, w2, r', rfl, hx, hr⟩ := hst
    obtain rfl : w = _ := hy
    obtain rfl : w2 = _ := hx
    exact Or.inr (hgo _ _ _ _ _ _ _ H _ _ _ hlv ⟨_, _, rfl, ⟨_, rfl, rfl⟩, hr⟩ hh)
  · obtain ⟨w, _, rfl, hy, w2, r', rfl, hx, hr⟩ := hst
    split at H
    · rename_i hc
      rw [beq_iff] at hc
      obtain ⟨yv, rfl, ey⟩ := hy
      obtain ⟨xv, rfl, ex⟩ := hx
      have e : xv = yv := toInt_inj (by rw [ex, ey]; unfold dA dB dT; rw [hc])
      subst e
      refine Or.inr (hgo _ _ _ _ _ _ _ H _ _ _ hlv ⟨_, _, rfl, ⟨_, rfl, ?_⟩, hr⟩ hh)
      have : lg_cmp xv.toInt64 xv.toInt64 = 0 := by unfold lg_cmp; simp
      rw [this]; decide
    · cases H
  · cases H
theorem k_dup : POK θ L C M hd Q K (o_dup (pc + 1)) (pc, .dup, ta, tb) := by
  intro env lv st m h c s go cut call ret lv' st' h' he hlv hst hh hgo hcall hret H
  unfold o_dup at H
  split at H
  · obtain ⟨w, r', rfl, hx, hr⟩ := hst
    split at H
    · rename_i hn
      exact Or.inr ⟨w, r', rfl, w1_ok hn hx, hgo _ _ _ _ _ _ _ H _ _ _ hlv ⟨_, _, rfl, hx, _, _, rfl, hx, hr⟩ hh⟩
    · cases H
  · cases H
theorem k_dup2 : POK θ L C M hd Q K (o_dup2 (pc + 1)) (pc, .dup2, ta, tb) := by
  intro env lv st m h c s go cut call ret lv' st' h' he hlv hst hh hgo hcall hret H
  unfold o_dup2 at H
  split at H
  · obtain ⟨w, _, rfl, hx, w2, r', rfl, hy, hr⟩ := hst
    split at H
    · rename_i hn
      rw [Bool.and_eq_true] at hn
      exact Or.inr ⟨w, w2, r', rfl, w1_ok hn.1 hx, w1_ok hn.2 hy, hgo _ _ _ _ _ _ _ H _ _ _ hlv ⟨_, _, rfl, hx, _, _, rfl, hy, _, _, rfl, hx, _, _, rfl, hy, hr⟩ hh⟩
    · cases H
  · cases H
theorem k_pop : POK θ L C M hd Q K (o_pop (pc + 1)) (pc, .pop, ta, tb) := by
  intro env lv st m h c s go cut call ret lv' st' h' he hlv hst hh hgo hcall hret H
  unfold o_pop at H
  split at H
  · obtain ⟨w, r', rfl, hx, hr⟩ := hst
    split at H
    · rename_i hn
      exact Or.inr ⟨w, r', rfl, w1_ok hn hx, hgo _ _ _ _ _ _ _ H _ _ _ hlv hr hh⟩
    · cases H
  · cases H
theorem k_goto {z : Int} (h0 : 0 ≤ (pc : Int) + z) : POK θ L C M hd Q K (o_goto ((pc : Int) + z).toNat) (pc, .goto z, ta, tb) := by
  intro env lv st m h c s go cut call ret lv' st' h' he hlv hst hh hgo hcall hret H
  exact Or.inr ⟨h0, hgo _ _ _ _ _ _ _ H _ _ _ hlv hst hh⟩
theorem k_if {cc : ClassFile.Cond} {z : Int} (h0 : 0 ≤ (pc : Int) + z) : POK θ L C M hd Q K (o_if cc ((pc : Int) + z).toNat (pc + 3)) (pc, .ifCond cc z, ta, tb) := by
  intro env lv st m h c s go cut call ret lv' st' h' he hlv hst hh hgo hcall hret H
  unfold o_if at H
  split at H
  · obtain ⟨w, r', rfl, hx, hr⟩ := hst
    obtain ⟨xv, yv, rfl, ey, q⟩ := wBr_ok (y := .inl 0) (wy := .int 0) he hx ⟨0, rfl, by decide⟩ H
    cases ey
    rcases q with ⟨hc, H⟩ | ⟨hc, H⟩ | q
    · exact Or.inr ⟨h0, fun _ => hgo _ _ _ _ _ _ _ H _ _ _ hlv hr hh, fun q => absurd hc q⟩
    · exact Or.inr ⟨h0, fun q => absurd q hc, fun _ => hgo _ _ _ _ _ _ _ H _ _ _ hlv hr hh⟩
    · exact Or.inl q
  · cases H
theorem k_icmp {cc : ClassFile.Cond} {z : Int} (h0 : 0 ≤ (pc : Int) + z) : POK θ L C M hd Q K (o_icmp cc ((pc : Int) + z).toNat (pc + 3)) (pc, .if_icmp cc z, ta, tb) := by
  intro env lv st m h c s go cut call ret lv' st' h' he hlv hst hh hgo hcall hret H
  unfold o_icmp at H
  split at H
  · obtain ⟨w, _, rfl, hy, w2, r', rfl, hx, hr⟩ := hst
    obtain ⟨xv, yv, rfl, rfl, q⟩ := wBr_ok he hx hy H
    rcases q with ⟨hc, H⟩ | ⟨hc, H⟩ | q
    · exact Or.inr ⟨h0, fun _ => hgo _ _ _ _ _ _ _ H _ _ _ hlv hr hh, fun q => absurd hc q⟩
    · exact Or.inr ⟨h0, fun q => absurd q hc, fun _ => hgo _ _ _ _ _ _ _ H _ _ _ hlv hr hh⟩
    · exact Or.inl q
  · cases H
end OPS
/-! instructions that see the heap, calls and ends -/
theorem gAll_ok {f : Nat → Bool} : ∀ {l : List Nat}, gAll f l = true → ∀ t ∈ l, f t = true
  | [], _, t, ht => by cases ht
  | e :: l, h, t, ht => by
    have h : (match f e with | true => gAll f l | false => false) = true := h
    split at h
    · rename_i q
      rcases List.mem_cons.mp ht with rfl | ht
      · exact q
      · exact gAll_ok h t ht
    · cases h
section OPT
variable {θ : Nat → Int32} {L : Nat} {C : Nat → List Value → PH → (Rs → PH → Prop) → Prop} {M : PM} {hd : HD4} {Q : Rs → PH → Prop} {K : Kt} {pc ta tb : Nat}
theorem k_sw {d lo hi : Int} {offs : Array Int} (h1 : offs.toList.all (fun o => decide (0 ≤ (pc : Int) + o)) = true) (h2 : hi - lo + 1 = offs.size) (h0 : 0 ≤ (pc : Int) + d) : POK θ L C M hd Q K (o_sw ((pc : Int) + d).toNat lo hi (offs.toList.map fun o => ((pc : Int) + o).toNat)) (pc, .tableswitch d lo hi offs, ta, tb) := by
  intro env lv st m h c s go cut call ret lv' st' h' he hlv hst hh hgo hcall hret H
  have hoff : ∀ {x : Int}, ¬ x < lo → ¬ hi < x → ∃ off, offs[(x - lo).toNat]? = some off ∧ 0 ≤ (pc : Int) + off ∧ ((pc : Int) + off).toNat ∈ offs.toList.map (fun o => ((pc : Int) + o).toNat) ∧ (offs.toList.map fun o => ((pc : Int) + o).toNat)[(x - lo).toNat]? = some ((pc : Int) + off).toNat := by
    intro x q1 q2
    have hlt : (x - lo).toNat < offs.size := by omega
    refine ⟨offs[(x - lo).toNat], Array.getElem?_eq_getElem hlt, ?_, ?_, ?_⟩
    · have := List.all_eq_true.mp h1 offs[(x - lo).toNat] (by simp)
      simpa using this
    · exact List.mem_map_of_mem (f := fun o => ((pc : Int) + o).toNat) (by simp)
    · rw [List.getElem?_map, Array.getElem?_toList, Array.getElem?_eq_getElem hlt]; rfl
  unfold o_sw at H
  split at H
  · obtain ⟨w, r', rfl, hx, hr⟩ := hst
    obtain ⟨xv, a, b, rfl, a1, a2, H⟩ := rK_ok he hx H
    split at H
    · rename_i q
      rw [Bool.or_eq_true, bLt_iff, bLt_iff] at q
      exact Or.inr ⟨fun _ => ⟨h0, hgo _ _ _ _ _ _ _ H _ _ _ hlv hr hh⟩, fun q1 q2 => by exfalso; omega⟩
    · rename_i q
      rcases lin_ok he hx H with ⟨xv2, p, e, hp, H⟩ | H
      · cases e
        obtain ⟨t, pa, pb⟩ := p
        split at H
        · rename_i e1
          have e1 : t = 0 := e1
          subst e1
          have e2 : xv.toInt = pb := hp.1
          split at H
          · rename_i q5
            rw [Bool.or_eq_true, bLt_iff, bLt_iff] at q5; dsimp only at q5
            exact Or.inr ⟨fun _ => ⟨h0, hgo _ _ _ _ _ _ _ H _ _ _ hlv hr hh⟩, fun q1 q2 => by exfalso; omega⟩
          · rename_i q5
            rw [Bool.or_eq_false_iff, bLt_no, bLt_no] at q5; dsimp only at q5
            rw [lget_eq] at H
            split at H
            · rename_i tt htt
              refine Or.inr ⟨fun q3 => by exfalso; omega, fun q1 q2 => ?_⟩
              obtain ⟨off, g1, g2, g3, g4⟩ := hoff q1 q2
              rw [e2] at g4
              have e3 : tt = ((pc : Int) + off).toNat := Option.some.inj (htt.symm.trans g4)
              rw [e3] at H
              exact ⟨off, g1, g2, hgo _ _ _ _ _ _ _ H _ _ _ hlv hr hh⟩
            · cases H
        · split at H
          · exact Or.inl (cutLe_ok he H)
          · split at H
            · exact Or.inl (cutLe_ok he H)
            · exact Or.inl (cutAll_ok he H)
      · split at H
        · rename_i hgd
          refine Or.inr ⟨fun _ => ⟨h0, hgo _ _ _ _ _ _ _ hgd _ _ _ hlv hr hh⟩, fun q1 q2 => ?_⟩
          obtain ⟨off, g1, g2, g3, g4⟩ := hoff q1 q2
          exact ⟨off, g1, g2, hgo _ _ _ _ _ _ _ (gAll_ok H _ g3) _ _ _ hlv hr hh⟩
        · cases H
  · cases H
theorem k_iald : POK θ L C M hd Q K (o_iald (pc + 1)) (pc, .iaload, ta, tb) := by
  intro env lv st m h c s go cut call ret lv' st' h' he hlv hst hh hgo hcall hret H
  unfold o_iald at H
  split at H
  · rename_i i a r
    obtain ⟨w, _, rfl, hi, w2, r', rfl, hx, hr⟩ := hst
    obtain rfl : w2 = .ref a := hx
    split at H
    · rename_i l hl
      obtain ⟨y, hy, hc⟩ := hh.at hl (by intro q; cases q)
      obtain ⟨g, rfl, hg⟩ := c_0 hc
      obtain ⟨iv, rfl, q⟩ := wRead_ok he hi H
      rcases q with ⟨j, x, v, hj, hx, H, hxv⟩ | q
      · split at H
        · rename_i hn
          have hjl : j < l.length := (List.getElem?_eq_some_iff.mp hx).1
          refine Or.inr (iald_mk (S := (L, θ)) (k := fun st => K (pc + 1) lv' st h' c s) hy (vin hj hjl) (hgo _ _ _ _ _ _ _ H _ _ _ hlv ⟨_, _, rfl, ?_, hr⟩ hh))
          rw [idx_of hj]
          exact hxv _ (hg _ _ hx)
        · cases H
      · exact Or.inl q
    · cases H
  · rename_i i a r
    obtain ⟨w, _, rfl, hi, w2, r', rfl, hx, hr⟩ := hst
    obtain rfl : w2 = .retAddr a := hx
    obtain ⟨iv, rfl, q⟩ := wIdx_ok he hi H
    rcases q with ⟨j, hj, H⟩ | q
    · split at H
      · rename_i hjL
        rw [blt_iff] at hjL
        refine Or.inr ⟨vin hj hjL, hgo _ _ _ _ _ _ _ H _ _ _ hlv ⟨_, _, rfl, ⟨_, rfl, ?_⟩, hr⟩ hh⟩
        rw [idx_of hj, Int.one_mul, Int.add_zero]
      · cases H
    · exact Or.inl q
  · cases H
theorem k_lald : POK θ L C M hd Q K (o_lald (pc + 1)) (pc, .laload, ta, tb) := by
  intro env lv st m h c s go cut call ret lv' st' h' he hlv hst hh hgo hcall hret H
  unfold o_lald at H
  split at H
  · rename_i i a r
    obtain ⟨w, _, rfl, hi, w2, r', rfl, hx, hr⟩ := hst
    obtain rfl : w2 = .ref a := hx
    split at H
    · rename_i l hl
      obtain ⟨y, hy, hc⟩ := hh.at hl (by intro q; cases q)
      obtain ⟨g, rfl, hg⟩ := c_1 hc
      obtain ⟨iv, rfl, q⟩ := wIdx_ok he hi H
      rcases q with ⟨j, hj, H⟩ | q
      · rw [lget_eq] at H
        split at H
        · rename_i v hv
          have hjl : j < l.length := (List.getElem?_eq_some_iff.mp hv).1
          refine Or.inr (lald_mk (k := fun st => K (pc + 1) lv' st h' c s) hy (vin hj hjl) (hgo _ _ _ _ _ _ _ H _ _ _ hlv ⟨_, _, rfl, ?_, hr⟩ hh))
          rw [idx_of hj]
          exact hg _ _ hv
        · cases H
      · exact Or.inl q
    · cases H
  · cases H
theorem k_aald : POK θ L C M hd Q K (o_aald (pc + 1)) (pc, .aaload, ta, tb) := by
  intro env lv st m h c s go cut call ret lv' st' h' he hlv hst hh hgo hcall hret H
  unfold o_aald at H
  split at H
  · rename_i i a r
    obtain ⟨w, _, rfl, hi, w2, r', rfl, hx, hr⟩ := hst
    obtain rfl : w2 = .ref a := hx
    split at H
    · rename_i l hl
      obtain ⟨y, hy, hc⟩ := hh.at hl (by intro q; cases q)
      obtain ⟨g, rfl, hg⟩ := c_2 hc
      obtain ⟨iv, rfl, q⟩ := wIdx_ok he hi H
      rcases q with ⟨j, hj, H⟩ | q
      · rw [lget_eq] at H
        split at H
        · rename_i x hv
          have hjl : j < l.length := (List.getElem?_eq_some_iff.mp hv).1
          exact Or.inr (aald_mk (k := fun st => K (pc + 1) lv' st h' c s) hy (Or.inl rfl) (vin hj hjl) (by rw [idx_of hj]; exact rf_some (hg _ _ hv)) (hgo _ _ _ _ _ _ _ H _ _ _ hlv ⟨_, _, rfl, rfl, hr⟩ hh))
        · cases H
      · exact Or.inl q
    · rename_i l hl
      obtain ⟨y, hy, hc⟩ := hh.at hl (by intro q; cases q)
      obtain ⟨g, rfl, hg⟩ := c_3 hc
      obtain ⟨iv, rfl, q⟩ := wIdx_ok he hi H
      rcases q with ⟨j, hj, H⟩ | q
      · rw [lget_eq] at H
        split at H
        · rename_i x hv
          have hjl : j < l.length := (List.getElem?_eq_some_iff.mp hv).1
          exact Or.inr (aald_mk (k := fun st => K (pc + 1) lv' st h' c s) hy (Or.inr rfl) (vin hj hjl) (by rw [idx_of hj]; exact rf_some (hg _ _ hv)) (hgo _ _ _ _ _ _ _ H _ _ _ hlv ⟨_, _, rfl, rfl, hr⟩ hh))
        · cases H
      · exact Or.inl q
    · cases H
  · cases H
theorem k_iast : POK θ L C M hd Q K (o_iast (pc + 1)) (pc, .iastore, ta, tb) := by
  intro env lv st m h c s go cut call ret lv' st' h' he hlv hst hh hgo hcall hret H
  unfold o_iast at H
  split at H
  · rename_i x i a r
    obtain ⟨w0, _, rfl, hv, w, _, rfl, hi, w2, r', rfl, hx, hr⟩ := hst
    obtain rfl : w2 = .ref a := hx
    split at H
    · rename_i hn
      obtain ⟨xv, rfl⟩ := isNum_ok hn hv
      split at H
      · rename_i l hl
        obtain ⟨y, hy, hc⟩ := hh.at hl (by intro q; cases q)
        obtain ⟨g, rfl, hg⟩ := c_0 hc
        obtain ⟨iv, rfl, q⟩ := wIdx_ok he hi H
        rcases q with ⟨j, hj, H⟩ | q
        · obtain ⟨hjl, H⟩ := lset_ok H
          obtain ⟨h2, H, -, hs⟩ := hset_ok H
          refine Or.inr (iast_mk (k := fun st h => K (pc + 1) lv' st h c s) hy (vin hj hjl) (hgo _ _ _ _ _ _ _ H _ _ _ hlv hr ?_))
          rw [idx_of hj]
          exact hh.set hy hs (c_set0 hg hv)
        · exact Or.inl q
      · cases H
    · cases H
  · cases H
theorem k_last : POK θ L C M hd Q K (o_last (pc + 1)) (pc, .lastore, ta, tb) := by
  intro env lv st m h c s go cut call ret lv' st' h' he hlv hst hh hgo hcall hret H
  unfold o_last at H
  split at H
  · rename_i x i a r
    obtain ⟨w0, _, rfl, hv, w, _, rfl, hi, w2, r', rfl, hx, hr⟩ := hst
    obtain rfl : w2 = .ref a := hx
    obtain rfl : w0 = .long x := hv
    split at H
    · rename_i l hl
      obtain ⟨y, hy, hc⟩ := hh.at hl (by intro q; cases q)
      obtain ⟨g, rfl, hg⟩ := c_1 hc
      obtain ⟨iv, rfl, q⟩ := wIdx_ok he hi H
      rcases q with ⟨j, hj, H⟩ | q
      · obtain ⟨hjl, H⟩ := lset_ok H
        obtain ⟨h2, H, -, hs⟩ := hset_ok H
        refine Or.inr (last_mk (k := fun st h => K (pc + 1) lv' st h c s) hy (vin hj hjl) (hgo _ _ _ _ _ _ _ H _ _ _ hlv hr ?_))
        rw [idx_of hj]
        exact hh.set hy hs (c_set1 hg (show vR θ (.inr (.inr (.long x))) (.long x) from rfl))
      · exact Or.inl q
    · cases H
  · rename_i x i a r
    obtain ⟨w0, _, rfl, hv, w, _, rfl, hi, w2, r', rfl, hx, hr⟩ := hst
    obtain rfl : w2 = .ref a := hx
    have hv0 := hv
    obtain ⟨xv, rfl, -⟩ := hv
    split at H
    · rename_i l hl
      obtain ⟨y, hy, hc⟩ := hh.at hl (by intro q; cases q)
      obtain ⟨g, rfl, hg⟩ := c_1 hc
      obtain ⟨iv, rfl, q⟩ := wIdx_ok he hi H
      rcases q with ⟨j, hj, H⟩ | q
      · obtain ⟨hjl, H⟩ := lset_ok H
        obtain ⟨h2, H, -, hs⟩ := hset_ok H
        refine Or.inr (last_mk (k := fun st h => K (pc + 1) lv' st h c s) hy (vin hj hjl) (hgo _ _ _ _ _ _ _ H _ _ _ hlv hr ?_))
        rw [idx_of hj]
        exact hh.set hy hs (c_set1 hg hv0)
      · exact Or.inl q
    · cases H
  · cases H
theorem k_aast : POK θ L C M hd Q K (o_aast (pc + 1)) (pc, .aastore, ta, tb) := by
  intro env lv st m h c s go cut call ret lv' st' h' he hlv hst hh hgo hcall hret H
  unfold o_aast at H
  split at H
  · rename_i v i a r
    obtain ⟨w0, _, rfl, hv, w, _, rfl, hi, w2, r', rfl, hx, hr⟩ := hst
    obtain rfl : w2 = .ref a := hx
    obtain rfl : w0 = .ref v := hv
    split at H
    · rename_i l hl
      split at H
      · rename_i fs hf
        obtain ⟨y, hy, hc⟩ := hh.at hl (by intro q; cases q)
        obtain ⟨g, rfl, hg⟩ := c_2 hc
        obtain ⟨y2, hy2, hc2⟩ := hh.at hf (by intro q; cases q)
        obtain ⟨gs, rfl, hgs⟩ := c_o hc2
        obtain ⟨iv, rfl, q⟩ := wIdx_ok he hi H
        rcases q with ⟨j, hj, H⟩ | q
        · obtain ⟨hjl, H⟩ := lset_ok H
          obtain ⟨h2, H, -, hs⟩ := hset_ok H
          refine Or.inr (aast_mk (k := fun st h => K (pc + 1) lv' st h c s) hy hy2 (vin hj hjl) (hgo _ _ _ _ _ _ _ H _ _ _ hlv hr ?_))
          rw [idx_of hj]
          exact hh.set hy hs (c_set2 hg)
        · exact Or.inl q
      · cases H
    · cases H
  · cases H
theorem ofNat_R {n : Nat} (h : n < 2147483648) : vR θ (.inl (.ofNat n)) (.int (Int32.ofNat n)) := ⟨_, rfl, Int32.toInt_ofNat_of_lt (by omega)⟩
theorem k_alen : POK θ L C M hd Q K (o_alen (pc + 1)) (pc, .arraylength, ta, tb) := by
  intro env lv st m h c s go cut call ret lv' st' h' he hlv hst hh hgo hcall hret H
  unfold o_alen at H
  split at H
  · rename_i a r
    obtain ⟨w, r', rfl, hx, hr⟩ := hst
    obtain rfl : w = .ref a := hx
    split at H
    · rename_i t l hl
      split at H
      · rename_i hn
        rw [Bool.and_eq_true, blt_iff, blt_iff] at hn
        obtain ⟨y, hy, hc⟩ := hh.at hl (by intro q; cases q; omega)
        have key : ∃ x : vp_A, y = .inl (t, x) ∧ x.1 = l.length := by
          rcases t with _ | _ | _ | _ | t
          · obtain ⟨g, rfl, hg⟩ := c_0 hc; exact ⟨_, rfl, rfl⟩
          · obtain ⟨g, rfl, hg⟩ := c_1 hc; exact ⟨_, rfl, rfl⟩
          · obtain ⟨g, rfl, hg⟩ := c_2 hc; exact ⟨_, rfl, rfl⟩
          · obtain ⟨g, rfl, hg⟩ := c_3 hc; exact ⟨_, rfl, rfl⟩
          · exfalso; omega
        obtain ⟨x, rfl, hx⟩ := key
        have H := natF_ok H
        refine Or.inr (alen_mk (S := (L, θ)) (k := fun st => K (pc + 1) lv' st h' c s) hy hn.1 (hgo _ _ _ _ _ _ _ H _ _ _ hlv ⟨_, _, rfl, ?_, hr⟩ hh))
        rw [hx]
        exact ofNat_R hn.2
      · cases H
    · cases H
  · rename_i a r
    obtain ⟨w, r', rfl, hx, hr⟩ := hst
    obtain rfl : w = .retAddr a := hx
    split at H
    · rename_i hn
      rw [blt_iff] at hn
      exact Or.inr (hgo _ _ _ _ _ _ _ H _ _ _ hlv ⟨_, _, rfl, ofNat_R hn, hr⟩ hh)
    · cases H
  · cases H
theorem k_get {i : Nat} (hf : tb < fnum ta) : POK θ L C M hd Q K (o_get ta tb (pc + 3)) (pc, .getfield i, ta, tb) := by
  intro env lv st m h c s go cut call ret lv' st' h' he hlv hst hh hgo hcall hret H
  unfold o_get at H
  split at H
  · rename_i a r
    obtain ⟨w, r', rfl, hx, hr⟩ := hst
    obtain rfl : w = .ref a := hx
    split at H
    · rename_i cj fs hl
      split at H
      · rename_i hn
        rw [beq_iff] at hn
        subst hn
        obtain ⟨y, hy, hc⟩ := hh.at hl (by intro q; cases q)
        obtain ⟨gs, rfl, hgs⟩ := c_o hc
        rw [lget_eq] at H
        split at H
        · rename_i v hv
          obtain ⟨w, hw, hvw⟩ := hgs.get hv
          exact Or.inr (get_mk (k := fun st => K (pc + 3) lv' st h' c s) hy hf hw (hgo _ _ _ _ _ _ _ H _ _ _ hlv ⟨_, _, rfl, hvw, hr⟩ hh))
        · cases H
      · cases H
    · cases H
  · cases H
theorem k_put {i ty : Nat} (hf : tb < fnum ta) (hty : ∀ (v : AV) (w : Value), vR θ v w → okTy ty v = true → narrow (ftyX ta tb) w = w ∧ fits (ftyX ta tb) w = true) : POK θ L C M hd Q K (o_put ta tb ty (pc + 3)) (pc, .putfield i, ta, tb) := by
  intro env lv st m h c s go cut call ret lv' st' h' he hlv hst hh hgo hcall hret H
  unfold o_put at H
  split at H
  · rename_i v a r
    obtain ⟨w0, _, rfl, hv, w, r', rfl, hx, hr⟩ := hst
    obtain rfl : w = .ref a := hx
    split at H
    · rename_i cj fs hl
      split at H
      · rename_i hn
        rw [Bool.and_eq_true, beq_iff] at hn
        obtain ⟨rfl, hn⟩ := hn
        obtain ⟨y, hy, hc⟩ := hh.at hl (by intro q; cases q)
        obtain ⟨gs, rfl, hgs⟩ := c_o hc
        obtain ⟨g1, g2⟩ := hty v w0 hv hn
        obtain ⟨hfl, H⟩ := lset_ok H
        obtain ⟨h2, H, -, hs⟩ := hset_ok H
        exact Or.inr (put_mk (k := fun st h => K (pc + 3) lv' st h c s) hy hf (by rw [hgs.len]; exact hfl) g1 g2 (hgo _ _ _ _ _ _ _ H _ _ _ hlv hr (hh.set hy hs ⟨rfl, A2.set hv hgs⟩)))
      · cases H
    · cases H
  · cases H
theorem wNew_ok {X : CX9} {n : Nat} {lv r : LW} {m : Nat} {h : HT} {c s z : Nat} {v : AE} {go : GO} {h' : PH} {y : PE} (hh : hR θ m h h') (hc : cR θ v y) (H : wNew X n lv r m h c s z v go = true) : c + 1 ≤ pC X.2.1 ∧ s + z ≤ pS X.2.1 ∧ ∃ h2, go n lv (.inr (.inr (.ref m)) :: r) (m + 1) h2 (c + 1) (s + z) = true ∧ hR θ (m + 1) h2 (h' ++ [y]) := by
  unfold wNew at H
  split at H
  · rename_i hn
    rw [Bool.and_eq_true, Nat.ble_eq, Nat.ble_eq] at hn
    have H := natF_ok (natF_ok (natF_ok H))
    obtain ⟨h2, H, -, hs⟩ := hset_ok H
    exact ⟨hn.1, hn.2, h2, H, hh.push hs hc⟩
  · cases H
theorem nat_R {x : Int32} {z : Nat} (h : x.toInt = Int.ofNat z) : ¬ x < 0 ∧ x.toNatClampNeg = z := by
  refine ⟨fun q => ?_, idx_of h⟩
  rw [Int32.lt_iff_toInt_lt] at q
  have : (0 : Int32).toInt = 0 := by decide
  have h' : x.toInt = (z : Int) := h
  omega
theorem k_newi : POK θ L C M hd Q K (o_newi (pc + 2)) (pc, .newarray .int, ta, tb) := by
  intro env lv st m h c s go cut call ret lv' st' h' he hlv hst hh hgo hcall hret H
  unfold o_newi at H
  split at H
  · obtain ⟨w, r', rfl, ⟨xv, rfl, hx⟩, hr⟩ := hst
    obtain ⟨g1, g2⟩ := nat_R hx
    split at H
    · rename_i hn
      rw [Nat.ble_eq] at hn
      obtain ⟨q1, q2, h2, H, hh2⟩ := wNew_ok hh (rep_0 _) (repF_ok H)
      refine Or.inr ⟨g1, by rw [g2]; exact hn, q1, by rw [g2]; exact q2, Or.inl ⟨rfl, ?_⟩⟩
      rw [g2, hh.1]
      exact hgo _ _ _ _ _ _ _ H _ _ _ hlv ⟨_, _, rfl, rfl, hr⟩ hh2
    · cases H
  · cases H
theorem k_newl : POK θ L C M hd Q K (o_newl (pc + 2)) (pc, .newarray .long, ta, tb) := by
  intro env lv st m h c s go cut call ret lv' st' h' he hlv hst hh hgo hcall hret H
  unfold o_newl at H
  split at H
  · obtain ⟨w, r', rfl, ⟨xv, rfl, hx⟩, hr⟩ := hst
    obtain ⟨g1, g2⟩ := nat_R hx
    split at H
    · rename_i hn
      rw [Nat.ble_eq] at hn
      obtain ⟨q1, q2, h2, H, hh2⟩ := wNew_ok hh (rep_1 _) (repF_ok H)
      refine Or.inr ⟨g1, by rw [g2]; exact hn, q1, by rw [g2]; exact q2, Or.inr ⟨rfl, ?_⟩⟩
      rw [g2, hh.1]
      exact hgo _ _ _ _ _ _ _ H _ _ _ hlv ⟨_, _, rfl, rfl, hr⟩ hh2
    · cases H
  · cases H
theorem k_newr {i : Nat} : POK θ L C M hd Q K (o_newr (pc + 3)) (pc, .anewarray i, ta, tb) := by
  intro env lv st m h c s go cut call ret lv' st' h' he hlv hst hh hgo hcall hret H
  unfold o_newr at H
  split at H
  · obtain ⟨w, r', rfl, ⟨xv, rfl, hx⟩, hr⟩ := hst
    obtain ⟨g1, g2⟩ := nat_R hx
    split at H
    · rename_i hn
      rw [Nat.ble_eq] at hn
      obtain ⟨q1, q2, h2, H, hh2⟩ := wNew_ok hh (rep_2 _) (repF_ok H)
      refine Or.inr ⟨g1, by rw [g2]; exact hn, q1, by rw [g2]; exact q2, ?_⟩
      rw [g2, hh.1]
      exact hgo _ _ _ _ _ _ _ H _ _ _ hlv ⟨_, _, rfl, rfl, hr⟩ hh2
    · cases H
  · cases H
theorem k_new2 {i d : Nat} : POK θ L C M hd Q K (o_new2 (pc + 4)) (pc, .multianewarray i d, ta, tb) := by
  intro env lv st m h c s go cut call ret lv' st' h' he hlv hst hh hgo hcall hret H
  unfold o_new2 at H
  split at H
  · obtain ⟨w, _, rfl, ⟨xv, rfl, hx⟩, w2, r', rfl, ⟨yv, rfl, hy⟩, hr⟩ := hst
    obtain ⟨g1, g2⟩ := nat_R hx
    obtain ⟨g3, g4⟩ := nat_R hy
    split at H
    · rename_i hn
      rw [Bool.and_eq_true, Bool.and_eq_true, Bool.and_eq_true, Nat.ble_eq, Nat.ble_eq, Nat.ble_eq, Nat.ble_eq] at hn
      obtain ⟨n1, n2, n3, n4⟩ := hn
      have H := repF_ok (refsF_ok H)
      obtain ⟨h2, H, -, hs⟩ := hset_ok H
      obtain ⟨h3, H, hh3⟩ := rowsF_ok (rep_0 _) H (hh.push hs (rep_3 _ _))
      have H := natF_ok (natF_ok (natF_ok H))
      refine Or.inr ⟨g3, g1, by rw [g4]; exact n2, by rw [g2]; exact n1, ?_⟩
      show _ ∧ _ ∧ _
      rw [g2, g4, hh.1]
      exact ⟨n3, n4, hgo _ _ _ _ _ _ _ H _ _ _ hlv ⟨_, _, rfl, rfl, hr⟩ hh3⟩
    · cases H
  · cases H
theorem k_new {i : Nat} (h0 : tb = 0) (hd0 : (dflt ta).all noD = true) : POK θ L C M hd Q K (o_new ta (fnum ta) (dW ta) (pc + 3)) (pc, .new i, ta, tb) := by
  intro env lv st m h c s go cut call ret lv' st' h' he hlv hst hh hgo hcall hret H
  unfold o_new at H
  obtain ⟨q1, q2, h2, H, hh2⟩ := wNew_ok hh (y := .inr (ta, dflt ta)) (show cR θ (.inr (ta, dW ta)) (.inr (ta, dflt ta)) from ⟨rfl, dflt_R ta hd0⟩) H
  refine Or.inr (Or.inl ⟨h0, q1, q2, ?_⟩)
  rw [hh.1]
  exact hgo _ _ _ _ _ _ _ H _ _ _ hlv ⟨_, _, rfl, rfl, hst⟩ hh2
theorem k_throw {i : Nat} {x : Nat × Nat × Nat × Nat × Nat × Nat} (h1 : tb = 1) (hx : XLs[ta]? = some x) : POK θ L C M hd Q K (o_throw x.2.2.1) (pc, .new i, ta, tb) := by
  intro env lv st m h c s go cut call ret lv' st' h' he hlv hst hh hgo hcall hret H
  unfold o_throw at H
  split at H
  · rename_i hhd
    split at H
    · rename_i hn
      rw [Bool.and_eq_true, Bool.and_eq_true, Nat.ble_eq, Nat.ble_eq, Nat.ble_eq] at hn
      exact Or.inr (Or.inr ⟨h1, hhd, hn.1, hn.2.1, by rw [cats_ok hst]; exact hn.2.2, x, hx, hret _ H _ rfl⟩)
    · cases H
  · cases H
theorem k_copy {i : Nat} (h7 : tb = 7) : POK θ L C M hd Q K (o_copy (pc + 3)) (pc, .invokestatic i, ta, tb) := by
  intro env lv st m h c s go cut call ret lv' st' h' he hlv hst hh hgo hcall hret H
  unfold o_copy at H
  split at H
  · rename_i z dp a1 sp a0 r
    obtain ⟨_, _, rfl, ⟨nv, rfl, hn⟩, _, _, rfl, ⟨dv, rfl, hdv⟩, w1, _, rfl, e1, _, _, rfl, ⟨sv, rfl, hs⟩, w0, r', rfl, e0, hr⟩ := hst
    obtain rfl : w1 = .ref a1 := e1
    obtain rfl : w0 = .ref a0 := e0
    obtain ⟨n1, n2⟩ := nat_R hn
    obtain ⟨d1, d2⟩ := nat_R hdv
    obtain ⟨s1, s2⟩ := nat_R hs
    split at H
    · rename_i l0 hl0
      split at H
      · rename_i l1 hl1
        obtain ⟨y0, hy0, hc0⟩ := hh.at hl0 (by intro q; cases q)
        obtain ⟨f, rfl, hf⟩ := c_0 hc0
        obtain ⟨y1, hy1, hc1⟩ := hh.at hl1 (by intro q; cases q)
        obtain ⟨g, rfl, hg⟩ := c_0 hc1
        split at H
        · rename_i hb
          rw [Bool.and_eq_true, Bool.and_eq_true, Nat.ble_eq, Nat.ble_eq, Nat.ble_eq] at hb
          obtain ⟨h2, H, -, hs2⟩ := hset_ok H
          refine Or.inr (Or.inl ⟨h7, copy_mk (k := fun st h => (st.map Value.category).sum ≤ 8 ∧ K (pc + 3) lv' st h c s) hy0 hy1 s1 d1 n1 (by rw [s2, n2]; exact hb.1) (by rw [d2, n2]; exact hb.2.1) ⟨by rw [cats_ok hr]; exact hb.2.2, ?_⟩⟩)
          rw [n2, d2, s2]
          exact hgo _ _ _ _ _ _ _ H _ _ _ hlv hr (hh.set hy1 hs2 (cpy_R hf hg hb.1 hb.2.1))
        · cases H
      · cases H
    · cases H
  · cases H
theorem k_obj {i : Nat} (h6 : tb = 6) : POK θ L C M hd Q K (o_obj (pc + 3)) (pc, .invokespecial i, ta, tb) := by
  intro env lv st m h c s go cut call ret lv' st' h' he hlv hst hh hgo hcall hret H
  unfold o_obj at H
  split at H
  · rename_i a r
    obtain ⟨w, r', rfl, hx, hr⟩ := hst
    obtain rfl : w = .ref a := hx
    split at H
    · rename_i hn
      rw [Nat.ble_eq] at hn
      exact Or.inr (Or.inl ⟨h6, by rw [cats_ok hr]; exact hn, hgo _ _ _ _ _ _ _ H _ _ _ hlv hr hh⟩)
    · cases H
  · cases H
theorem k_iret : POK θ L C M hd Q K o_iret (pc, .ireturn, ta, tb) := by
  intro env lv st m h c s go cut call ret lv' st' h' he hlv hst hh hgo hcall hret H
  unfold o_iret at H
  split at H
  · obtain ⟨w, r', rfl, hx, hr⟩ := hst
    cases (show r' = [] from hr)
    split at H
    · rename_i hR
      split at H
      · rename_i hn
        obtain ⟨xv, rfl⟩ := isNum_ok hn hx
        exact Or.inr ⟨xv, rfl, ⟨_, hR, rfl⟩, hret _ H _ (A2.one hx)⟩
      · cases H
    · rename_i hR
      rcases lin_ok he hx H with ⟨xv, p, rfl, hp, H⟩ | H
      · split at H
        · rename_i hn
          obtain ⟨t, a, b⟩ := p
          rw [Bool.and_eq_true, Bool.or_eq_true, beq_iff, bEq_iff, bEq_iff] at hn
          obtain ⟨e, hn⟩ := hn
          have e : t = 0 := e
          subst e
          have e2 : xv.toInt = b := hp.1
          have hb : xv = 0 ∨ xv = 1 := by
            rcases hn with q | q
            · left; apply toInt_inj; rw [e2]; exact q
            · right; apply toInt_inj; rw [e2]; exact q
          exact Or.inr ⟨xv, rfl, ⟨_, hR, by rcases hb with rfl | rfl <;> rfl⟩, hret _ H _ (A2.one ⟨xv, rfl, e2⟩)⟩
        · cases H
      · cases H
    · cases H
  · cases H
theorem k_aret : POK θ L C M hd Q K o_aret (pc, .areturn, ta, tb) := by
  intro env lv st m h c s go cut call ret lv' st' h' he hlv hst hh hgo hcall hret H
  unfold o_aret at H
  split at H
  · rename_i a
    obtain ⟨w, r', rfl, hx, hr⟩ := hst
    obtain rfl : w = .ref a := hx
    cases (show r' = [] from hr)
    split at H
    · rename_i hR
      exact Or.inr ⟨_, rfl, ⟨_, hR⟩, hret _ H _ (A2.one rfl)⟩
    · cases H
  · cases H
theorem k_ret : POK θ L C M hd Q K o_ret (pc, .return_, ta, tb) := by
  intro env lv st m h c s go cut call ret lv' st' h' he hlv hst hh hgo hcall hret H
  unfold o_ret at H
  split at H
  · cases (show st' = [] from hst)
    split at H
    · rename_i hR
      exact Or.inr ⟨rfl, hR, hret _ H _ rfl⟩
    · cases H
  · cases H
end OPT
section MKO
variable {θ : Nat → Int32} {L : Nat} {C : Nat → List Value → PH → (Rs → PH → Prop) → Prop} {M : PM} {hd : HD4} {Q : Rs → PH → Prop} {K : Kt}
theorem kK (x : Int32) : vR θ (.inl x.toInt) (.int x) := ⟨x, rfl, rfl⟩
theorem bool_put {ty : FieldType} (hty : ty = .boolean) {v : AV} {w : Value} (hv : vR θ v w) (h : isBit v = true) : narrow ty w = w ∧ fits ty w = true := by
  subst hty
  unfold isBit at h
  split at h
  · obtain ⟨y, rfl, e⟩ := hv
    rw [Bool.or_eq_true, bEq_iff, bEq_iff] at h
    have hb : y = 0 ∨ y = 1 := by
      rcases h with q | q
      · left; apply toInt_inj; rw [e]; exact q
      · right; apply toInt_inj; rw [e]; exact q
    rcases hb with rfl | rfl <;> exact ⟨rfl, rfl⟩
  · cases h
theorem ref_put {ty : FieldType} (hty : (∃ x, ty = .object x) ∨ (∃ x, ty = .array x)) {v : AV} {w : Value} (hv : vR θ v w) (h : isRf v = true) : narrow ty w = w ∧ fits ty w = true := by
  unfold isRf at h
  split at h
  · rename_i a
    obtain rfl : w = .ref a := hv
    rcases hty with ⟨x, rfl⟩ | ⟨x, rfl⟩ <;> exact ⟨rfl, rfl⟩
  · cases h
set_option maxHeartbeats 1000000 in
theorem mkO_ok (te : TE) : POK θ L C M hd Q K (mkO te) te := by
  obtain ⟨pc, ins, ta, tb⟩ := te
  unfold mkO
  dsimp only
  split
  · exact k_push (kK _) (fun _ _ _ _ _ q => q)
  · exact k_push (kK _) (fun _ _ _ _ _ q => q)
  · exact k_push (kK _) (fun _ _ _ _ _ q => q)
  · rename_i n
    exact k_push (w := .long (Int64.ofNat n)) (show vR θ (.inr (.inr (.long (Int64.ofNat n)))) (.long (Int64.ofNat n)) from rfl) (fun _ _ _ _ _ q => q)
  · split
    · rename_i q hq
      split
      · rename_i h0
        exact k_push (kK q.2.2) (fun _ _ _ _ _ w => ⟨q, hq, h0, w⟩)
      · exact k_no
    · exact k_no
  · split
    · rename_i q hq
      split
      · rename_i h0
        exact k_push (kK q.2.2) (fun _ _ _ _ _ w => ⟨q, hq, h0, w⟩)
      · exact k_no
    · exact k_no
  · exact k_iload (fun _ _ _ _ _ q => q)
  · exact k_iload (fun _ _ _ _ _ q => q)
  · exact k_aload (fun _ _ _ _ _ q => q)
  · exact k_aload (fun _ _ _ _ _ q => q)
  · exact k_istore (fun _ _ _ _ _ q => q)
  · exact k_istore (fun _ _ _ _ _ q => q)
  · exact k_astore (fun _ _ _ _ _ q => q)
  · exact k_astore (fun _ _ _ _ _ q => q)
  · split
    · rename_i hz
      exact k_iinc hz
    · exact k_no
  · exact k_iadd
  · exact k_isub
  · exact k_imul
  · exact k_idiv
  · exact k_irem
  · exact k_ineg
  · exact k_any (fun _ _ _ _ _ _ _ q => q)
  · exact k_any (fun _ _ _ _ _ _ _ q => q)
  · exact k_any (fun _ _ _ _ _ _ _ q => q)
  · exact k_any (fun _ _ _ _ _ _ _ q => q)
  · exact k_any (fun _ _ _ _ _ _ _ q => q)
  · exact k_i2l
  · exact k_lcmp
  · exact k_dup
  · exact k_dup2
  · exact k_pop
  · unfold jT
    split
    · rename_i h0; exact k_goto h0
    · exact k_no
  · unfold jT
    split
    · rename_i h0; exact k_if h0
    · exact k_no
  · unfold jT
    split
    · rename_i h0; exact k_icmp h0
    · exact k_no
  · split
    · rename_i h1
      unfold jT
      split
      · rename_i h0; exact k_sw h1.1 h1.2 h0
      · exact k_no
    · exact k_no
  · exact k_iald
  · exact k_iast
  · exact k_lald
  · exact k_last
  · exact k_aald
  · exact k_aast
  · exact k_alen
  · split
    · rename_i hf; exact k_get hf
    · exact k_no
  · split
    · rename_i hf
      split
      · rename_i hty
        refine k_put hf (fun v w hv hn => ?_)
        obtain ⟨y, rfl⟩ := isNum_ok hn hv
        rw [hty]; exact ⟨rfl, rfl⟩
      · rename_i hty
        exact k_put hf (fun v w hv hn => bool_put hty hv hn)
      · rename_i x hty
        exact k_put hf (fun v w hv hn => ref_put (Or.inl ⟨_, hty⟩) hv hn)
      · rename_i x hty
        exact k_put hf (fun v w hv hn => ref_put (Or.inr ⟨_, hty⟩) hv hn)
      · exact k_no
    · exact k_no
  · exact k_newi
  · exact k_newl
  · exact k_newr
  · exact k_new2
  · split
    · rename_i h0; exact k_new h0.1 h0.2
    · split
      · rename_i h1
        split
        · rename_i x hx; exact k_throw h1 hx
        · exact k_no
      · exact k_no
  · intro env lv st m h c s go cut call ret lv' st' h' he hlv hst hh hgo hcall hret H
    exact Or.inr (hcall _ _ H)
  · split
    · rename_i h7; exact k_copy h7
    · rename_i h7
      intro env lv st m h c s go cut call ret lv' st' h' he hlv hst hh hgo hcall hret H
      exact Or.inr (Or.inr ⟨h7, hcall _ _ H⟩)
  · split
    · rename_i h6; exact k_obj h6
    · split
      · rename_i h9
        intro env lv st m h c s go cut call ret lv' st' h' he hlv hst hh hgo hcall hret H
        exact Or.inr (Or.inr ⟨h9, hcall _ _ H⟩)
      · exact k_no
  · exact k_iret
  · exact k_aret
  · exact k_ret
  · exact k_no
end MKO
/-! the run of the quick evaluator, whole -/
def RTOK (θ : Nat → Int32) (ret : RT) (Q : Rs → PH → Prop) : Prop := ∀ env q m h, ret env q m h = true → eR θ env → ∀ r h', resR θ q r → hR θ m h h' → Q r h'
def SOK (θ : Nat → Int32) (L : Nat) (C : Nat → List Value → PH → (Rs → PH → Prop) → Prop) (M : PM) (hd : HD4) (Q : Rs → PH → Prop) (pc : Nat) (f : OPF) : Prop :=
  ∀ (env : EV) (lv st : LW) (m : Nat) (h : HT) (c s : Nat) (go : GO) (cut : List EV → Bool) (call : Nat → Bool → Bool) (ret : AQ → Bool) (lv' : LV) (st' : List Value) (h' : PH),
    eR θ env → lR θ lv lv' → A2 (vR θ) st st' → hR θ m h h' →
    (∀ pc2 lv2 st2 m2 h2 c2 s2, go pc2 lv2 st2 m2 h2 c2 s2 = true → ∀ lv2' st2' h2', lR θ lv2 lv2' → A2 (vR θ) st2 st2' → hR θ m2 h2 h2' → Vx C (L, θ) M hd Q pc2 lv2' st2' h2' c2 s2) →
    (∀ μ virt, call μ virt = true → p_call C M hd Q (Vx C (L, θ) M hd Q) pc μ virt lv' st' h' c s) →
    (∀ q, ret q = true → ∀ r, resR θ q r → Q r h') →
    f (L, M, hd) env lv st m h c s go cut call ret = true →
    CUT θ cut ∨ Vx C (L, θ) M hd Q pc lv' st' h' c s
theorem SOK.of {θ : Nat → Int32} {L : Nat} {C : Nat → List Value → PH → (Rs → PH → Prop) → Prop} {M : PM} {hd : HD4} {Q : Rs → PH → Prop} (hC : Cmono C) {te : TE} (hf : (pT M).find? (fun e => e.1 == te.1) = some te) : SOK θ L C M hd Q te.1 (mkO te) := by
  intro env lv st m h c s go cut call ret lv' st' h' he hlv hst hh hgo hcall hret H
  rcases mkO_ok (K := Vx C (L, θ) M hd Q) te env lv st m h c s go cut call ret lv' st' h' he hlv hst hh hgo hcall hret H with q | q
  · exact Or.inl q
  · exact Or.inr (Vx.go hC hf q)
def calOK (θ : Nat → Int32) (C : Nat → List Value → PH → (Rs → PH → Prop) → Prop) (mt : List (List MEn)) (cal : CAL) : Prop :=
  ∀ μ N env args m h ret, mget mt μ = some N → cal μ N env args m h ret = true → MT[μ]? = some N.1 ∧ (∀ v ∈ N.2.2.1, v = aU) ∧
    ∀ (Q : Rs → PH → Prop) (args' : List Value) (h' : PH), eR θ env → lR θ args (lv_args 0 args') → (args'.map Value.category).sum = pN N.1 → hR θ m h h' → RTOK θ ret Q → C μ args' h' Q
theorem ffnd_ok {pc : Nat} {k : OPF → List (Nat × OPF) → Bool} {no : Bool} : ∀ {l : List (Nat × OPF)}, ffnd pc l k no = true → (∃ f r, (pc, f) ∈ l ∧ (∀ x ∈ r, x ∈ l) ∧ k f r = true) ∨ no = true
  | [], h => Or.inr h
  | e :: l, h => by
    have h1 : (Bool.rec (ffnd pc l k no) (k e.2 l) (Nat.beq e.1 pc) : Bool) = true := h
    cases hb : Nat.beq e.1 pc with
    | true =>
      rw [hb] at h1
      refine Or.inl ⟨e.2, l, ?_, fun x hx => List.mem_cons_of_mem _ hx, h1⟩
      rw [← beq_iff.mp hb]; exact List.mem_cons_self
    | false =>
      rw [hb] at h1
      rcases ffnd_ok (show ffnd pc l k no = true from h1) with ⟨f, r, q1, q2, q3⟩ | q
      · exact Or.inl ⟨f, r, List.mem_cons_of_mem _ q1, fun x hx => List.mem_cons_of_mem _ (q2 x hx), q3⟩
      · exact Or.inr q
theorem lAll_ok {f : EV → Bool} : ∀ {l : List EV}, lAll f l = true → ∀ e ∈ l, f e = true
  | [], _, e, he => by cases he
  | a :: l, h, e, he => by
    have h1 : (Bool.rec false (lAll f l) (f a) : Bool) = true := h
    cases hb : f a with
    | true =>
      rw [hb] at h1
      rcases List.mem_cons.mp he with rfl | he
      · exact hb
      · exact lAll_ok (show lAll f l = true from h1) e he
    | false => rw [hb] at h1; cases (show false = true from h1)
theorem tkr_ok : ∀ {n : Nat} {st acc : LW} {k : LW → LW → Bool}, tkr n st acc k = true → n ≤ st.length ∧ (∀ x ∈ st.take n, w1 x = true) ∧ k ((st.take n).reverse ++ acc) (st.drop n) = true
  | 0, st, acc, k, h => ⟨Nat.zero_le _, by intro x hx; simp at hx, by have h : k acc st = true := h; simpa using h⟩
  | n + 1, [], acc, k, h => by cases (show false = true from h)
  | n + 1, x :: r, acc, k, h => by
    have h1 : (match w1 x with | true => tkr n r (x :: acc) k | false => false) = true := h
    split at h1
    · rename_i hw
      obtain ⟨g1, g2, g3⟩ := tkr_ok h1
      refine ⟨by simp; exact g1, fun y hy => ?_, ?_⟩
      · rw [List.take_succ_cons] at hy
        rcases List.mem_cons.mp hy with rfl | hy
        · exact hw
        · exact g2 y hy
      · rw [List.take_succ_cons, List.reverse_cons, List.append_assoc, List.drop_succ_cons]
        exact g3
    · cases h1
theorem pg_args : ∀ {l : List Value} {k i : Nat} {w : Value}, (∀ v ∈ l, v.category = 1) → l[i]? = some w → px_g (lv_args k l) (k + i) = some w
  | [], k, i, w, _, h => by simp at h
  | v :: l, k, 0, w, hc, h => by
    simp at h
    subst h
    simp [px_g, lv_args]
  | v :: l, k, i + 1, w, hc, h => by
    have h1 : l[i]? = some w := by simpa using h
    have ih := pg_args (k := k + 1) (fun u hu => hc u (List.mem_cons_of_mem _ hu)) h1
    have e : lv_args k (v :: l) = (k, v) :: lv_args (k + 1) l := by
      have := hc v List.mem_cons_self
      simp [lv_args, this]
    rw [e]
    simp only [px_g, List.find?] at ih ⊢
    rw [show (k == k + (i + 1)) = false by simp]
    rw [show k + (i + 1) = k + 1 + i by omega]
    exact ih
theorem A2.cat1 {θ : Nat → Int32} : ∀ {l : LW} {l' : List Value}, A2 (vR θ) l l' → (∀ x ∈ l, w1 x = true) → ∀ v ∈ l', v.category = 1
  | [], _, h, _, v, hv => by rw [show _ = [] from h] at hv; cases hv
  | a :: as, _, ⟨b, bs, e, q, t⟩, hw, v, hv => by
    subst e
    rcases List.mem_cons.mp hv with rfl | hv
    · exact w1_ok (hw a List.mem_cons_self) q
    · exact A2.cat1 t (fun x hx => hw x (List.mem_cons_of_mem _ hx)) v hv
theorem lR_args {θ : Nat → Int32} {l pad : LW} {l' : List Value} (h : A2 (vR θ) l l') (hw : ∀ x ∈ l, w1 x = true) (hp : ∀ v ∈ pad, v = aU) : lR θ (l ++ pad) (lv_args 0 l') := by
  have hc := h.cat1 hw
  intro i v hv
  rw [List.getElem?_append] at hv
  split at hv
  · obtain ⟨w, h1, h2⟩ := h.get hv
    refine Or.inr ⟨w, ?_, h2, hc w (List.mem_of_getElem? h1)⟩
    have := pg_args (k := 0) hc h1
    rwa [Nat.zero_add] at this
  · exact Or.inl (hp v (List.mem_of_getElem? hv))
theorem sum1 : ∀ {l : List Value}, (∀ v ∈ l, v.category = 1) → (l.map Value.category).sum = l.length
  | [], _ => rfl
  | v :: l, h => by rw [List.map_cons, List.sum_cons, h v List.mem_cons_self, sum1 (fun u hu => h u (List.mem_cons_of_mem _ hu)), List.length_cons]; omega
theorem wRecv_ok {θ : Nat → Int32} {virt : Bool} {o : Nat} {args : LW} {h : HT} {k : Bool} {m : Nat} {h' : PH} (hh : hR θ m h h') (H : wRecv virt o args h k = true) : k = true ∧ (virt = true → ∃ a r fs, args = .inr (.inr (.ref a)) :: r ∧ h'[a]? = some (.inr (o, fs))) := by
  unfold wRecv at H
  split at H
  · exact ⟨H, fun q => by cases q⟩
  · split at H
    · rename_i a r
      split at H
      · rename_i cj fs hl
        split at H
        · rename_i hb
          rw [beq_iff] at hb
          subst hb
          obtain ⟨y, hy, hc⟩ := hh.at hl (by intro q; cases q)
          obtain ⟨gs, rfl, -⟩ := c_o hc
          exact ⟨H, fun _ => ⟨a, r, gs, rfl, hy⟩⟩
        · cases H
      · cases H
    · cases H
theorem aB_succ (X : CX9) (T : List (Nat × OPF)) (mt : List (List MEn)) (cal : CAL) (ret : RT) (k : Nat) (env : EV) (pc : Nat) (rest : List (Nat × OPF)) (lv st : LW) (m : Nat) (h : HT) (c s : Nat) : aB X T mt cal ret (k + 1) env pc rest lv st m h c s = ffch pc T rest fun f r => f X env lv st m h c s (fun pc lv st m h c s => aB X T mt cal ret k env pc r lv st m h c s) (fun l => lAll (fun env => aB X T mt cal ret k env pc rest lv st m h c s) l)
      (fun μ virt => match mget mt μ with
        | some N => tkr (pN N.1) st N.2.2.1 fun args rst => (match Nat.ble (cats rst) 8 && (Nat.ble (c + pC N.1) (pC X.2.1) && Nat.ble (s + pS N.1) (pS X.2.1)) with
          | true => natF (c + pC N.1) fun c1 => natF (s + pS N.1) fun s1 => wRecv virt (pO N.1) args h (cal μ N env args m h (fun env q m h => match q with
            | .inl (some x) => aB X T mt cal ret k env (pc + 3) r lv (x :: rst) m h c1 s1
            | .inl none => aB X T mt cal ret k env (pc + 3) r lv rst m h c1 s1
            | .inr e => ret env (wBack X.2.2 pc e) m h))
          | false => false)
        | none => false)
      (fun q => ret env q m h) := rfl
theorem aB_ok {θ : Nat → Int32} {L : Nat} {C : Nat → List Value → PH → (Rs → PH → Prop) → Prop} {M : PM} {hd : HD4} {Q : Rs → PH → Prop} {T : List (Nat × OPF)} {mt : List (List MEn)} {cal : CAL} {ret : RT} (hC : Cmono C) (hT : ∀ e ∈ T, SOK θ L C M hd Q e.1 e.2) (hcal : calOK θ C mt cal) (hret : RTOK θ ret Q) : ∀ (k : Nat) (env : EV) (pc : Nat) (rest : List (Nat × OPF)) (lv st : LW) (m : Nat) (h : HT) (c s : Nat), aB (L, M, hd) T mt cal ret k env pc rest lv st m h c s = true → (∀ e ∈ rest, SOK θ L C M hd Q e.1 e.2) → eR θ env → ∀ lv' st' h', lR θ lv lv' → A2 (vR θ) st st' → hR θ m h h' → Vx C (L, θ) M hd Q pc lv' st' h' c s := by
  intro k
  induction k with
  | zero => intro env pc rest lv st m h c s H; cases (show false = true from H)
  | succ k ih =>
    intro env pc rest lv st m h c s H hrest he lv' st' h' hlv hst hh
    have key : ∃ f r, SOK θ L C M hd Q pc f ∧ (∀ e ∈ r, SOK θ L C M hd Q e.1 e.2) ∧ f (L, M, hd) env lv st m h c s (fun pc lv st m h c s => aB (L, M, hd) T mt cal ret k env pc r lv st m h c s) (fun l => lAll (fun env => aB (L, M, hd) T mt cal ret k env pc rest lv st m h c s) l)
      (fun μ virt => match mget mt μ with
        | some N => tkr (pN N.1) st N.2.2.1 fun args rst => (match Nat.ble (cats rst) 8 && (Nat.ble (c + pC N.1) (pC M) && Nat.ble (s + pS N.1) (pS M)) with
          | true => natF (c + pC N.1) fun c1 => natF (s + pS N.1) fun s1 => wRecv virt (pO N.1) args h (cal μ N env args m h (fun env q m h => match q with
            | .inl (some x) => aB (L, M, hd) T mt cal ret k env (pc + 3) r lv (x :: rst) m h c1 s1
            | .inl none => aB (L, M, hd) T mt cal ret k env (pc + 3) r lv rst m h c1 s1
            | .inr e => ret env (wBack hd pc e) m h))
          | false => false)
        | none => false)
      (fun q => ret env q m h) = true := by
      rw [aB_succ] at H
      unfold ffch at H
      rcases ffnd_ok H with ⟨f, r, q1, q2, q3⟩ | q
      · exact ⟨f, r, hrest _ q1, fun e he => hrest e (q2 e he), q3⟩
      · rcases ffnd_ok q with ⟨f, r, q1, q2, q3⟩ | q
        · exact ⟨f, r, hT _ q1, fun e he => hT e (q2 e he), q3⟩
        · cases q
    obtain ⟨f, r, hf, hr, H⟩ := key
    refine Or.elim (hf env lv st m h c s _ _ _ _ lv' st' h' he hlv hst hh (fun pc2 lv2 st2 m2 h2 c2 s2 H2 lv2' st2' h2' g1 g2 g3 => ih env pc2 r lv2 st2 m2 h2 c2 s2 H2 hr he lv2' st2' h2' g1 g2 g3) ?_ (fun q H2 r hres => hret env q m h H2 he r h' hres hh) H) (fun ⟨l, hl, e, hel, hee⟩ => ih e pc rest lv st m h c s (lAll_ok hl e hel) hrest hee lv' st' h' hlv hst hh) (fun q => q)
    · intro μ virt H2
      try dsimp only at H2
      split at H2
      · rename_i N hN
        obtain ⟨g1, g2, g3⟩ := tkr_ok H2
        try dsimp only at g3
        split at g3
        · rename_i hb
          rw [Bool.and_eq_true, Bool.and_eq_true, Nat.ble_eq, Nat.ble_eq, Nat.ble_eq] at hb
          obtain ⟨b1, b2, b3⟩ := hb
          have g4 := natF_ok (natF_ok g3)
          obtain ⟨g5, g6⟩ := wRecv_ok hh g4
          obtain ⟨hM, hpad, hcall⟩ := hcal μ N _ _ _ _ _ hN g5
          have hA := (hst.take (pN N.1)).rev
          have hw : ∀ x ∈ (st.take (pN N.1)).reverse, w1 x = true := fun x hx => g2 x (List.mem_reverse.mp hx)
          unfold p_call
          rw [hM]
          refine ⟨by rw [hst.len]; exact g1, by rw [cats_ok (hst.drop (pN N.1))]; exact b1, b2, b3, ?_, ?_⟩
          · intro hv
            obtain ⟨a, r2, fs, e1, e2⟩ := g6 hv
            refine ⟨a, fs, ?_, e2⟩
            rw [List.getLast?_eq_head?_reverse]
            cases hrev : (st.take (pN N.1)).reverse with
            | nil =>
              rw [hrev] at e1
              have := hpad _ (by rw [List.nil_append] at e1; rw [e1]; exact List.mem_cons_self)
              cases this
            | cons x xs =>
              rw [hrev] at e1 hA
              obtain ⟨w, ws, e3, e4, -⟩ := hA
              cases e1
              rw [e3]
              rw [show w = .ref a from e4]
              rfl
          · refine hcall _ _ _ he (lR_args hA hw hpad) ?_ hh ?_
            · rw [sum1 (hA.cat1 hw), List.length_reverse, List.length_take, hst.len]; omega
            · intro env2 q2 m2 h2 H3 he2 r2 h2' hres2 hh2
              unfold p_back
              rcases q2 with (_ | x) | e
              · rcases r2 with w | e2
                · have hnil : w.toList = [] := hres2
                  cases w with
                  | some w => cases hnil
                  | none => exact ih _ _ _ _ _ _ _ _ _ H3 hr he2 _ _ _ hlv (hst.drop (pN N.1)) hh2
                · exact hres2.elim
              · rcases r2 with w | e2
                · exact ih _ _ _ _ _ _ _ _ _ H3 hr he2 _ _ _ hlv (A2.app (hst.drop (pN N.1)) hres2) hh2
                · exact hres2.elim
              · rcases r2 with w | e2
                · exact hres2.elim
                · obtain rfl : e2 = e := hres2
                  have H4 : ret env2 (wBack hd pc e2) m2 h2 = true := H3
                  unfold wBack at H4
                  simp only
                  split at H4
                  · rename_i z hz
                    rw [hz]
                    exact hret _ _ _ _ H4 he2 _ _ (A2.one (kK _)) hh2
                  · rename_i hz
                    rw [hz]
                    exact hret _ _ _ _ H4 he2 _ _ rfl hh2
        · cases g3
      · cases H2
def mtOK (θ : Nat → Int32) (L : Nat) (mt : List (List MEn)) : Prop := ∀ μ N, mget mt μ = some N → N.2.2.2 = [] ∨ (MT[μ]? = some N.1 ∧ N.2.1 = (if pK N.1 = 3 then hdOf μ else []) ∧ (∀ v ∈ N.2.2.1, v = aU) ∧ pN N.1 ≤ pL N.1 ∧ ∀ (n : Nat) (Q : Rs → PH → Prop), ∀ e ∈ N.2.2.2, SOK θ L (Ex (L, θ) (n + 4)) N.1 N.2.1 Q e.1 e.2)
theorem aM_ok {θ : Nat → Int32} {L fuel : Nat} {mt : List (List MEn)} (hmt : mtOK θ L mt) : ∀ n, calOK θ (Ex (L, θ) (n + 4)) mt (aM L fuel mt n) := by
  intro n
  induction n with
  | zero => intro μ N env args m h ret hN H; cases (show false = true from H)
  | succ n ih =>
    intro μ N env args m h ret hN H
    have H : aB (L, N.1, N.2.1) N.2.2.2 mt (aM L fuel mt n) ret fuel env 0 N.2.2.2 args [] m h 0 0 = true := H
    rcases hmt μ N hN with q | ⟨h1, h2, h3, h4, h5⟩
    · exfalso
      rw [q] at H
      cases fuel with
      | zero => cases (show false = true from H)
      | succ k => cases (show false = true from H)
    · refine ⟨h1, h3, fun Q args' h' he hlv hsum hh hret => ?_⟩
      rw [show n + 1 + 4 = n + 4 + 1 by omega]
      refine ⟨N.1, h1, by rw [hsum]; exact h4, ?_⟩
      rw [← h2]
      exact aB_ok (Ex.mono _ _) (h5 n Q) ih hret _ _ _ _ _ _ _ _ _ _ H (h5 n Q) he _ _ _ hlv rfl hh

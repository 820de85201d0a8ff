section
/-! pm: the machine as a pure thing. A heap is a list of cells; a reference is a place in that list. What a run comes to is said by a predicate (weakest precondition), step by step; Ex n: with at most n calls open. -/
abbrev PE : Type := (Nat × vp_A) ⊕ (Nat × List Value)
abbrev PH : Type := List PE
abbrev LV : Type := List (Nat × Value)
abbrev Rs : Type := Option Value ⊕ Nat
abbrev Kt : Type := Nat → LV → List Value → PH → Nat → Nat → Prop
def px_g (lv : LV) (i : Nat) : Option Value := (lv.find? (fun q => q.1 == i)).map (fun q => q.2)
def px_s1 (lv : LV) (i : Nat) (v : Value) : LV := (i, v) :: lv.filter (fun q => !(q.1 == i) && !(q.1 + 1 == i && q.2.category == 2))
def px_s2 (lv : LV) (i : Nat) (v : Value) : LV := (i, v) :: lv.filter (fun q => !(q.1 == i) && (!(q.1 == i + 1) && !(q.1 + 1 == i && q.2.category == 2)))
def ftyX (ci : Nat) : Nat → FieldType := match ci with
  | 0 => tyX0
  | 1 => tyX1
  | 2 => tyX2
  | 3 => tyX3
  | 4 => tyX4
  | 5 => tyX5
  | 6 => tyX6
  | 7 => tyX7
  | 8 => tyX8
  | 9 => tyX9
  | _ => tyX10
def fnum (ci : Nat) : Nat := match vwCl[ci]? with
  | some r => r.2.2
  | none => 0
def dflt (ci : Nat) : List Value := (List.range (fnum ci)).map (fun j => defaultValue (ftyX ci j))
def on1 (st : List Value) (f : Int32 → List Value → Prop) : Prop := match st with
  | .int x :: r => f x r
  | _ => False
def on2 (st : List Value) (f : Int32 → Int32 → List Value → Prop) : Prop := match st with
  | .int y :: .int x :: r => f x y r
  | _ => False
def onL2 (st : List Value) (f : Int64 → Int64 → List Value → Prop) : Prop := match st with
  | .long y :: .long x :: r => f x y r
  | _ => False
def onLI (st : List Value) (f : Int64 → Int32 → List Value → Prop) : Prop := match st with
  | .int y :: .long x :: r => f x y r
  | _ => False
def onR (st : List Value) (f : Nat → List Value → Prop) : Prop := match st with
  | .ref a :: r => f a r
  | _ => False
def jmp (pc : Nat) (off : Int) (f : Nat → Prop) : Prop := 0 ≤ (pc : Int) + off ∧ f ((pc : Int) + off).toNat
def ccI (c : ClassFile.Cond) (x y : Int32) : Prop := match c with
  | .eq => x = y
  | .ne => ¬ x = y
  | .lt => x < y
  | .ge => y ≤ x
  | .gt => y < x
  | .le => x ≤ y
def brn (c : Prop) (t f : Prop) : Prop := (c → t) ∧ (¬ c → f)
def p_iald (S : Nat × (Nat → Int32)) (h : PH) (st : List Value) (k : List Value → Prop) : Prop := match st with
  | .int i :: .ref a :: r => (match h[a]? with
    | some (.inl (0, n, .inl g)) => vp_in i n ∧ k (.int (g i.toNatClampNeg) :: r)
    | _ => False)
  | .int i :: .retAddr _ :: r => vp_in i S.1 ∧ k (.int (S.2 i.toNatClampNeg) :: r)
  | _ => False
def p_iast (h : PH) (st : List Value) (k : List Value → PH → Prop) : Prop := match st with
  | .int x :: .int i :: .ref a :: r => (match h[a]? with
    | some (.inl (0, n, .inl g)) => vp_in i n ∧ k r (h.set a (.inl (0, n, .inl (upd g i.toNatClampNeg x))))
    | _ => False)
  | _ => False
def p_lald (h : PH) (st : List Value) (k : List Value → Prop) : Prop := match st with
  | .int i :: .ref a :: r => (match h[a]? with
    | some (.inl (1, n, .inr (.inl g))) => vp_in i n ∧ k (.long (g i.toNatClampNeg) :: r)
    | _ => False)
  | _ => False
def p_last (h : PH) (st : List Value) (k : List Value → PH → Prop) : Prop := match st with
  | .long x :: .int i :: .ref a :: r => (match h[a]? with
    | some (.inl (1, n, .inr (.inl g))) => vp_in i n ∧ k r (h.set a (.inl (1, n, .inr (.inl (vp_updL g i.toNatClampNeg x)))))
    | _ => False)
  | _ => False
def p_aald (h : PH) (st : List Value) (k : List Value → Prop) : Prop := match st with
  | .int i :: .ref a :: r => (match h[a]? with
    | some (.inl (t, n, .inr (.inr (.inr (.inr g))))) => (t = 2 ∨ t = 3) ∧ vp_in i n ∧ ∃ q, g i.toNatClampNeg = some q ∧ k (.ref q :: r)
    | _ => False)
  | _ => False
def p_aast (h : PH) (st : List Value) (k : List Value → PH → Prop) : Prop := match st with
  | .ref v :: .int i :: .ref a :: r => (match h[a]?, h[v]? with
    | some (.inl (2, n, .inr (.inr (.inr (.inr g))))), some (.inr (1, _)) => vp_in i n ∧ k r (h.set a (.inl (2, n, .inr (.inr (.inr (.inr (va_up g i.toNatClampNeg (some v))))))))
    | _, _ => False)
  | _ => False
def p_alen (S : Nat × (Nat → Int32)) (h : PH) (st : List Value) (k : List Value → Prop) : Prop := match st with
  | .ref a :: r => (match h[a]? with
    | some (.inl (t, x)) => t < 4 ∧ k (.int (Int32.ofNat x.1) :: r)
    | _ => False)
  | .retAddr _ :: r => k (.int (Int32.ofNat S.1) :: r)
  | _ => False
def p_get (h : PH) (ci f : Nat) (st : List Value) (k : List Value → Prop) : Prop := match st with
  | .ref a :: r => (match h[a]? with
    | some (.inr (cj, fs)) => cj = ci ∧ f < fnum ci ∧ ∃ v, fs[f]? = some v ∧ k (v :: r)
    | _ => False)
  | _ => False
def p_put (h : PH) (ci f : Nat) (st : List Value) (k : List Value → PH → Prop) : Prop := match st with
  | v :: .ref a :: r => (match h[a]? with
    | some (.inr (cj, fs)) => cj = ci ∧ f < fnum ci ∧ f < fs.length ∧ narrow (ftyX ci f) v = v ∧ fits (ftyX ci f) v = true ∧ k r (h.set a (.inr (cj, fs.set f v)))
    | _ => False)
  | _ => False
def p_copy (h : PH) (st : List Value) (k : List Value → PH → Prop) : Prop := match st with
  | .int n :: .int dp :: .ref a1 :: .int sp :: .ref a0 :: r => (match h[a0]?, h[a1]? with
    | some (.inl (0, n0, .inl f)), some (.inl (0, n1, .inl g)) => ¬ sp < 0 ∧ ¬ dp < 0 ∧ ¬ n < 0 ∧ sp.toNatClampNeg + n.toNatClampNeg ≤ n0 ∧ dp.toNatClampNeg + n.toNatClampNeg ≤ n1 ∧ k r (h.set a1 (.inl (0, n1, .inl (va_cpy f g sp.toNatClampNeg dp.toNatClampNeg n.toNatClampNeg))))
    | _, _ => False)
  | _ => False
def p_new2 (h : PH) (st : List Value) (k : List Value → PH → Nat → Nat → Prop) : Prop := match st with
  | .int m :: .int n :: r => ¬ n < 0 ∧ ¬ m < 0 ∧ n.toNatClampNeg ≤ 1000 ∧ m.toNatClampNeg ≤ 1000 ∧
      k (.ref h.length :: r) ((h ++ [.inl (3, n.toNatClampNeg, .inr (.inr (.inr (.inr (fun i => if i < n.toNatClampNeg then some (h.length + 1 + i) else none)))))]) ++ List.replicate n.toNatClampNeg (.inl (0, m.toNatClampNeg, .inl (fun _ => 0)))) (1 + n.toNatClampNeg) (n.toNatClampNeg + n.toNatClampNeg * m.toNatClampNeg)
  | _ => False
def p_catch (hd : List (Nat × Nat × Nat × Int)) (pc e : Nat) : Option Int := (hd.find? (fun q => decide (q.1 ≤ pc) && decide (pc < q.2.1) && q.2.2.1 == e)).map (fun q => q.2.2.2)
def p_back (M : PM) (hd : List (Nat × Nat × Nat × Int)) (Q : Rs → PH → Prop) (K : Kt) (pc : Nat) (lv : LV) (rest : List Value) (c s : Nat) : Rs → PH → Prop := fun r h => match r with
  | .inl v => K (pc + 3) lv (v.toList ++ rest) h c s
  | .inr e => match p_catch hd pc e with
    | some z => Q (.inl (some (.int (Int32.ofInt z)))) h
    | none => Q (.inr e) h
def p_call (C : Nat → List Value → PH → (Rs → PH → Prop) → Prop) (M : PM) (hd : List (Nat × Nat × Nat × Int)) (Q : Rs → PH → Prop) (K : Kt) (pc μ : Nat) (virt : Bool) (lv : LV) (st : List Value) (h : PH) (c s : Nat) : Prop := match MT[μ]? with
  | none => False
  | some N => pN N ≤ st.length ∧ ((st.drop (pN N)).map Value.category).sum ≤ 8 ∧ c + pC N ≤ pC M ∧ s + pS N ≤ pS M ∧
      (virt = true → ∃ a fs, (st.take (pN N)).getLast? = some (.ref a) ∧ h[a]? = some (.inr (pO N, fs))) ∧
      C μ (st.take (pN N)).reverse h (p_back M hd Q K pc lv (st.drop (pN N)) (c + pC N) (s + pS N))
def pmI (C : Nat → List Value → PH → (Rs → PH → Prop) → Prop) (S : Nat × (Nat → Int32)) (M : PM) (hd : List (Nat × Nat × Nat × Int)) (Q : Rs → PH → Prop) (K : Kt) (te : TE) (lv : LV) (st : List Value) (h : PH) (c s : Nat) : Prop :=
  match te.2.1 with
  | .iconst z => K (te.1 + 1) lv (.int (Int32.ofInt z) :: st) h c s
  | .bipush z => K (te.1 + 2) lv (.int (Int8.ofInt z).toInt32 :: st) h c s
  | .sipush z => K (te.1 + 3) lv (.int (Int16.ofInt z).toInt32 :: st) h c s
  | .lconst n => K (te.1 + 1) lv (.long (Int64.ofNat n) :: st) h c s
  | .ldc _ => ∃ q, KLs[te.2.2.1]? = some q ∧ te.2.2.2 = 0 ∧ K (te.1 + 2) lv (.int q.2.2 :: st) h c s
  | .ldc_w _ => ∃ q, KLs[te.2.2.1]? = some q ∧ te.2.2.2 = 0 ∧ K (te.1 + 3) lv (.int q.2.2 :: st) h c s
  | .iload i => ∃ x, px_g lv i = some (.int x) ∧ K (te.1 + 2) lv (.int x :: st) h c s
  | .iload_n i => ∃ x, px_g lv i = some (.int x) ∧ K (te.1 + 1) lv (.int x :: st) h c s
  | .lload i => ∃ x, px_g lv i = some (.long x) ∧ K (te.1 + 2) lv (.long x :: st) h c s
  | .aload i => ∃ v, px_g lv i = some v ∧ (∃ a, v = .ref a ∨ v = .retAddr a) ∧ K (te.1 + 2) lv (v :: st) h c s
  | .aload_n i => ∃ v, px_g lv i = some v ∧ (∃ a, v = .ref a ∨ v = .retAddr a) ∧ K (te.1 + 1) lv (v :: st) h c s
  | .istore i => i < pL M ∧ on1 st fun x r => K (te.1 + 2) (px_s1 lv i (.int x)) r h c s
  | .istore_n i => (i : Nat) < pL M ∧ on1 st fun x r => K (te.1 + 1) (px_s1 lv i (.int x)) r h c s
  | .lstore i => i + 1 < pL M ∧ ∃ x r, st = .long x :: r ∧ K (te.1 + 2) (px_s2 lv i (.long x)) r h c s
  | .astore i => i < pL M ∧ onR st fun x r => K (te.1 + 2) (px_s1 lv i (.ref x)) r h c s
  | .astore_n i => (i : Nat) < pL M ∧ onR st fun x r => K (te.1 + 1) (px_s1 lv i (.ref x)) r h c s
  | .iinc i z => i < pL M ∧ ∃ x, px_g lv i = some (.int x) ∧ K (te.1 + 3) (px_s1 lv i (.int (x + Int32.ofInt z))) st h c s
  | .iadd => on2 st fun x y r => K (te.1 + 1) lv (.int (x + y) :: r) h c s
  | .isub => on2 st fun x y r => K (te.1 + 1) lv (.int (x - y) :: r) h c s
  | .imul => on2 st fun x y r => K (te.1 + 1) lv (.int (x * y) :: r) h c s
  | .idiv => on2 st fun x y r => ¬ y = 0 ∧ K (te.1 + 1) lv (.int (x / y) :: r) h c s
  | .irem => on2 st fun x y r => ¬ y = 0 ∧ K (te.1 + 1) lv (.int (x - x / y * y) :: r) h c s
  | .ineg => on1 st fun x r => K (te.1 + 1) lv (.int (-x) :: r) h c s
  | .ishl => on2 st fun x y r => K (te.1 + 1) lv (.int (x <<< (y &&& 31)) :: r) h c s
  | .ishr => on2 st fun x y r => K (te.1 + 1) lv (.int (x >>> (y &&& 31)) :: r) h c s
  | .iushr => on2 st fun x y r => K (te.1 + 1) lv (.int (x.toUInt32 >>> (y.toUInt32 &&& Int32.toUInt32 31)).toInt32 :: r) h c s
  | .iand => on2 st fun x y r => K (te.1 + 1) lv (.int (x &&& y) :: r) h c s
  | .ior => on2 st fun x y r => K (te.1 + 1) lv (.int (x ||| y) :: r) h c s
  | .ixor => on2 st fun x y r => K (te.1 + 1) lv (.int (x ^^^ y) :: r) h c s
  | .i2l => on1 st fun x r => K (te.1 + 1) lv (.long x.toInt64 :: r) h c s
  | .lcmp => onL2 st fun x y r => K (te.1 + 1) lv (.int (lg_cmp x y) :: r) h c s
  | .lshl => onLI st fun x y r => K (te.1 + 1) lv (.long (x <<< (y.toInt64 &&& 63)) :: r) h c s
  | .lor => onL2 st fun x y r => K (te.1 + 1) lv (.long (x ||| y) :: r) h c s
  | .land => onL2 st fun x y r => K (te.1 + 1) lv (.long (x &&& y) :: r) h c s
  | .dup => ∃ v r, st = v :: r ∧ v.category = 1 ∧ K (te.1 + 1) lv (v :: v :: r) h c s
  | .dup2 => ∃ v w r, st = v :: w :: r ∧ v.category = 1 ∧ w.category = 1 ∧ K (te.1 + 1) lv (v :: w :: v :: w :: r) h c s
  | .pop => ∃ v r, st = v :: r ∧ v.category = 1 ∧ K (te.1 + 1) lv r h c s
  | .goto z => jmp te.1 z fun t => K t lv st h c s
  | .ifCond cc z => on1 st fun x r => jmp te.1 z fun t => brn (ccI cc x 0) (K t lv r h c s) (K (te.1 + 3) lv r h c s)
  | .if_icmp cc z => on2 st fun x y r => jmp te.1 z fun t => brn (ccI cc x y) (K t lv r h c s) (K (te.1 + 3) lv r h c s)
  | .tableswitch d lo hi offs => on1 st fun x r => (x.toInt < lo ∨ hi < x.toInt → jmp te.1 d fun t => K t lv r h c s) ∧ (¬ x.toInt < lo → ¬ hi < x.toInt → ∃ off, offs[(x.toInt - lo).toNat]? = some off ∧ jmp te.1 off fun t => K t lv r h c s)
  | .iaload => p_iald S h st fun st => K (te.1 + 1) lv st h c s
  | .iastore => p_iast h st fun st h => K (te.1 + 1) lv st h c s
  | .laload => p_lald h st fun st => K (te.1 + 1) lv st h c s
  | .lastore => p_last h st fun st h => K (te.1 + 1) lv st h c s
  | .aaload => p_aald h st fun st => K (te.1 + 1) lv st h c s
  | .aastore => p_aast h st fun st h => K (te.1 + 1) lv st h c s
  | .arraylength => p_alen S h st fun st => K (te.1 + 1) lv st h c s
  | .getfield _ => p_get h te.2.2.1 te.2.2.2 st fun st => K (te.1 + 3) lv st h c s
  | .putfield _ => p_put h te.2.2.1 te.2.2.2 st fun st h => K (te.1 + 3) lv st h c s
  | .newarray t => on1 st fun x r => ¬ x < 0 ∧ x.toNatClampNeg ≤ 10000 ∧ c + 1 ≤ pC M ∧ s + x.toNatClampNeg ≤ pS M ∧
      ((t = .int ∧ K (te.1 + 2) lv (.ref h.length :: r) (h ++ [.inl (0, x.toNatClampNeg, .inl (fun _ => 0))]) (c + 1) (s + x.toNatClampNeg)) ∨ (t = .long ∧ K (te.1 + 2) lv (.ref h.length :: r) (h ++ [.inl (1, x.toNatClampNeg, .inr (.inl (fun _ => 0)))]) (c + 1) (s + x.toNatClampNeg)))
  | .anewarray _ => on1 st fun x r => ¬ x < 0 ∧ x.toNatClampNeg ≤ 10000 ∧ c + 1 ≤ pC M ∧ s + x.toNatClampNeg ≤ pS M ∧ K (te.1 + 3) lv (.ref h.length :: r) (h ++ [.inl (2, x.toNatClampNeg, .inr (.inr (.inr (.inr (fun _ => none)))))]) (c + 1) (s + x.toNatClampNeg)
  | .multianewarray _ _ => p_new2 h st fun st h dc ds => c + dc ≤ pC M ∧ s + ds ≤ pS M ∧ K (te.1 + 4) lv st h (c + dc) (s + ds)
  | .new _ => (te.2.2.2 = 0 ∧ c + 1 ≤ pC M ∧ s + fnum te.2.2.1 ≤ pS M ∧ K (te.1 + 3) lv (.ref h.length :: st) (h ++ [.inr (te.2.2.1, dflt te.2.2.1)]) (c + 1) (s + fnum te.2.2.1)) ∨
      (te.2.2.2 = 1 ∧ hd = [] ∧ c + 1 ≤ pC M ∧ s + 6 ≤ pS M ∧ (st.map Value.category).sum ≤ 8 ∧ ∃ x, XLs[te.2.2.1]? = some x ∧ Q (.inr x.2.2.1) h)
  | .invokevirtual _ => p_call C M hd Q K te.1 te.2.2.1 true lv st h c s
  | .invokestatic _ => (te.2.2.2 = 7 ∧ p_copy h st fun st h => (st.map Value.category).sum ≤ 8 ∧ K (te.1 + 3) lv st h c s) ∨ (te.2.2.2 ≠ 7 ∧ p_call C M hd Q K te.1 te.2.2.1 false lv st h c s)
  | .invokespecial _ => (te.2.2.2 = 6 ∧ onR st fun _ r => (r.map Value.category).sum ≤ 8 ∧ K (te.1 + 3) lv r h c s) ∨ ((te.2.2.2 = 4 ∨ te.2.2.2 = 5) ∧ p_call C M hd Q K te.1 te.2.2.1 true lv st h c s)
  | .ireturn => ∃ x, st = [.int x] ∧ (∃ t, pR M = some t ∧ narrow t (.int x) = .int x) ∧ Q (.inl (some (.int x))) h
  | .lreturn => ∃ x, st = [.long x] ∧ pR M = some .long ∧ Q (.inl (some (.long x))) h
  | .areturn => ∃ a, st = [.ref a] ∧ (∃ t, pR M = some (.object t)) ∧ Q (.inl (some (.ref a))) h
  | .return_ => st = [] ∧ pR M = none ∧ Q (.inl none) h
  | _ => False
def Vx (C : Nat → List Value → PH → (Rs → PH → Prop) → Prop) (S : Nat × (Nat → Int32)) (M : PM) (hd : List (Nat × Nat × Nat × Int)) (Q : Rs → PH → Prop) : Kt := fun pc lv st h c s =>
  ∀ X : Kt, (∀ pc lv st h c s, (∃ te, (pT M).find? (fun e => e.1 == pc) = some te ∧ pmI C S M hd Q X te lv st h c s) → X pc lv st h c s) → X pc lv st h c s
def Ex (S : Nat × (Nat → Int32)) : Nat → Nat → List Value → PH → (Rs → PH → Prop) → Prop
  | 0, _, _, _, _ => False
  | n + 1, μ, args, h, Q => ∃ M, MT[μ]? = some M ∧ (args.map Value.category).sum ≤ pL M ∧ Vx (Ex S n) S M (if pK M = 3 then hdOf μ else []) Q 0 (lv_args 0 args) [] h 0 0
end
section
/-! the pure picture beside the machine: values, cells, lists of them -/
def A2 {α β : Type} (R : α → β → Prop) : List α → List β → Prop
  | [], l => l = []
  | a :: as, l => ∃ b bs, l = b :: bs ∧ R a b ∧ A2 R as bs
theorem A2.len {α β : Type} {R : α → β → Prop} : ∀ {l : List α} {l' : List β}, A2 R l l' → l'.length = l.length
  | [], _, h => by rw [show _ = [] from h]; rfl
  | _ :: _, _, ⟨_, _, e, _, h⟩ => by rw [e]; simp [A2.len h]
theorem A2.get {α β : Type} {R : α → β → Prop} : ∀ {l : List α} {l' : List β} {i : Nat} {x : α}, A2 R l l' → l[i]? = some x → ∃ y, l'[i]? = some y ∧ R x y
  | [], _, _, _, _, h => by simp at h
  | a :: as, _, 0, x, ⟨b, bs, e, r, _⟩, h => by simp at h; subst h; subst e; exact ⟨b, rfl, r⟩
  | a :: as, _, i + 1, x, ⟨b, bs, e, _, t⟩, h => by subst e; simp at h; simpa using A2.get t h
theorem A2.set {α β : Type} {R : α → β → Prop} {x : α} {y : β} (r : R x y) : ∀ {l : List α} {l' : List β} {i : Nat}, A2 R l l' → A2 R (l.set i x) (l'.set i y)
  | [], _, _, h => by rw [show _ = [] from h]; rfl
  | a :: as, _, 0, ⟨b, bs, e, _, t⟩ => by subst e; exact ⟨y, bs, rfl, r, t⟩
  | a :: as, _, i + 1, ⟨b, bs, e, q, t⟩ => by subst e; exact ⟨b, bs.set i y, rfl, q, A2.set r t⟩
theorem A2.app {α β : Type} {R : α → β → Prop} {m : List α} {m' : List β} (hm : A2 R m m') : ∀ {l : List α} {l' : List β}, A2 R l l' → A2 R (l ++ m) (l' ++ m')
  | [], _, h => by rw [show _ = [] from h]; simpa using hm
  | a :: as, _, ⟨b, bs, e, q, t⟩ => by subst e; exact ⟨b, bs ++ m', rfl, q, A2.app hm t⟩
theorem A2.mono {α β : Type} {R R' : α → β → Prop} (hr : ∀ x y, R x y → R' x y) : ∀ {l : List α} {l' : List β}, A2 R l l' → A2 R' l l'
  | [], _, h => h
  | a :: as, _, ⟨b, bs, e, q, t⟩ => ⟨b, bs, e, hr _ _ q, A2.mono hr t⟩
theorem A2.take {α β : Type} {R : α → β → Prop} : ∀ {l : List α} {l' : List β} (n : Nat), A2 R l l' → A2 R (l.take n) (l'.take n)
  | [], _, n, h => by rw [show _ = [] from h]; simp [A2]
  | a :: as, l', 0, h => by simp [A2]
  | a :: as, _, n + 1, ⟨b, bs, e, q, t⟩ => by subst e; exact ⟨b, bs.take n, rfl, q, A2.take n t⟩
theorem A2.drop {α β : Type} {R : α → β → Prop} : ∀ {l : List α} {l' : List β} (n : Nat), A2 R l l' → A2 R (l.drop n) (l'.drop n)
  | [], _, n, h => by rw [show _ = [] from h]; simp [A2]
  | a :: as, l', 0, h => by simpa using h
  | a :: as, _, n + 1, ⟨b, bs, e, q, t⟩ => by subst e; simpa using A2.drop n t
theorem A2.one {α β : Type} {R : α → β → Prop} {x : α} {y : β} (r : R x y) : A2 R [x] [y] := ⟨y, [], rfl, r, rfl⟩
theorem A2.rev {α β : Type} {R : α → β → Prop} : ∀ {l : List α} {l' : List β}, A2 R l l' → A2 R l.reverse l'.reverse
  | [], _, h => by rw [show _ = [] from h]; simp [A2]
  | a :: as, _, ⟨b, bs, e, q, t⟩ => by subst e; rw [List.reverse_cons, List.reverse_cons]; exact A2.app (A2.one q) (A2.rev t)
theorem A2.rep {α β : Type} {R : α → β → Prop} {x : α} {y : β} (r : R x y) : ∀ n : Nat, A2 R (List.replicate n x) (List.replicate n y)
  | 0 => rfl
  | n + 1 => ⟨y, List.replicate n y, rfl, r, A2.rep r n⟩
def rv (ρ : List Nat) (b : Option Nat) (v w : Value) : Prop := match v with
  | .ref i => ∃ a, ρ[i]? = some a ∧ w = .ref a
  | .retAddr _ => ∃ a, b = some a ∧ w = .ref a
  | v => w = v
def rf (ρ : List Nat) (f f' : Nat → Option Nat) : Prop := ∀ j, match f j with
  | none => f' j = none
  | some i => ∃ a, ρ[i]? = some a ∧ f' j = some a
def rE (cy : Nat → ClassId) (ρ : List Nat) (b : Option Nat) (x : PE) (e : va_E) : Prop := match x with
  | .inl (t, n, .inl f) => e = .inl (cy t, n, .inl f)
  | .inl (t, n, .inr (.inl f)) => e = .inl (cy t, n, .inr (.inl f))
  | .inl (t, n, .inr (.inr (.inr (.inr f)))) => ∃ f', e = .inl (cy t, n, .inr (.inr (.inr (.inr f')))) ∧ rf ρ f f'
  | .inl _ => False
  | .inr (ci, fs) => ∃ fs', e = .inr (ci, fs') ∧ A2 (rv ρ b) fs fs'
def rL (ρ : List Nat) (b : Option Nat) (q q' : Nat × Value) : Prop := q'.1 = q.1 ∧ rv ρ b q.2 q'.2
def rO (ρ : List Nat) (b : Option Nat) (v v' : Option Value) : Prop := A2 (rv ρ b) v.toList v'.toList
abbrev ext (ρ ρ' : List Nat) : Prop := ∀ (i a : Nat), ρ[i]? = some a → ρ'[i]? = some a
theorem rv.mono {ρ ρ' : List Nat} {b : Option Nat} (hx : ext ρ ρ') (v w : Value) (h : rv ρ b v w) : rv ρ' b v w := by
  cases v with
  | ref i => obtain ⟨a, h1, h2⟩ := h; exact ⟨a, hx _ _ h1, h2⟩
  | _ => exact h
theorem rf.mono {ρ ρ' : List Nat} (hx : ext ρ ρ') {f f' : Nat → Option Nat} (h : rf ρ f f') : rf ρ' f f' := by
  intro j
  have hj := h j
  cases hf : f j with
  | none => simpa [hf] using hj
  | some i =>
    rw [hf] at hj
    obtain ⟨a, h1, h2⟩ := hj
    exact ⟨a, hx _ _ h1, h2⟩
theorem rE.mono {cy : Nat → ClassId} {ρ ρ' : List Nat} {b : Option Nat} (hx : ext ρ ρ') (x : PE) (e : va_E) (h : rE cy ρ b x e) : rE cy ρ' b x e := by
  rcases x with ⟨t, n, f | f | f | f | f⟩ | ⟨ci, fs⟩
  · exact h
  · exact h
  · exact h
  · exact h
  · obtain ⟨f', h1, h2⟩ := h; exact ⟨f', h1, h2.mono hx⟩
  · obtain ⟨fs', h1, h2⟩ := h; exact ⟨fs', h1, h2.mono (rv.mono hx)⟩
theorem rv.cat {ρ : List Nat} {b : Option Nat} {v w : Value} (h : rv ρ b v w) : w.category = v.category := by
  cases v with
  | ref i => obtain ⟨a, _, h2⟩ := h; rw [h2]; rfl
  | retAddr i => obtain ⟨a, _, h2⟩ := h; rw [h2]; rfl
  | _ => rw [show w = _ from h]
theorem A2.cats {ρ : List Nat} {b : Option Nat} : ∀ {l l' : List Value}, A2 (rv ρ b) l l' → (l'.map fun v => v.category) = l.map Value.category
  | [], _, h => by rw [show _ = [] from h]
  | a :: as, _, ⟨_, _, e, q, t⟩ => by subst e; simp [q.cat, A2.cats t]
theorem A2.filt {ρ : List Nat} {b : Option Nat} {P : Nat × Value → Bool} (hP : ∀ q q', rL ρ b q q' → P q' = P q) : ∀ {l l' : LV}, A2 (rL ρ b) l l' → A2 (rL ρ b) (l.filter P) (l'.filter P)
  | [], _, h => by rw [show _ = [] from h]; rfl
  | a :: as, _, ⟨c, cs, e, q, t⟩ => by
    subst e
    rw [List.filter_cons, List.filter_cons, hP _ _ q]
    by_cases hp : P a = true
    · rw [if_pos hp, if_pos hp]; exact ⟨c, _, rfl, q, A2.filt hP t⟩
    · rw [if_neg hp, if_neg hp]; exact A2.filt hP t
theorem rl_s1 {ρ : List Nat} {b : Option Nat} {lv lv' : LV} (h : A2 (rL ρ b) lv lv') (i : Nat) {v w : Value} (hv : rv ρ b v w) : A2 (rL ρ b) (px_s1 lv i v) ((i, w) :: lv'.filter (fun q => !(q.1 == i) && !(q.1 + 1 == i && q.2.category == 2))) :=
  ⟨(i, w), _, rfl, ⟨rfl, hv⟩, A2.filt (fun q q' hq => by rw [hq.1, hq.2.cat]) h⟩
theorem rl_s2 {ρ : List Nat} {b : Option Nat} {lv lv' : LV} (h : A2 (rL ρ b) lv lv') (i : Nat) {v w : Value} (hv : rv ρ b v w) : A2 (rL ρ b) (px_s2 lv i v) ((i, w) :: lv'.filter (fun q => !(q.1 == i) && (!(q.1 == i + 1) && !(q.1 + 1 == i && q.2.category == 2)))) :=
  ⟨(i, w), _, rfl, ⟨rfl, hv⟩, A2.filt (fun q q' hq => by rw [hq.1, hq.2.cat]) h⟩
theorem rl_g {ρ : List Nat} {b : Option Nat} {i : Nat} {v : Value} : ∀ {lv lv' : LV}, A2 (rL ρ b) lv lv' → px_g lv i = some v → ∃ (k : Nat) (w : Value), lv'[k]? = some (i, w) ∧ rv ρ b v w
  | [], _, _, h => by simp [px_g] at h
  | a :: as, _, ⟨c, cs, e, q, t⟩, h => by
    subst e
    by_cases ha : (a.1 == i) = true
    · simp [px_g, List.find?, ha] at h
      subst h
      refine ⟨0, c.2, ?_, q.2⟩
      rw [beq_iff_eq] at ha
      simp [← ha, ← q.1]
    · have h' : px_g as i = some v := by
        simp only [px_g, List.find?] at h ⊢
        simpa [ha] using h
      obtain ⟨k, w, h1, h2⟩ := rl_g t h'
      exact ⟨k + 1, w, by simpa using h1, h2⟩
theorem rl_args {ρ : List Nat} {b : Option Nat} : ∀ {l l' : List Value} (i : Nat), A2 (rv ρ b) l l' → A2 (rL ρ b) (lv_args i l) (lv_args i l')
  | [], _, i, h => by rw [show _ = [] from h]; rfl
  | a :: as, _, i, ⟨c, cs, e, q, t⟩ => by
    subst e
    refine ⟨(i, c), _, rfl, ⟨rfl, q⟩, ?_⟩
    rw [q.cat]
    exact rl_args _ t
theorem on1_i {st : List Value} {f : Int32 → List Value → Prop} (h : on1 st f) : ∃ x r, st = .int x :: r ∧ f x r := by
  unfold on1 at h
  split at h
  · exact ⟨_, _, rfl, h⟩
  · exact h.elim
theorem on2_i {st : List Value} {f : Int32 → Int32 → List Value → Prop} (h : on2 st f) : ∃ x y r, st = .int y :: .int x :: r ∧ f x y r := by
  unfold on2 at h
  split at h
  · exact ⟨_, _, _, rfl, h⟩
  · exact h.elim
theorem onL2_i {st : List Value} {f : Int64 → Int64 → List Value → Prop} (h : onL2 st f) : ∃ x y r, st = .long y :: .long x :: r ∧ f x y r := by
  unfold onL2 at h
  split at h
  · exact ⟨_, _, _, rfl, h⟩
  · exact h.elim
theorem onLI_i {st : List Value} {f : Int64 → Int32 → List Value → Prop} (h : onLI st f) : ∃ x y r, st = .int y :: .long x :: r ∧ f x y r := by
  unfold onLI at h
  split at h
  · exact ⟨_, _, _, rfl, h⟩
  · exact h.elim
theorem onR_i {st : List Value} {f : Nat → List Value → Prop} (h : onR st f) : ∃ a r, st = .ref a :: r ∧ f a r := by
  unfold onR at h
  split at h
  · exact ⟨_, _, rfl, h⟩
  · exact h.elim
theorem a_1 {ρ : List Nat} {b : Option Nat} {x : Int32} {r st' : List Value} (h : A2 (rv ρ b) (.int x :: r) st') : ∃ r', st' = .int x :: r' ∧ A2 (rv ρ b) r r' := by
  obtain ⟨w, r', e, h1, h2⟩ := h
  exact ⟨r', by rw [e, show w = .int x from h1], h2⟩
theorem a_2 {ρ : List Nat} {b : Option Nat} {x y : Int32} {r st' : List Value} (h : A2 (rv ρ b) (.int y :: .int x :: r) st') : ∃ r', st' = .int y :: .int x :: r' ∧ A2 (rv ρ b) r r' := by
  obtain ⟨r1, e, h1⟩ := a_1 h
  obtain ⟨r2, e2, h2⟩ := a_1 h1
  exact ⟨r2, by rw [e, e2], h2⟩
theorem a_l {ρ : List Nat} {b : Option Nat} {x : Int64} {r st' : List Value} (h : A2 (rv ρ b) (.long x :: r) st') : ∃ r', st' = .long x :: r' ∧ A2 (rv ρ b) r r' := by
  obtain ⟨w, r', e, h1, h2⟩ := h
  exact ⟨r', by rw [e, show w = .long x from h1], h2⟩
theorem a_r {ρ : List Nat} {b : Option Nat} {i : Nat} {r st' : List Value} (h : A2 (rv ρ b) (.ref i :: r) st') : ∃ a r', ρ[i]? = some a ∧ st' = .ref a :: r' ∧ A2 (rv ρ b) r r' := by
  obtain ⟨w, r', e, ⟨a, h1, h3⟩, h2⟩ := h
  exact ⟨a, r', h1, by rw [e, h3], h2⟩
theorem a_c {ρ : List Nat} {b : Option Nat} {v : Value} {r st' : List Value} (h : A2 (rv ρ b) (v :: r) st') : ∃ w r', st' = w :: r' ∧ rv ρ b v w ∧ A2 (rv ρ b) r r' := h
theorem a_i {ρ : List Nat} {b : Option Nat} (x : Int32) {r r' : List Value} (h : A2 (rv ρ b) r r') : A2 (rv ρ b) (.int x :: r) (.int x :: r') := ⟨_, _, rfl, rfl, h⟩
theorem a_L {ρ : List Nat} {b : Option Nat} (x : Int64) {r r' : List Value} (h : A2 (rv ρ b) r r') : A2 (rv ρ b) (.long x :: r) (.long x :: r') := ⟨_, _, rfl, rfl, h⟩
end
section
/-! what the pure machine says holds of the machine: one body, instruction by instruction -/
def pTy (cy : Nat → ClassId) : List (ClassId × FieldType) := [(cy 0, .int), (cy 1, .long), (cy 2, .object "OverlapMill$Chart"), (cy 3, .array .int)]
theorem va_AOA.moved {ty : FieldType} {u U : State} (hvm : u.vm.Alike U.vm) (h : va_AOA ty u) : va_AOA ty U := by
  have h1 := Cond.arrayOver_setVmC (args := #[]) (s := u) hvm (.array ty)
  have h2 : (Cond.arrayOver (.array ty)).before #[] (u.setVm U.vm) = true := h1.trans h
  exact h2
theorem nw_warm {w : Cond} (hw : nwOK w = true) {s U : State} (hW : s.WarmedH U.vm) (h : va_Nw w s) : va_Nw w U := by
  cases w <;> first | exact va_Nw.warmF hW h | exact va_Nw.warmM hW h | exact va_Nw.warmD hW h | exact va_Nw.warmC hW h | (exact absurd hw (by simp [nwOK]))
def XK (D : va_G) (cy : Nat → ClassId) (A : Nat → Prop) (b : Option Nat) (S : Nat × (Nat → Int32)) (U : State) (H : Heap) : Prop :=
  va_K D vwCl (pTy cy) U ∧ (∀ w ∈ lw_tbl, nwOK w = true → va_Nw w U) ∧ va_AO "OverlapMill$Chart" U ∧ va_AOA .int U ∧
  (vx_Zq Bundle.tN "UNASSIGNED_STACK" Bundle.steD A U H ∧ vx_Zq Bundle.tN "SUPPRESSED_SENTINEL" Bundle.listD A U H) ∧ (∀ x ∈ XLs, ∃ (tx : String) (a : Nat), vk_R RX9 x.2.2.2.2.1 tx a U) ∧ (∀ a, b = some a → va_X a S.1 S.2 U H ∧ a < H.size ∧ ¬ A a) ∧ (∀ (x y : Nat) (E F : String), xnm[x]? = some E → xnm[y]? = some F → x ≠ y → va_Nc E F U)
theorem XK.go {D : va_G} {cy : Nat → ClassId} {A B : Nat → Prop} {b : Option Nat} {S : Nat × (Nat → Int32)} {s U : State} {H0 H : Heap} (h : XK D cy A b S s H0) (hW : s.WarmedH U.vm) (hz : H0.size ≤ H.size) (hk : ∀ q : Nat, q < H0.size → ¬ A q → H[q]? = H0[q]?) (hB : ∀ q, B q → A q) : XK D cy B b S U H := by
  obtain ⟨h1, h2, h3, h4, ⟨h5, h6⟩, h7, h8, h9⟩ := h
  refine ⟨h1.moved hW.alike, fun w hw hn => nw_warm hn hW (h2 w hw hn), h3.moved hW.alike, h4.moved hW.alike, ⟨((h5.kept hk).moved hW.alike).narrow hB, ((h6.kept hk).moved hW.alike).narrow hB⟩, fun x hx => ?_, fun a ha => ?_, fun x y E F e1 e2 e3 => (h9 x y E F e1 e2 e3).moved hW.alike⟩
  · obtain ⟨tx, a, h9⟩ := h7 x hx
    exact ⟨tx, a, h9.warm hW⟩
  · obtain ⟨⟨scr, g1, g2, g3, g4, g5⟩, g6, g7⟩ := h8 a ha
    exact ⟨⟨scr, (hk a g6 g7).trans g1, State.isArrayOf_alike hW.alike g2, g3, g4, g5⟩, Nat.lt_of_lt_of_le g6 hz, fun q => g7 (hB _ q)⟩
def INV (D : va_G) (cy : Nat → ClassId) (A : Nat → Prop) (b : Option Nat) (s : State) (ws0 : va_W) (h : PH) (ws : va_W) (H : Heap) (locs : List Loc) : Prop :=
  ext (ws0.map Prod.fst) (ws.map Prod.fst) ∧ A2 (rE cy (ws.map Prod.fst) b) h (ws.map Prod.snd) ∧ va_P D vwCl ws H ∧ va_D A ws ∧ va_S A s.heap H locs
def GD (p : Program) (l : Launch) (e : Env) (R : Room) (s : State) (m : MethodId) (args : Array Value) (below : List Frame) (meth : Method) (c : Code) (D : va_G) (cy : Nat → ClassId) (A : Nat → Prop) (b : Option Nat) (M : PM) (ws0 : va_W) (Z : State → Prop)
    (pc : Nat) (lv : LV) (st : List Value) (h : PH) (cells slots : Nat) : Prop :=
  ∀ (ls : Array Slot) (lv' : LV) (st' : List Value) (ws : va_W) (H : Heap) (locs : List Loc), lv_has ls (pL M) lv' → A2 (rL (ws.map Prod.fst) b) lv lv' → A2 (rv (ws.map Prod.fst) b) st st' → INV D cy A b s ws0 h ws H locs → cells ≤ pC M → slots ≤ pS M →
    W p l e R s m args below meth c H locs cells slots Z (F0 m pc ls st')
def CX (p : Program) (l : Launch) (R : Room) (s : State) (m : MethodId) (args : Array Value) (meth : Method) (c : Code) (D : va_G) (cy : Nat → ClassId) (A : Nat → Prop) (b : Option Nat) (S : Nat × (Nat → Int32)) (M : PM) (n : Nat) : Prop :=
  p.tables.exec = Jvm.exec ∧ c.code = pB M ∧ c.maxLocals = pL M ∧ s.vm.findClass (cnm.getD (pO M) "") = some m.cls ∧ (∀ w ∈ TBL, w.before args s = true) ∧ XK D cy A b S s s.heap ∧ (∀ q, s.heap.size ≤ q → A q) ∧ (pK M = 2 → meth.name = "<init>") ∧ pC M ≤ R.cells ∧ pS M ≤ R.slots ∧ n + 9 ≤ R.frames ∧ 40 * n + 240 ≤ R.locals ∧ l.stackTraces = false
abbrev rmN (n : Nat) (M : PM) : Room := { frames := n + 8, cells := pC M, slots := pS M, locals := 40 * n + 200 }
noncomputable def wsN (μ : Nat) (N : PM) : List Cond := (if pK N = 3 then Cond.codeWith (pY N) (pB N) (pL N) (pR N) (hhOf μ) else codeOf N) :: TBL
def PO (D : va_G) (cy : Nat → ClassId) (b : Option Nat) (ws : va_W) (sz : Nat) (ws' : va_W) (h' : PH) (H : Heap) : Prop := ext (ws.map Prod.fst) (ws'.map Prod.fst) ∧ A2 (rE cy (ws'.map Prod.fst) b) h' (ws'.map Prod.snd) ∧ va_P D vwCl ws' H ∧ va_D (va_A ws sz) ws'
def QcP (D : va_G) (cy : Nat → ClassId) (b : Option Nat) (ws : va_W) (sz : Nat) (Q : Rs → PH → Prop) : Array Value → State → Outcome → State → Prop := fun _ st oc t =>
  (∃ (v v' : Option Value) (h' : PH) (ws' : va_W), oc = .returned v' ∧ Q (.inl v) h' ∧ rO (ws'.map Prod.fst) b v v' ∧ PO D cy b ws sz ws' h' t.heap) ∧ va_F (va_A ws sz) st t
def XcP (D : va_G) (cy : Nat → ClassId) (b : Option Nat) (ws : va_W) (sz : Nat) (Q : Rs → PH → Prop) : String → State → State → Prop := fun E st t =>
  (∃ (x : Nat) (h' : PH) (ws' : va_W), xnm[x]? = some E ∧ Q (.inr x) h' ∧ PO D cy b ws sz ws' h' t.heap) ∧ va_F (va_A ws sz) st t
def PcP (D : va_G) (cy : Nat → ClassId) (b : Option Nat) (S : Nat × (Nat → Int32)) (ws : va_W) (sz : Nat) : State → Prop := fun U => U.heap.size = sz ∧ va_P D vwCl ws U.heap ∧ va_D (fun _ => True) ws ∧ XK D cy (va_A ws sz) b S U U.heap
def CT (l : Launch) (D : va_G) (cy : Nat → ClassId) (b : Option Nat) (S : Nat × (Nat → Int32)) (n μ : Nat) (N : PM) (av : List Value) (h : PH) (Q : Rs → PH → Prop) : Prop := ∀ (av' : List Value) (ws : va_W) (sz : Nat), A2 (rv (ws.map Prod.fst) b) av av' → A2 (rE cy (ws.map Prod.fst) b) h (ws.map Prod.snd) →
  vx_Met l (pY N) (wsN μ N) (rmN n N) (va_Pc av' (PcP D cy b S ws sz)) (QcP D cy b ws sz Q) (XcP D cy b ws sz Q) (pC N) (pS N) (va_A ws sz)
theorem PcP.blind {D : va_G} {cy : Nat → ClassId} {b : Option Nat} {S : Nat × (Nat → Int32)} {ws : va_W} {sz : Nat} {av : List Value} : FrameBlind (va_Pc av (PcP D cy b S ws sz)) := by
  intro a U g mk h
  obtain ⟨h0, h1, h2, h3, h4⟩ := h
  exact ⟨h0, h1, h2, h3, XK.go (s := U) (U := U.calling g mk a) h4 (State.WarmedH.refl U) (Nat.le_refl _) (fun _ _ _ => rfl) (fun _ q => q)⟩
section SND
variable {p : Program} {l : Launch} {e : Env} {R : Room} {s : State} {m : MethodId} {args : Array Value} {below : List Frame} {meth : Method} {c : Code} {D : va_G} {cy : Nat → ClassId} {A : Nat → Prop} {b : Option Nat} {S : Nat × (Nat → Int32)} {M : PM} {ws0 : va_W} {Z : State → Prop} {n : Nat}
theorem INV.at {h : PH} {ws : va_W} {H : Heap} {locs : List Loc} (hI : INV D cy A b s ws0 h ws H locs) {i a : Nat} {x : PE} (ha : (ws.map Prod.fst)[i]? = some a) (hx : h[i]? = some x) : ∃ y, ws[i]? = some (a, y) ∧ rE cy (ws.map Prod.fst) b x y := by
  obtain ⟨y, hy, hr⟩ := hI.2.1.get hx
  rw [List.getElem?_map, Option.map_eq_some_iff] at ha hy
  obtain ⟨q, h1, h2⟩ := ha
  obtain ⟨q', h3, h4⟩ := hy
  cases h1.symm.trans h3
  exact ⟨y, by rw [h1, ← h2, ← h4], hr⟩
theorem fst_set {ws : va_W} {i a : Nat} {y y' : va_E} (h : ws[i]? = some (a, y)) : (ws.set i (a, y')).map Prod.fst = ws.map Prod.fst := by
  rw [List.map_set]
  apply List.ext_getElem?
  intro j
  by_cases hj : i = j
  · subst hj
    have hl : i < ws.length := (List.getElem?_eq_some_iff.mp h).1
    rw [List.getElem?_set_self (by simpa using hl), List.getElem?_map, h]
    rfl
  · rw [List.getElem?_set_ne hj]
theorem INV.set {h : PH} {ws : va_W} {H H1 : Heap} {locs locs1 : List Loc} (hI : INV D cy A b s ws0 h ws H locs) {i a : Nat} {y y' : va_E} {x' : PE} (hw : ws[i]? = some (a, y)) (hr : rE cy (ws.map Prod.fst) b x' y') (h1 : va_P D vwCl (ws.set i (a, y')) H1) (h2 : va_D A (ws.set i (a, y'))) (h3 : va_S A s.heap H1 locs1) :
    INV D cy A b s ws0 (h.set i x') (ws.set i (a, y')) H1 locs1 := by
  refine ⟨by rw [fst_set hw]; exact hI.1, ?_, h1, h2, h3⟩
  rw [fst_set hw, List.map_set]
  exact hI.2.1.set hr
theorem ext_app (ρ σ : List Nat) : ext ρ (ρ ++ σ) := fun i a h => by
  rw [List.getElem?_append_left ((List.getElem?_eq_some_iff.mp h).1)]
  exact h
theorem INV.push {h : PH} {ws : va_W} {H H1 : Heap} {locs locs1 : List Loc} (hI : INV D cy A b s ws0 h ws H locs) {q : Nat} {y : va_E} {x : PE} (hr : rE cy ((ws ++ [(q, y)]).map Prod.fst) b x y) (h1 : va_P D vwCl (ws ++ [(q, y)]) H1) (h2 : va_D A (ws ++ [(q, y)])) (h3 : va_S A s.heap H1 locs1) :
    INV D cy A b s ws0 (h ++ [x]) (ws ++ [(q, y)]) H1 locs1 ∧ ext (ws.map Prod.fst) ((ws ++ [(q, y)]).map Prod.fst) ∧ ((ws ++ [(q, y)]).map Prod.fst)[h.length]? = some q := by
  have hx : ext (ws.map Prod.fst) ((ws ++ [(q, y)]).map Prod.fst) := by rw [List.map_append]; exact ext_app _ _
  refine ⟨⟨fun i a ha => hx i a (hI.1 i a ha), ?_, h1, h2, h3⟩, hx, ?_⟩
  · rw [List.map_append (f := Prod.snd)]
    exact A2.app (A2.one hr) (hI.2.1.mono (rE.mono hx))
  · have hl := hI.2.1.len
    rw [List.length_map] at hl
    rw [← hl, List.map_append, List.getElem?_append_right (by simp)]
    simp
theorem px_run {H : Heap} {locs : List Loc} {cells slots mc ms pc : Nat} {ls : Array Slot} {st0 rest : List Value} {ws : va_W} {Q' : Rs → PH → Prop} {a : Array Value}
    (hr : vx_Run p l e R s m args below meth c H locs cells slots mc ms (F0 m pc ls st0) rest (QcP D cy b ws H.size Q' a) (XcP D cy b ws H.size Q') (va_A ws H.size)) (hS : va_S A s.heap H locs) (hA : ∀ q, va_A ws H.size q → A q)
    (kx : ∀ (E : String) (ce : Cell) (q9 : Addr) (x : Nat) (h' : PH) (ws' : va_W) (H1 : Heap) (locs1 : List Loc), xnm[x]? = some E → Q' (.inr x) h' → PO D cy b ws H.size ws' h' H1 → va_S A s.heap H1 locs1 → H1[q9]? = some ce → ce.vm = .none → s.vm.findClass E = some ce.cls → vx_W p l e R s m args below meth c H1 locs1 (cells + mc) (slots + ms) Z (F0 m pc ls rest) q9)
    (kk : ∀ (v v' : Option Value) (h' : PH) (ws' : va_W) (H1 : Heap) (locs1 : List Loc), Q' (.inl v) h' → rO (ws'.map Prod.fst) b v v' → PO D cy b ws H.size ws' h' H1 → va_S A s.heap H1 locs1 → W p l e R s m args below meth c H1 locs1 (cells + mc) (slots + ms) Z (F0 m (pc + 3) ls (v'.toList ++ rest))) : W p l e R s m args below meth c H locs cells slots Z (F0 m pc ls st0) := by
  intro T hT X
  rcases hr T hT X with ⟨v, st₀, t, T', L, h0, X', hL, e1, e2, ⟨⟨v1, v2, h', ws', hv, hp, ho, hb⟩, hF⟩, st⟩ | ⟨q, st₀, t, T', L, E, ce, h0, X', hL, e1, e2, ⟨⟨x, h', ws', hxe, hp, hb⟩, hF⟩, hce, hcv, hcl, st⟩
  · cases hv
    obtain ⟨k1, k2, k3⟩ := vx_keep h0 e1 hS (fun q _ hq => hA q hq) hA hL hF
    obtain ⟨t2, a1, b1⟩ := kk v1 v h' ws' T'.heap (locs ++ L) hp ho (by rw [e1]; exact hb) k3 T' rfl X'
    exact ⟨t2, st t2 a1, b1⟩
  · obtain ⟨k1, k2, k3⟩ := vx_keep h0 e1 hS (fun q _ hq => hA q hq) hA hL hF
    obtain ⟨t2, a1, b1⟩ := kx E ce q x h' ws' T'.heap (locs ++ L) hxe hp (by rw [e1]; exact hb) k3 (by rw [e1]; exact hce) hcv hcl T' rfl X'
    exact ⟨t2, st.trans a1, b1⟩
end SND
end
section
/-! the words at an instruction; what the forms of the stack say -/
theorem cl_lt {ci : Nat} (h : ci < 11) : ∃ r, vwCl[ci]? = some r := ⟨_, List.getElem?_eq_getElem (show ci < vwCl.length from h)⟩
theorem fnum_eq {ci : Nat} {r : vw_C} (h : vwCl[ci]? = some r) : fnum ci = r.2.2 := by unfold fnum; rw [h]
theorem LY_in {ci : Nat} {r : vw_C} (h : vwCl[ci]? = some r) : ∀ w ∈ u_ws r.1 r.2.1 r.2.2, w ∈ TBL := fun w hw => TBL_of (LY_ok r (List.mem_of_getElem? h) w hw)
theorem ftyX_ok : ∀ {ci : Nat} {r : vw_C}, vwCl[ci]? = some r → ∀ k, k < r.2.2 → parseFieldDescriptor (r.2.1 k).2.2.1 = some (ftyX ci k)
  | 0, _, h => by cases h; exact tyX0_ok
  | 1, _, h => by cases h; exact tyX1_ok
  | 2, _, h => by cases h; exact tyX2_ok
  | 3, _, h => by cases h; exact tyX3_ok
  | 4, _, h => by cases h; exact tyX4_ok
  | 5, _, h => by cases h; exact tyX5_ok
  | 6, _, h => by cases h; exact tyX6_ok
  | 7, _, h => by cases h; exact tyX7_ok
  | 8, _, h => by cases h; exact tyX8_ok
  | 9, _, h => by cases h; exact tyX9_ok
  | 10, _, h => by cases h; exact tyX10_ok
  | n + 11, _, h => by simp [vwCl] at h
theorem nmX_ok : ∀ {ci : Nat} {r : vw_C}, vwCl[ci]? = some r → ∀ a, a < r.2.2 → ∀ b, b < r.2.2 → a ≠ b → (r.2.1 a).2.1 ≠ (r.2.1 b).2.1
  | 0, _, h => by cases h; exact nmX0
  | 1, _, h => by cases h; exact nmX1
  | 2, _, h => by cases h; exact nmX2
  | 3, _, h => by cases h; exact nmX3
  | 4, _, h => by cases h; exact nmX4
  | 5, _, h => by cases h; exact nmX5
  | 6, _, h => by cases h; exact nmX6
  | 7, _, h => by cases h; exact nmX7
  | 8, _, h => by cases h; exact nmX8
  | 9, _, h => by cases h; exact nmX9
  | 10, _, h => by cases h; exact nmX10
  | n + 11, _, h => by simp [vwCl] at h
theorem owX_ok : ∀ {ci : Nat} {r : vw_C}, vwCl[ci]? = some r → cnm.getD ci "" = r.1 ∧ ∀ k, k < r.2.2 → (r.2.1 k).1 = r.1
  | 0, _, h => by cases h; exact ⟨rfl, by decide +kernel⟩
  | 1, _, h => by cases h; exact ⟨rfl, by decide +kernel⟩
  | 2, _, h => by cases h; exact ⟨rfl, by decide +kernel⟩
  | 3, _, h => by cases h; exact ⟨rfl, by decide +kernel⟩
  | 4, _, h => by cases h; exact ⟨rfl, by decide +kernel⟩
  | 5, _, h => by cases h; exact ⟨rfl, by decide +kernel⟩
  | 6, _, h => by cases h; exact ⟨rfl, by decide +kernel⟩
  | 7, _, h => by cases h; exact ⟨rfl, by decide +kernel⟩
  | 8, _, h => by cases h; exact ⟨rfl, by decide +kernel⟩
  | 9, _, h => by cases h; exact ⟨rfl, by decide +kernel⟩
  | 10, _, h => by cases h; exact ⟨rfl, by decide +kernel⟩
  | n + 11, _, h => by simp [vwCl] at h
theorem fl_0 {o i ci k : Nat} {r : vw_C} (hc : vwCl[ci]? = some r) (h : (o, i, ci, k, 0) ∈ FLs) : Cond.fieldLink (cnm.getD o "") i (r.2.1 k).1 (r.2.1 k).2.1 (r.2.1 k).2.2.1 ∈ TBL := by
  have h1 := FL_ok _ h
  have e : flW (o, i, ci, k, 0) = Cond.fieldLink (cnm.getD o "") i (r.2.1 k).1 (r.2.1 k).2.1 (r.2.1 k).2.2.1 := by unfold flW; rw [hc]; rfl
  rw [e] at h1
  exact TBL_of ⟨h1.1, rfl⟩
theorem fl_1 {o i ci k : Nat} {r : vw_C} (hc : vwCl[ci]? = some r) (h : (o, i, ci, k, 1) ∈ FLs) : Cond.fieldLinkNest (cnm.getD o "") i (r.2.1 k).1 (r.2.1 k).2.1 (r.2.1 k).2.2.1 "OverlapMill" ∈ lw_tbl := by
  have h1 := FL_ok _ h
  have e : flW (o, i, ci, k, 1) = Cond.fieldLinkNest (cnm.getD o "") i (r.2.1 k).1 (r.2.1 k).2.1 (r.2.1 k).2.2.1 "OverlapMill" := by unfold flW; rw [hc]; rfl
  rw [e] at h1
  exact h1.1
theorem kl_in {q : Nat × Nat × Int32} {k : Nat} (h : KLs[k]? = some q) : Cond.constant (cnm.getD q.1 "") q.2.1 q.2.2 ∈ TBL := TBL_of ⟨(KL_ok q (List.mem_of_getElem? h)).1, rfl⟩
theorem cl_in {o i a : Nat} (ha : a < 11) (h : (o, i, a) ∈ CLs) : Cond.classLink (cnm.getD o "") i (cnm.getD a "") ∈ TBL := by
  have h1 := CL_ok _ h
  have e : clW (o, i, a) = Cond.classLink (cnm.getD o "") i (cnm.getD a "") := by
    unfold clW
    rw [if_neg (show ¬ (o, i, a).2.2 = 90 by show ¬ a = 90; omega), if_neg (show ¬ (o, i, a).2.2 = 91 by show ¬ a = 91; omega)]
  rw [e] at h1
  exact TBL_of ⟨h1.1, rfl⟩
theorem p_iald_i {S : Nat × (Nat → Int32)} {h : PH} {st : List Value} {k : List Value → Prop} (H : p_iald S h st k) : (∃ i a r n g, st = .int i :: .ref a :: r ∧ h[a]? = some (.inl (0, n, .inl g)) ∧ vp_in i n ∧ k (.int (g i.toNatClampNeg) :: r)) ∨ (∃ i a r, st = .int i :: .retAddr a :: r ∧ vp_in i S.1 ∧ k (.int (S.2 i.toNatClampNeg) :: r)) := by
  unfold p_iald at H
  split at H
  · split at H
    · exact Or.inl ⟨_, _, _, _, _, rfl, ‹_›, H.1, H.2⟩
    · exact H.elim
  · exact Or.inr ⟨_, _, _, rfl, H.1, H.2⟩
  · exact H.elim
theorem p_iast_i {h : PH} {st : List Value} {k : List Value → PH → Prop} (H : p_iast h st k) : ∃ x i a r n g, st = .int x :: .int i :: .ref a :: r ∧ h[a]? = some (.inl (0, n, .inl g)) ∧ vp_in i n ∧ k r (h.set a (.inl (0, n, .inl (upd g i.toNatClampNeg x)))) := by
  unfold p_iast at H
  split at H
  · split at H
    · exact ⟨_, _, _, _, _, _, rfl, ‹_›, H.1, H.2⟩
    · exact H.elim
  · exact H.elim
theorem p_lald_i {h : PH} {st : List Value} {k : List Value → Prop} (H : p_lald h st k) : ∃ i a r n g, st = .int i :: .ref a :: r ∧ h[a]? = some (.inl (1, n, .inr (.inl g))) ∧ vp_in i n ∧ k (.long (g i.toNatClampNeg) :: r) := by
  unfold p_lald at H
  split at H
  · split at H
    · exact ⟨_, _, _, _, _, rfl, ‹_›, H.1, H.2⟩
    · exact H.elim
  · exact H.elim
theorem p_last_i {h : PH} {st : List Value} {k : List Value → PH → Prop} (H : p_last h st k) : ∃ x i a r n g, st = .long x :: .int i :: .ref a :: r ∧ h[a]? = some (.inl (1, n, .inr (.inl g))) ∧ vp_in i n ∧ k r (h.set a (.inl (1, n, .inr (.inl (vp_updL g i.toNatClampNeg x))))) := by
  unfold p_last at H
  split at H
  · split at H
    · exact ⟨_, _, _, _, _, _, rfl, ‹_›, H.1, H.2⟩
    · exact H.elim
  · exact H.elim
theorem p_aald_i {h : PH} {st : List Value} {k : List Value → Prop} (H : p_aald h st k) : ∃ i a r t n g q, st = .int i :: .ref a :: r ∧ h[a]? = some (.inl (t, n, .inr (.inr (.inr (.inr g))))) ∧ (t = 2 ∨ t = 3) ∧ vp_in i n ∧ g i.toNatClampNeg = some q ∧ k (.ref q :: r) := by
  unfold p_aald at H
  split at H
  · split at H
    · obtain ⟨h1, h2, q, h3, h4⟩ := H
      exact ⟨_, _, _, _, _, _, q, rfl, ‹_›, h1, h2, h3, h4⟩
    · exact H.elim
  · exact H.elim
theorem p_aast_i {h : PH} {st : List Value} {k : List Value → PH → Prop} (H : p_aast h st k) : ∃ v i a r n g fs, st = .ref v :: .int i :: .ref a :: r ∧ h[a]? = some (.inl (2, n, .inr (.inr (.inr (.inr g))))) ∧ h[v]? = some (.inr (1, fs)) ∧ vp_in i n ∧ k r (h.set a (.inl (2, n, .inr (.inr (.inr (.inr (va_up g i.toNatClampNeg (some v)))))))) := by
  unfold p_aast at H
  split at H
  · split at H
    · exact ⟨_, _, _, _, _, _, _, rfl, ‹_›, ‹_›, H.1, H.2⟩
    · exact H.elim
  · exact H.elim
theorem p_alen_i {S : Nat × (Nat → Int32)} {h : PH} {st : List Value} {k : List Value → Prop} (H : p_alen S h st k) : (∃ a r t x, st = .ref a :: r ∧ h[a]? = some (.inl (t, x)) ∧ t < 4 ∧ k (.int (Int32.ofNat x.1) :: r)) ∨ (∃ a r, st = .retAddr a :: r ∧ k (.int (Int32.ofNat S.1) :: r)) := by
  unfold p_alen at H
  split at H
  · split at H
    · exact Or.inl ⟨_, _, _, _, rfl, ‹_›, H.1, H.2⟩
    · exact H.elim
  · exact Or.inr ⟨_, _, rfl, H⟩
  · exact H.elim
theorem p_get_i {h : PH} {ci f : Nat} {st : List Value} {k : List Value → Prop} (H : p_get h ci f st k) : ∃ a r fs v, st = .ref a :: r ∧ h[a]? = some (.inr (ci, fs)) ∧ f < fnum ci ∧ fs[f]? = some v ∧ k (v :: r) := by
  unfold p_get at H
  split at H
  · split at H
    · obtain ⟨rfl, h2, v, h3, h4⟩ := H
      exact ⟨_, _, _, v, rfl, ‹_›, h2, h3, h4⟩
    · exact H.elim
  · exact H.elim
theorem p_put_i {h : PH} {ci f : Nat} {st : List Value} {k : List Value → PH → Prop} (H : p_put h ci f st k) : ∃ v a r fs, st = v :: .ref a :: r ∧ h[a]? = some (.inr (ci, fs)) ∧ f < fnum ci ∧ f < fs.length ∧ narrow (ftyX ci f) v = v ∧ fits (ftyX ci f) v = true ∧ k r (h.set a (.inr (ci, fs.set f v))) := by
  unfold p_put at H
  split at H
  · split at H
    · obtain ⟨rfl, h2, h3, h4, h5, h6⟩ := H
      exact ⟨_, _, _, _, rfl, ‹_›, h2, h3, h4, h5, h6⟩
    · exact H.elim
  · exact H.elim
theorem p_copy_i {h : PH} {st : List Value} {k : List Value → PH → Prop} (H : p_copy h st k) : ∃ n dp a1 sp a0 r n0 f n1 g, st = .int n :: .int dp :: .ref a1 :: .int sp :: .ref a0 :: r ∧ h[a0]? = some (.inl (0, n0, .inl f)) ∧ h[a1]? = some (.inl (0, n1, .inl g)) ∧ ¬ sp < 0 ∧ ¬ dp < 0 ∧ ¬ n < 0 ∧ sp.toNatClampNeg + n.toNatClampNeg ≤ n0 ∧ dp.toNatClampNeg + n.toNatClampNeg ≤ n1 ∧ k r (h.set a1 (.inl (0, n1, .inl (va_cpy f g sp.toNatClampNeg dp.toNatClampNeg n.toNatClampNeg)))) := by
  unfold p_copy at H
  split at H
  · split at H
    · obtain ⟨h1, h2, h3, h4, h5, h6⟩ := H
      exact ⟨_, _, _, _, _, _, _, _, _, _, rfl, ‹_›, ‹_›, h1, h2, h3, h4, h5, h6⟩
    · exact H.elim
  · exact H.elim
theorem p_new2_i {h : PH} {st : List Value} {k : List Value → PH → Nat → Nat → Prop} (H : p_new2 h st k) : ∃ m n r, st = .int m :: .int n :: r ∧ ¬ n < 0 ∧ ¬ m < 0 ∧ n.toNatClampNeg ≤ 1000 ∧ m.toNatClampNeg ≤ 1000 ∧
      k (.ref h.length :: r) ((h ++ [.inl (3, n.toNatClampNeg, .inr (.inr (.inr (.inr (fun i => if i < n.toNatClampNeg then some (h.length + 1 + i) else none)))))]) ++ List.replicate n.toNatClampNeg (.inl (0, m.toNatClampNeg, .inl (fun _ => 0)))) (1 + n.toNatClampNeg) (n.toNatClampNeg + n.toNatClampNeg * m.toNatClampNeg) := by
  unfold p_new2 at H
  split at H
  · exact ⟨_, _, _, rfl, H⟩
  · exact H.elim
theorem p_call_i {C : Nat → List Value → PH → (Rs → PH → Prop) → Prop} {M : PM} {hd : List (Nat × Nat × Nat × Int)} {Q : Rs → PH → Prop} {K : Kt} {pc μ : Nat} {virt : Bool} {lv : LV} {st : List Value} {h : PH} {c s : Nat} (H : p_call C M hd Q K pc μ virt lv st h c s) : ∃ N, MT[μ]? = some N ∧ pN N ≤ st.length ∧ ((st.drop (pN N)).map Value.category).sum ≤ 8 ∧ c + pC N ≤ pC M ∧ s + pS N ≤ pS M ∧
      (virt = true → ∃ a fs, (st.take (pN N)).getLast? = some (.ref a) ∧ h[a]? = some (.inr (pO N, fs))) ∧
      C μ (st.take (pN N)).reverse h (p_back M hd Q K pc lv (st.drop (pN N)) (c + pC N) (s + pS N)) := by
  unfold p_call at H
  split at H
  · exact H.elim
  · exact ⟨_, ‹_›, H⟩
theorem nf_of {ρ : List Nat} {b : Option Nat} {v w : Value} {ty : FieldType} (h : rv ρ b v w) (h1 : narrow ty v = v) (h2 : fits ty v = true) : narrow ty w = w ∧ fits ty w = true := by
  cases v with
  | ref i =>
    obtain ⟨a, -, rfl⟩ := h
    cases ty <;> simp_all [fits, narrow]
  | retAddr i => cases ty <;> simp [fits] at h2
  | _ => rw [show w = _ from h]; exact ⟨h1, h2⟩
theorem rv_dflt {ρ : List Nat} {b : Option Nat} (ty : FieldType) : rv ρ b (defaultValue ty) (defaultValue ty) := by cases ty <;> rfl
theorem A2_refl {ρ : List Nat} {b : Option Nat} : ∀ {l : List Value}, (∀ v ∈ l, rv ρ b v v) → A2 (rv ρ b) l l
  | [], _ => rfl
  | a :: as, h => ⟨a, as, rfl, h a List.mem_cons_self, A2_refl (fun v hv => h v (List.mem_cons_of_mem _ hv))⟩
theorem dflt_rv {ρ : List Nat} {b : Option Nat} (ci : Nat) : A2 (rv ρ b) (dflt ci) (dflt ci) := A2_refl fun v hv => by
  obtain ⟨j, -, rfl⟩ := List.mem_map.mp hv
  exact rv_dflt _
theorem dflt_V (ci : Nat) {j : Nat} (hj : j < fnum ci) : defaultValue (ftyX ci j) = vp_V (dflt ci) j := by
  unfold vp_V dflt
  simp [List.getD, hj]
end
section
/-! one instruction -/
section STP
variable {p : Program} {l : Launch} {e : Env} {R : Room} {s : State} {m : MethodId} {args : Array Value} {below : List Frame} {meth : Method} {c : Code} {D : va_G} {cy : Nat → ClassId} {A : Nat → Prop} {b : Option Nat} {S : Nat × (Nat → Int32)} {M : PM} {ws0 : va_W} {Z : State → Prop} {n : Nat}
def retOK (i : Instr) (M : PM) (v : Option Value) : Prop := match i, v with
  | .ireturn, some (.int x) => ∃ t, pR M = some t ∧ narrow t (.int x) = .int x
  | .lreturn, some (.long _) => pR M = some .long
  | .areturn, some (.ref _) => ∃ t, pR M = some (.object t)
  | .return_, none => pR M = none
  | _, _ => False
def HRt (p : Program) (l : Launch) (e : Env) (R : Room) (s : State) (m : MethodId) (args : Array Value) (below : List Frame) (meth : Method) (c : Code) (D : va_G) (cy : Nat → ClassId) (A : Nat → Prop) (b : Option Nat) (M : PM) (ws0 : va_W) (Z : State → Prop) (Q : Rs → PH → Prop) : Prop :=
  ∀ (i : Instr) (pc : Nat) (ls : Array Slot) (v v' : Option Value) (h : PH) (ws : va_W) (H : Heap) (locs : List Loc) (cells slots : Nat), decode (pB M) pc = .ok (i, 1) → retOK i M v → Q (.inl v) h → rO (ws.map Prod.fst) b v v' → INV D cy A b s ws0 h ws H locs → cells ≤ pC M → slots ≤ pS M → W p l e R s m args below meth c H locs cells slots Z (F0 m pc ls v'.toList)
def HXt (p : Program) (l : Launch) (e : Env) (R : Room) (s : State) (m : MethodId) (args : Array Value) (below : List Frame) (meth : Method) (c : Code) (D : va_G) (cy : Nat → ClassId) (A : Nat → Prop) (b : Option Nat) (M : PM) (ws0 : va_W) (Z : State → Prop) (hd : List (Nat × Nat × Nat × Int)) (Q : Rs → PH → Prop) : Prop :=
  ∀ (E : String) (ce : Cell) (q9 : Addr) (x pc : Nat) (ls : Array Slot) (rest : List Value) (lv' : LV) (h : PH) (ws : va_W) (H : Heap) (locs : List Loc) (cells slots : Nat), xnm[x]? = some E → (∀ z, p_catch hd pc x = some z → Q (.inl (some (.int (Int32.ofInt z)))) h) → (p_catch hd pc x = none → Q (.inr x) h) → lv_has ls (pL M) lv' → INV D cy A b s ws0 h ws H locs → H[q9]? = some ce → ce.vm = .none → s.vm.findClass E = some ce.cls → cells ≤ pC M → slots ≤ pS M →
    vx_W p l e R s m args below meth c H locs cells slots Z (F0 m pc ls rest) q9
def HNt (p : Program) (l : Launch) (e : Env) (R : Room) (s : State) (m : MethodId) (args : Array Value) (below : List Frame) (meth : Method) (c : Code) (D : va_G) (cy : Nat → ClassId) (A : Nat → Prop) (b : Option Nat) (M : PM) (ws0 : va_W) (Z : State → Prop) (hd : List (Nat × Nat × Nat × Int)) (Q : Rs → PH → Prop) : Prop :=
  ∀ (i a pc : Nat) (x : Nat × Nat × Nat × Nat × Nat × Nat) (ls : Array Slot) (rest : List Value) (lv' : LV) (h : PH) (ws : va_W) (H : Heap) (locs : List Loc) (cells slots : Nat), decode (pB M) pc = .ok (.new i, 3) → xok (pO M) (pB M) pc i a = true → XLs[a]? = some x → hd = [] → Q (.inr x.2.2.1) h → (rest.map fun v => v.category).sum ≤ 8 → lv_has ls (pL M) lv' → INV D cy A b s ws0 h ws H locs → cells + 1 ≤ pC M → slots + 6 ≤ pS M → W p l e R s m args below meth c H locs cells slots Z (F0 m pc ls rest)
theorem jmp_i {pc : Nat} {off : Int} {f : Nat → Prop} (h : jmp pc off f) : ∃ t : Nat, (pc : Int) + off = (t : Int) ∧ f t := ⟨((pc : Int) + off).toNat, (Int.toNat_of_nonneg h.1).symm, h.2⟩
theorem call_i {C : Nat → List Value → PH → (Rs → PH → Prop) → Prop} {hd : List (Nat × Nat × Nat × Int)} {Q : Rs → PH → Prop} {K : Kt} (hc : CX p l R s m args meth c D cy A b S M n) (hC : ∀ (μ : Nat) (N : PM) (av : List Value) (h : PH) (Q' : Rs → PH → Prop), MT[μ]? = some N → ¬ pK N = 4 → C μ av h Q' → CT l D cy b S n μ N av h Q')
    (hX : HXt p l e R s m args below meth c D cy A b M ws0 Z hd Q) (ih : ∀ pc lv st h cl sl, K pc lv st h cl sl → GD p l e R s m args below meth c D cy A b M ws0 Z pc lv st h cl sl)
    {pc i μ kd : Nat} {virt : Bool} {ins : Instr} (hml : (pO M, i, μ, kd) ∈ MLs) (hkd : (ins = .invokevirtual i ∧ virt = true ∧ (kd = 0 ∨ kd = 1)) ∨ (ins = .invokestatic i ∧ virt = false ∧ (kd = 2 ∨ kd = 3 ∨ kd = 8)) ∨ (ins = .invokespecial i ∧ virt = true ∧ (kd = 4 ∨ kd = 5)))
    (hdg : decode (pB M) pc = .ok (ins, 3)) {lv : LV} {st : List Value} {h : PH} {cl sl : Nat} (H : p_call C M hd Q K pc μ virt lv st h cl sl) : GD p l e R s m args below meth c D cy A b M ws0 Z pc lv st h cl sl := by
  obtain ⟨N, hN, hlen, hcat, hcl2, hsl2, hvirt, hcall⟩ := p_call_i H
  obtain ⟨hx, hb, hmax, hown, hts, hXK, hA, hini, hRc, hRs, hRf, hRl, htr⟩ := id hc
  have hw := MT_w hN
  have hinfo := MT_info N (List.mem_of_getElem? hN)
  have hk := List.all_eq_true.mp MLk_ok _ hml
  have hMl := ML_ok _ hml
  intro ls lv' st' ws Hp locs hl hlv hst hI hcl hsl
  obtain ⟨hex, hrE, hP, hD, hS⟩ := id hI
  have hA1 : ∀ q, va_A ws Hp.size q → A q := fun q hq => by
    rcases hq with ⟨k, e', hk'⟩ | hq
    · exact hD.2 k _ hk'
    · exact hA q (Nat.le_trans hS.1 hq)
  have hk4 : ¬ pK N = 4 := by
    intro h4
    simp only [mkK] at hk
    rw [hN] at hk
    rcases hkd with ⟨-, -, rfl | rfl⟩ | ⟨-, -, rfl | rfl | rfl⟩ | ⟨-, -, rfl | rfl⟩ <;> simp [h4] at hk
  have hCT := hC μ N _ h _ hN hk4 hcall ((st'.take (pN N)).reverse) ws Hp.size (A2.rev (A2.take _ hst)) hrE
  have hPre : ∀ U : State, U.heap = Hp → s.WarmedH U.vm → va_Pc ((st'.take (pN N)).reverse) (PcP D cy b S ws Hp.size) ((st'.take (pN N)).reverse).toArray U := fun U hU hW =>
    ⟨rfl, by rw [hU], by rw [hU]; exact hP, hD.weaken (fun _ _ _ _ => trivial), by rw [hU]; exact hXK.go hW hS.1 hS.2.1 hA1⟩
  have hsum : 2 * (F0 m pc ls st').monitorRoom + ((st'.drop (pN N)).map fun v => v.category).sum ≤ 8 := by
    rw [A2.cats (A2.drop _ hst)]
    show 2 * 0 + _ ≤ 8
    omega
  have hfit : cl + pC N ≤ R.cells ∧ sl + pS N ≤ R.slots := ⟨Nat.le_trans hcl2 hRc, Nat.le_trans hsl2 hRs⟩
  have hgo : vx_Run p l e R s m args below meth c Hp locs cl sl (pC N) (pS N) (F0 m pc ls st') (st'.drop (pN N)) (QcP D cy b ws Hp.size (p_back M hd Q K pc lv (st.drop (pN N)) (cl + pC N) (sl + pS N)) ((st'.take (pN N)).reverse).toArray) (XcP D cy b ws Hp.size (p_back M hd Q K pc lv (st.drop (pN N)) (cl + pC N) (sl + pS N))) (va_A ws Hp.size) → W p l e R s m args below meth c Hp locs cl sl Z (F0 m pc ls st') := by
    intro hr
    refine px_run (A := A) hr hS hA1 ?_ ?_
    · intro E ce q9 x h' ws' H1 locs1 hxe hq hpo hS1 hce hcv hcf
      obtain ⟨g1, g2, g3, g4⟩ := hpo
      refine hX E ce q9 x pc ls _ lv' h' ws' H1 locs1 _ _ hxe (fun z hz => ?_) (fun hz => ?_) hl ⟨fun i a ha => g1 i a (hex i a ha), g2, g3, g4.weaken (fun _ _ _ hq => hA1 _ hq), hS1⟩ hce hcv hcf hcl2 hsl2
      · simpa [p_back, hz] using hq
      · simpa [p_back, hz] using hq
    · intro v v' h' ws' H1 locs1 hq hro hpo hS1
      obtain ⟨g1, g2, g3, g4⟩ := hpo
      have hq' : K (pc + 3) lv (v.toList ++ st.drop (pN N)) h' (cl + pC N) (sl + pS N) := hq
      exact ih _ _ _ _ _ _ hq' ls lv' _ ws' H1 locs1 hl (hlv.mono (fun q q' hqq => ⟨hqq.1, rv.mono g1 _ _ hqq.2⟩)) (A2.app (A2.mono (rv.mono g1) (A2.drop _ hst)) hro) ⟨fun i a ha => g1 i a (hex i a ha), g2, g3, g4.weaken (fun _ _ _ hq => hA1 _ hq), hS1⟩ hcl2 hsl2
  refine hgo ?_
  have hini2 : (Cond.initialized (pY N).cls).before args s = true := hts _ (TBL_of (IN_ok _ (List.mem_of_getElem? hw.1)))
  simp only [mInf, Bool.and_eq_true, decide_eq_true_eq] at hinfo
  obtain ⟨⟨⟨hdesc, hpl⟩, hL21⟩, hO15⟩ := hinfo
  have hroom : (rmN n N).frames + 1 ≤ R.frames ∧ 8 + (pL N + 11) + (rmN n N).locals ≤ R.locals := ⟨by show n + 8 + 1 ≤ _; omega, by show 8 + (pL N + 11) + (40 * n + 200) ≤ _; omega⟩
  have hne : (pY N).cls ≠ "java/lang/invoke/MethodHandle" ∧ (pY N).cls ≠ "java/lang/invoke/VarHandle" := by
    have h15 : ∀ C ∈ cnm, C ≠ "java/lang/invoke/MethodHandle" ∧ C ≠ "java/lang/invoke/VarHandle" := by decide +kernel
    exact h15 _ (List.mem_of_getElem? hw.1)
  have hlen' : (st'.take (pN N)).length = pN N := by rw [List.length_take, hst.len]; omega
  have hsplit : st' = st'.take (pN N) ++ st'.drop (pN N) := (List.take_append_drop _ _).symm
  have hgood : ∀ k, pK N = k → (k = 3 → False) → (codeOf N ∈ lw_tbl ∧ goodWord (codeOf N) = true) → GoodIn TBL (wsN μ N) ∧ wsN μ N = codeOf N :: TBL := by
    intro k hkk h3 hcw
    have hne3 : ¬ pK N = 3 := fun q => h3 (hkk ▸ q)
    have e : wsN μ N = codeOf N :: TBL := by unfold wsN; rw [if_neg hne3]
    refine ⟨?_, e⟩
    rw [e]
    intro w hw'
    rcases List.mem_cons.mp hw' with rfl | hw'
    · exact ⟨TBL_of hcw, good_of_word hcw.2⟩
    · exact ⟨hw', good_of_word (List.mem_filter.mp hw').2⟩
  have hpar : ∀ q : Nat, (if pK N = 0 ∨ pK N = 2 then 1 else 0) = q → (parseMethodDescriptor (pY N).desc).map (fun d => d.parameters.length) = some (pN N - q) := by
    intro q hq
    cases hpd : parseMethodDescriptor (pY N).desc with
    | none => rw [hpd] at hdesc; cases hdesc
    | some d =>
      rw [hpd] at hdesc
      have h9 := eq_of_beq hdesc
      rw [hq] at h9
      show some d.parameters.length = _
      rw [← h9, Nat.add_sub_cancel]
  obtain ⟨ar, hrev⟩ : ∃ ar, (st'.take (pN N)).reverse = ar := ⟨_, rfl⟩
  have htk : st'.take (pN N) = ar.reverse := by rw [← hrev, List.reverse_reverse]
  have hSfix : CallFix p m c (pB M) (pL M) s args TBL (cnm.getD (pO M) "") := ⟨hx, hb, hmax, hown, hts⟩
  rw [hrev] at hCT hPre ⊢
  have harl : ar.length = pN N := by rw [← hrev, List.length_reverse]; exact hlen'
  have hvrt : virt = true → ∃ (q0 : Nat) (fs' : List Value) (i0 a0 : Nat) (tl : List Value), ar = .ref a0 :: tl ∧ ws[i0]? = some (a0, .inr (pO N, fs')) := by
    intro hv
    obtain ⟨i0, fs, hla, hh⟩ := hvirt hv
    have hA2 := A2.rev (A2.take (pN N) hst)
    rw [hrev] at hA2
    have hhead : (st.take (pN N)).reverse = .ref i0 :: ((st.take (pN N)).reverse).tail := by
      have h1 : (st.take (pN N)).reverse.head? = some (.ref i0) := by rw [List.head?_reverse]; exact hla
      cases hz : (st.take (pN N)).reverse with
      | nil => rw [hz] at h1; cases h1
      | cons z zs => rw [hz] at h1; cases h1; rfl
    rw [hhead] at hA2
    obtain ⟨a0, tl, hρ, he, -⟩ := a_r hA2
    obtain ⟨y, hy, ⟨fs', rfl, -⟩⟩ := hI.at hρ hh
    exact ⟨0, fs', i0, a0, tl, he, hy⟩
  rcases hkd with ⟨rfl, rfl, hkd⟩ | ⟨rfl, rfl, hkd⟩ | ⟨rfl, rfl, hkd⟩
  · -- of an object
    obtain ⟨-, fs', i0, a0, tl, rfl, hwi⟩ := hvrt rfl
    have hK0 : pK N = 0 := by
      rcases hkd with rfl | rfl <;> (simp only [mkK] at hk; rw [hN] at hk; simpa using hk)
    obtain ⟨hwc, hw2⟩ := hw
    rw [hK0] at hw2
    obtain ⟨hcode, hinst, hsel⟩ := hw2
    obtain ⟨hG, heq⟩ := hgood 0 hK0 (by decide) hcode
    have hrecv : ∃ cellB : Cell, Hp[a0]? = some cellB ∧ cellB.vm.isStatics = false ∧ s.vm.findClass (pY N).cls = some cellB.cls := by
      obtain ⟨r, hr, h9⟩ := hP i0 _ hwi
      have hr' := owX_ok (ci := pO N) hr
      have hcc : r.1 = (pY N).cls := by
        rw [← hr'.1]
        have h8 := hwc
        simp only [List.getD, h8, Option.getD_some]
      have h7 := va_recv hXK.1 hP hr hwi
      rw [hcc] at h7
      exact h7
    have hnn : tl.length = pN N - 1 := by
      have := harl; simp at this; omega
    have hstk : st' = tl.reverse ++ .ref a0 :: st'.drop (pN N) := by
      conv => lhs; rw [hsplit, htk]
      simp
    rcases hkd with rfl | rfl
    · have hlink : (Cond.methodLink (cnm.getD (pO M) "") i (pY N)).before args s = true := by
        have e : mlW (pO M, i, μ, 0) = Cond.methodLink (cnm.getD (pO M) "") i (pY N) := by simp [mlW, yM, hN]
        rw [e] at hMl
        exact hts _ (TBL_of ⟨hMl.1, rfl⟩)
      refine vx_runV (C := (pY N).cls) (n := pN N - 1) (As := tl) (bytes := pB N) (maxL := pL N) (ret := pR N) hSfix hCT ⟨callB_of (pN N - 1) hts hG heq rfl rfl hini2 hlink ⟨hne.1, hne.2, hpar 1 (by simp [hK0])⟩ hroom, hts _ (TBL_of hinst), hts _ (TBL_of hsel)⟩ ⟨PcP.blind, hrecv, hPre⟩ rfl hnn hl.1 hstk hsum hdg hfit
    · have hlink : va_Nw (Cond.methodLinkNest (cnm.getD (pO M) "") i (pY N) "OverlapMill") s := by
        have e : mlW (pO M, i, μ, 1) = Cond.methodLinkNest (cnm.getD (pO M) "") i (pY N) "OverlapMill" := by simp [mlW, yM, hN]
        rw [e] at hMl
        exact hXK.2.1 _ hMl.1 rfl
      refine vx_runVN (C := (pY N).cls) (host := "OverlapMill") (n := pN N - 1) (As := tl) (bytes := pB N) (maxL := pL N) (ret := pR N) hSfix hCT ⟨va_cnB (pN N - 1) hts hG heq rfl rfl hlink hini2 ⟨hne.1, hne.2, hpar 1 (by simp [hK0])⟩ hroom, hts _ (TBL_of hinst), hts _ (TBL_of hsel)⟩ ⟨PcP.blind, hrecv, hPre⟩ rfl hnn hl.1 hstk hsum hdg hfit
  · -- static
    have hstk : st' = ar.reverse ++ st'.drop (pN N) := by
      conv => lhs; rw [hsplit, htk]
    rcases hkd with rfl | rfl | rfl
    · have hK0 : pK N = 1 := by simp only [mkK] at hk; rw [hN] at hk; simpa using hk
      obtain ⟨hwc, hw2⟩ := hw
      rw [hK0] at hw2
      obtain ⟨hcode, hstat⟩ := hw2
      obtain ⟨hG, heq⟩ := hgood 1 hK0 (by decide) hcode
      have hlink : (Cond.methodLink (cnm.getD (pO M) "") i (pY N)).before args s = true := by
        have e : mlW (pO M, i, μ, 2) = Cond.methodLink (cnm.getD (pO M) "") i (pY N) := by simp [mlW, yM, hN]
        rw [e] at hMl
        exact hts _ (TBL_of ⟨hMl.1, rfl⟩)
      exact vx_runS (n := pN N) (As := ar) (bytes := pB N) (maxL := pL N) (ret := pR N) hSfix hCT ⟨callB_of (pN N) hts hG heq rfl rfl hini2 hlink ⟨hne.1, hne.2, hpar 0 (by simp [hK0])⟩ hroom, hts _ (TBL_of hstat)⟩ ⟨PcP.blind, hPre⟩ rfl harl hl.1 hstk hsum hdg hfit
    · have hK0 : pK N = 1 := by simp only [mkK] at hk; rw [hN] at hk; simpa using hk
      obtain ⟨hwc, hw2⟩ := hw
      rw [hK0] at hw2
      obtain ⟨hcode, hstat⟩ := hw2
      obtain ⟨hG, heq⟩ := hgood 1 hK0 (by decide) hcode
      have hlink : va_Nw (Cond.methodLinkNest (cnm.getD (pO M) "") i (pY N) "OverlapMill") s := by
        have e : mlW (pO M, i, μ, 3) = Cond.methodLinkNest (cnm.getD (pO M) "") i (pY N) "OverlapMill" := by simp [mlW, yM, hN]
        rw [e] at hMl
        exact hXK.2.1 _ hMl.1 rfl
      exact vx_runSN (host := "OverlapMill") (n := pN N) (As := ar) (bytes := pB N) (maxL := pL N) (ret := pR N) hSfix hCT ⟨va_cnB (pN N) hts hG heq rfl rfl hlink hini2 ⟨hne.1, hne.2, hpar 0 (by simp [hK0])⟩ hroom, hts _ (TBL_of hstat), trivial⟩ ⟨PcP.blind, hPre⟩ rfl harl hl.1 hstk hsum hdg hfit
    · have hK0 : pK N = 3 := by simp only [mkK] at hk; rw [hN] at hk; simpa using hk
      obtain ⟨hwc, hw2⟩ := hw
      rw [hK0] at hw2
      obtain ⟨hcode, hstat⟩ := hw2
      have heq : wsN μ N = Cond.codeWith (pY N) (pB N) (pL N) (pR N) (hhOf μ) :: TBL := by unfold wsN; rw [if_pos hK0]
      have hlink : Cond.methodLink (cnm.getD (pO M) "") i (pY N) ∈ TBL := by
        have e : mlW (pO M, i, μ, 8) = Cond.methodLink (cnm.getD (pO M) "") i (pY N) := by simp [mlW, yM, hN]
        rw [e] at hMl
        exact TBL_of ⟨hMl.1, rfl⟩
      have hG : GoodIn TBL (va_wsS (cnm.getD (pO M) "") i (pY N) (wsN μ N)) := by
        intro w hw'
        have h8 : w ∈ TBL := by
          unfold va_wsS at hw'
          rw [heq] at hw'
          simp only [List.mem_append, List.mem_cons, List.not_mem_nil, or_false] at hw'
          rcases hw' with (rfl | rfl | rfl) | rfl | hw'
          · exact hlink
          · exact TBL_of hstat
          · exact TBL_of (IN_ok _ (List.mem_of_getElem? hwc))
          · exact TBL_of ⟨hcode, rfl⟩
          · exact hw'
        exact ⟨h8, good_of_word (List.mem_filter.mp h8).2⟩
      exact vx_runSX (hh := hhOf μ) (n := pN N) (As := ar) (bytes := pB N) (maxL := pL N) (ret := pR N) hSfix hCT (vx_cwSW (pN N) hts hG heq rfl rfl ⟨hne.1, hne.2, hpar 0 (by simp [hK0])⟩ hroom) ⟨PcP.blind, hPre⟩ rfl harl hl.1 hstk hsum hdg hfit
  · -- a constructor
    obtain ⟨-, fs', i0, a0, tl, rfl, hwi⟩ := hvrt rfl
    have hK0 : pK N = 2 := by
      rcases hkd with rfl | rfl <;> (simp only [mkK] at hk; rw [hN] at hk; simpa using hk)
    obtain ⟨hwc, hw2⟩ := hw
    rw [hK0] at hw2
    obtain ⟨hcode, hinst, hnm, hret⟩ := hw2
    obtain ⟨hG, heq⟩ := hgood 2 hK0 (by decide) hcode
    have hnn : tl.length = pN N - 1 := by
      have := harl; simp at this; omega
    have hstk : st' = tl.reverse ++ .ref a0 :: st'.drop (pN N) := by
      conv => lhs; rw [hsplit, htk]
      simp
    rcases hkd with rfl | rfl
    · have hlink : (Cond.methodLink (cnm.getD (pO M) "") i (pY N)).before args s = true := by
        have e : mlW (pO M, i, μ, 4) = Cond.methodLink (cnm.getD (pO M) "") i (pY N) := by simp [mlW, yM, hN]
        rw [e] at hMl
        exact hts _ (TBL_of ⟨hMl.1, rfl⟩)
      exact vx_runI (n := pN N - 1) (As := tl) (bytes := pB N) (maxL := pL N) hSfix hCT ⟨callB_of (pN N - 1) hts hG (by rw [heq, codeOf, hret]) rfl rfl hini2 hlink ⟨hne.1, hne.2, hpar 1 (by simp [hK0])⟩ hroom, hnm, hts _ (TBL_of hinst)⟩ ⟨PcP.blind, hPre⟩ rfl hnn hl.1 hstk hsum hdg hfit
    · have hlink : va_Nw (Cond.methodLinkNest (cnm.getD (pO M) "") i (pY N) "OverlapMill") s := by
        have e : mlW (pO M, i, μ, 5) = Cond.methodLinkNest (cnm.getD (pO M) "") i (pY N) "OverlapMill" := by simp [mlW, yM, hN]
        rw [e] at hMl
        exact hXK.2.1 _ hMl.1 rfl
      exact vx_runIN (host := "OverlapMill") (n := pN N - 1) (As := tl) (bytes := pB N) (maxL := pL N) hSfix hCT ⟨va_cnB (pN N - 1) hts hG (by rw [heq, codeOf, hret]) rfl rfl hlink hini2 ⟨hne.1, hne.2, hpar 1 (by simp [hK0])⟩ hroom, hnm, hts _ (TBL_of hinst)⟩ ⟨PcP.blind, hPre⟩ rfl hnn hl.1 hstk hsum hdg hfit
end STP
end
section
/-! every instruction -/
section INS
variable {p : Program} {l : Launch} {e : Env} {R : Room} {s : State} {m : MethodId} {args : Array Value} {below : List Frame} {meth : Method} {c : Code} {D : va_G} {cy : Nat → ClassId} {A : Nat → Prop} {b : Option Nat} {S : Nat × (Nat → Int32)} {M : PM} {ws0 : va_W} {Z : State → Prop} {n : Nat}
theorem teK_i {o : Nat} {cc : ByteArray} {ini : Bool} {te : TE} (h : teK o cc ini te = true) : decode cc te.1 = .ok (te.2.1, ilen te) ∧ lkOK o cc ini te = true := by
  simp only [teK, Bool.and_eq_true, dcd, decide_eq_true_eq] at h
  exact h
theorem arr_int {U : State} {cA : ClassId} (hK : va_K D vwCl (pTy cy ++ [(cA, .int)]) U) : cA = cy 0 := by
  have h1 : va_RA U cA .int := (hK.2 4 (cA, .int) rfl).2
  have h2 : va_RA U (cy 0) .int := (hK.2 0 (cy 0, .int) rfl).2
  exact Option.some.inj (Eq.trans (Eq.symm h1) h2)
theorem arr_long {U : State} {cA : ClassId} (hK : va_K D vwCl (pTy cy ++ [(cA, .long)]) U) : cA = cy 1 := by
  have h1 : va_RA U cA .long := (hK.2 4 (cA, .long) rfl).2
  have h2 : va_RA U (cy 1) .long := (hK.2 1 (cy 1, .long) rfl).2
  exact Option.some.inj (Eq.trans (Eq.symm h1) h2)
theorem arr_chart {U : State} {cA : ClassId} (hK : va_K D vwCl (pTy cy ++ [(cA, .object "OverlapMill$Chart")]) U) : cA = cy 2 := by
  obtain ⟨-, -, -, -, -, h1⟩ := (hK.2 4 (cA, .object "OverlapMill$Chart") rfl).2
  obtain ⟨-, -, -, -, -, h2⟩ := (hK.2 2 (cy 2, .object "OverlapMill$Chart") rfl).2
  exact Option.some.inj (Eq.trans (Eq.symm h1) h2)
theorem arr_rows {U : State} {cA : ClassId} (hK : va_K D vwCl (pTy cy ++ [(cA, .array .int)]) U) : cA = cy 3 := by
  have h1 : va_RA U cA (.array .int) := (hK.2 4 (cA, .array .int) rfl).2
  have h2 : va_RA U (cy 3) (.array .int) := (hK.2 3 (cy 3, .array .int) rfl).2
  exact Option.some.inj (Eq.trans (Eq.symm h1) h2)
abbrev w2 (ws : va_W) (cy : Nat → ClassId) (q N k : Nat) (r : Nat → Nat) (g : Nat → Int32) : va_W := (ws ++ [(q, .inl (cy 3, N, .inr (.inr (.inr (.inr (fun i => if i < N then some (r i) else none))))))]) ++ (List.range N).map (fun i => (r i, (.inl (cy 0, k, .inl g) : va_E)))
theorem INV.push2 {h : PH} {ws : va_W} {H H1 : Heap} {locs : List Loc} (hI : INV D cy A b s ws0 h ws H locs) {q N k : Nat} {r : Nat → Nat} {g : Nat → Int32}
    (h1 : va_P D vwCl (w2 ws cy q N k r g) H1) (h2 : va_D A (w2 ws cy q N k r g)) (h3 : va_S A s.heap H1 locs) :
    INV D cy A b s ws0 ((h ++ [.inl (3, N, .inr (.inr (.inr (.inr (fun i => if i < N then some (h.length + 1 + i) else none)))))]) ++ List.replicate N (.inl (0, k, .inl g))) (w2 ws cy q N k r g) H1 locs
    ∧ ext (ws.map Prod.fst) ((w2 ws cy q N k r g).map Prod.fst) ∧ ((w2 ws cy q N k r g).map Prod.fst)[h.length]? = some q := by
  have hl : ws.length = h.length := by have h9 := hI.2.1.len; rwa [List.length_map] at h9
  have hfst : (w2 ws cy q N k r g).map Prod.fst = ws.map Prod.fst ++ (q :: (List.range N).map r) := by
    rw [List.map_append, List.map_append, List.map_map, List.append_assoc]
    rfl
  have hx : ext (ws.map Prod.fst) (ws.map Prod.fst ++ (q :: (List.range N).map r)) := ext_app _ _
  rw [INV, hfst]
  refine ⟨⟨fun i a ha => hx i a (hI.1 i a ha), ?_, h1, h2, h3⟩, hx, ?_⟩
  · rw [List.map_append (f := Prod.snd), List.map_append (f := Prod.snd), List.map_map]
    refine A2.app ?_ (A2.app (A2.one ⟨_, rfl, fun j => ?_⟩) (hI.2.1.mono (rE.mono hx)))
    · have e : (List.range N).map (Prod.snd ∘ fun i => (r i, (.inl (cy 0, k, .inl g) : va_E))) = List.replicate N (.inl (cy 0, k, .inl g) : va_E) := by
        apply List.ext_getElem?
        intro i
        by_cases hi : i < N <;> simp [hi]
      rw [e]
      exact A2.rep (show rE cy _ b (.inl (0, k, .inl g)) (.inl (cy 0, k, .inl g)) from rfl) N
    · by_cases hj : j < N
      · simp only [if_pos hj]
        refine ⟨r j, ?_, rfl⟩
        rw [List.getElem?_append_right (by simp; omega)]
        simp only [List.length_map, hl]
        rw [show h.length + 1 + j - h.length = j + 1 by omega]
        simp [hj]
      · simp only [if_neg hj]
  · rw [List.getElem?_append_right (by simp [hl])]
    simp [hl]
set_option maxHeartbeats 4000000 in
set_option maxRecDepth 10000 in
theorem stepI {C : Nat → List Value → PH → (Rs → PH → Prop) → Prop} {hd : List (Nat × Nat × Nat × Int)} {Q : Rs → PH → Prop} {K : Kt} (hc : CX p l R s m args meth c D cy A b S M n) (hC : ∀ (μ : Nat) (N : PM) (av : List Value) (h : PH) (Q' : Rs → PH → Prop), MT[μ]? = some N → ¬ pK N = 4 → C μ av h Q' → CT l D cy b S n μ N av h Q')
    (hR : HRt p l e R s m args below meth c D cy A b M ws0 Z Q) (hX : HXt p l e R s m args below meth c D cy A b M ws0 Z hd Q) (hNw : HNt p l e R s m args below meth c D cy A b M ws0 Z hd Q) (ih : ∀ pc lv st h cl sl, K pc lv st h cl sl → GD p l e R s m args below meth c D cy A b M ws0 Z pc lv st h cl sl)
    {te : TE} (hte : teK (pO M) (pB M) (pK M == 2) te = true) {lv : LV} {st : List Value} {h : PH} {cl sl : Nat} (H : pmI C S M hd Q K te lv st h cl sl) : GD p l e R s m args below meth c D cy A b M ws0 Z te.1 lv st h cl sl := by
  obtain ⟨hdg, hlk⟩ := teK_i hte
  obtain ⟨hx, hb, hmax, hown, hts, hXK, hA, hini, hRc, hRs, hRf, hRl, htr⟩ := id hc
  obtain ⟨pc, ins, ta, tb⟩ := te
  have hcall : ∀ {i μ kd : Nat} {virt : Bool} {ins : Instr}, (pO M, i, μ, kd) ∈ MLs → ((ins = .invokevirtual i ∧ virt = true ∧ (kd = 0 ∨ kd = 1)) ∨ (ins = .invokestatic i ∧ virt = false ∧ (kd = 2 ∨ kd = 3 ∨ kd = 8)) ∨ (ins = .invokespecial i ∧ virt = true ∧ (kd = 4 ∨ kd = 5))) → decode (pB M) pc = .ok (ins, 3) → p_call C M hd Q K pc μ virt lv st h cl sl → GD p l e R s m args below meth c D cy A b M ws0 Z pc lv st h cl sl := fun h1 h2 h3 h4 => call_i hc hC hX ih h1 h2 h3 h4
  intro ls lv' st' ws Hp locs hl hlv hst hI hcl hsl
  obtain ⟨hex, hrE, hP, hD, hS⟩ := id hI
  have go : ∀ {pc2 : Nat} {lv2 : LV} {st2 : List Value} {lv2' : LV} {ls2 : Array Slot} {st2' : List Value}, K pc2 lv2 st2 h cl sl → lv_has ls2 (pL M) lv2' → A2 (rL (ws.map Prod.fst) b) lv2 lv2' → A2 (rv (ws.map Prod.fst) b) st2 st2' → W p l e R s m args below meth c Hp locs cl sl Z (F0 m pc2 ls2 st2') := fun h1 h2 h3 h4 => ih _ _ _ _ _ _ h1 _ _ _ ws Hp locs h2 h3 h4 hI hcl hsl
  cases ins
  case iconst z =>
    have H : K (pc + 1) lv (.int (Int32.ofInt z) :: st) h cl sl := H
    exact lv_iconst hx hb hdg rfl (go H hl hlv (a_i _ hst))
  case bipush z =>
    have H : K (pc + 2) lv (.int (Int8.ofInt z).toInt32 :: st) h cl sl := H
    exact lv_bipush hx hb hdg rfl (go H hl hlv (a_i _ hst))
  case sipush z =>
    have H : K (pc + 3) lv (.int (Int16.ofInt z).toInt32 :: st) h cl sl := H
    exact lv_sipush hx hb hdg rfl (go H hl hlv (a_i _ hst))
  case lconst z =>
    have H : K (pc + 1) lv (.long (Int64.ofNat z) :: st) h cl sl := H
    exact lv_lconst hx hb hdg rfl (go H hl hlv (a_L _ hst))
  case ldc i =>
    obtain ⟨q, hq, h0, H⟩ : ∃ q, KLs[ta]? = some q ∧ tb = 0 ∧ K (pc + 2) lv (.int q.2.2 :: st) h cl sl := H
    subst h0
    simp only [lkOK, hq] at hlk
    have hlk2 : q.1 = pO M ∧ q.2.1 = i := by simpa using hlk
    have hw := kl_in hq
    rw [hlk2.1, hlk2.2] at hw
    exact lv_ldc hx hb hown (hts _ hw) hdg (go H hl hlv (a_i _ hst))
  case ldc_w i =>
    obtain ⟨q, hq, h0, H⟩ : ∃ q, KLs[ta]? = some q ∧ tb = 0 ∧ K (pc + 3) lv (.int q.2.2 :: st) h cl sl := H
    subst h0
    simp only [lkOK, hq] at hlk
    have hlk2 : q.1 = pO M ∧ q.2.1 = i := by simpa using hlk
    have hw := kl_in hq
    rw [hlk2.1, hlk2.2] at hw
    exact lv_ldcw hx hb hown (hts _ hw) hdg (go H hl hlv (a_i _ hst))
  case iload i =>
    obtain ⟨x, h1, H⟩ : ∃ x, px_g lv i = some (.int x) ∧ K (pc + 2) lv (.int x :: st) h cl sl := H
    obtain ⟨k, w, h2, h3⟩ := rl_g hlv h1
    cases (show w = .int x from h3)
    exact lv_iload hx hb hdg (lv_at hl k h2) (go H hl hlv (a_i _ hst))
  case iload_n i =>
    obtain ⟨x, h1, H⟩ : ∃ x, px_g lv i = some (.int x) ∧ K (pc + 1) lv (.int x :: st) h cl sl := H
    obtain ⟨k, w, h2, h3⟩ := rl_g hlv h1
    cases (show w = .int x from h3)
    exact lv_iload_n hx hb hdg rfl (lv_at hl k h2) (go H hl hlv (a_i _ hst))
  case lload i =>
    obtain ⟨x, h1, H⟩ : ∃ x, px_g lv i = some (.long x) ∧ K (pc + 2) lv (.long x :: st) h cl sl := H
    obtain ⟨k, w, h2, h3⟩ := rl_g hlv h1
    cases (show w = .long x from h3)
    exact lv_lload hx hb hdg (lv_at hl k h2) (go H hl hlv (a_L _ hst))
  case aload i =>
    obtain ⟨v, h1, hv, H⟩ : ∃ v, px_g lv i = some v ∧ (∃ a, v = .ref a ∨ v = .retAddr a) ∧ K (pc + 2) lv (v :: st) h cl sl := H
    obtain ⟨k, w, h2, h3⟩ := rl_g hlv h1
    obtain ⟨a, rfl⟩ : ∃ a, w = .ref a := by
      obtain ⟨a0, rfl | rfl⟩ := hv
      · obtain ⟨a, -, e⟩ := h3; exact ⟨a, e⟩
      · obtain ⟨a, -, e⟩ := h3; exact ⟨a, e⟩
    exact lv_aload hx hb hdg (lv_at hl k h2) (go H hl hlv ⟨_, _, rfl, h3, hst⟩)
  case aload_n i =>
    obtain ⟨v, h1, hv, H⟩ : ∃ v, px_g lv i = some v ∧ (∃ a, v = .ref a ∨ v = .retAddr a) ∧ K (pc + 1) lv (v :: st) h cl sl := H
    obtain ⟨k, w, h2, h3⟩ := rl_g hlv h1
    obtain ⟨a, rfl⟩ : ∃ a, w = .ref a := by
      obtain ⟨a0, rfl | rfl⟩ := hv
      · obtain ⟨a, -, e⟩ := h3; exact ⟨a, e⟩
      · obtain ⟨a, -, e⟩ := h3; exact ⟨a, e⟩
    exact lv_aload_n hx hb hdg rfl (lv_at hl k h2) (go H hl hlv ⟨_, _, rfl, h3, hst⟩)
  case istore i =>
    obtain ⟨hi, H⟩ : i < pL M ∧ on1 st fun x r => K (pc + 2) (px_s1 lv i (.int x)) r h cl sl := H
    obtain ⟨x, r, rfl, H⟩ := on1_i H
    obtain ⟨r', rfl, hr⟩ := a_1 hst
    exact lv_istore hx hb hdg hl hi rfl (fun ls2 hl2 => go H hl2 (rl_s1 hlv i rfl) hr)
  case istore_n i =>
    obtain ⟨hi, H⟩ : (i : Nat) < pL M ∧ on1 st fun x r => K (pc + 1) (px_s1 lv i (.int x)) r h cl sl := H
    obtain ⟨x, r, rfl, H⟩ := on1_i H
    obtain ⟨r', rfl, hr⟩ := a_1 hst
    exact lv_istore_n hx hb hdg rfl hl hi rfl (fun ls2 hl2 => go H hl2 (rl_s1 hlv i rfl) hr)
  case lstore i =>
    obtain ⟨hi, x, r, rfl, H⟩ : i + 1 < pL M ∧ ∃ x r, st = .long x :: r ∧ K (pc + 2) (px_s2 lv i (.long x)) r h cl sl := H
    obtain ⟨r', rfl, hr⟩ := a_l hst
    exact lv_lstore hx hb hdg hl hi rfl (fun ls2 hl2 => go H hl2 (rl_s2 hlv i rfl) hr)
  case astore i =>
    obtain ⟨hi, H⟩ : i < pL M ∧ onR st fun x r => K (pc + 2) (px_s1 lv i (.ref x)) r h cl sl := H
    obtain ⟨x, r, rfl, H⟩ := onR_i H
    obtain ⟨a, r', hρ, rfl, hr⟩ := a_r hst
    exact lv_astore hx hb hdg hl hi rfl (fun ls2 hl2 => go H hl2 (rl_s1 hlv i ⟨a, hρ, rfl⟩) hr)
  case astore_n i =>
    obtain ⟨hi, H⟩ : (i : Nat) < pL M ∧ onR st fun x r => K (pc + 1) (px_s1 lv i (.ref x)) r h cl sl := H
    obtain ⟨x, r, rfl, H⟩ := onR_i H
    obtain ⟨a, r', hρ, rfl, hr⟩ := a_r hst
    exact lv_astore_n hx hb hdg rfl hl hi rfl (fun ls2 hl2 => go H hl2 (rl_s1 hlv i ⟨a, hρ, rfl⟩) hr)
  case iinc i z =>
    obtain ⟨hi, x, h1, H⟩ : i < pL M ∧ ∃ x, px_g lv i = some (.int x) ∧ K (pc + 3) (px_s1 lv i (.int (x + Int32.ofInt z))) st h cl sl := H
    obtain ⟨k, w, h2, h3⟩ := rl_g hlv h1
    cases (show w = .int x from h3)
    exact lv_iinc hx hb hdg hl h2 rfl hi rfl (fun ls2 hl2 => go H hl2 (rl_s1 hlv i rfl) hst)
  case iadd =>
    obtain ⟨x, y, r, rfl, H⟩ := on2_i (show on2 st fun x y r => K (pc + 1) lv (.int (x + y) :: r) h cl sl from H)
    obtain ⟨r', rfl, hr⟩ := a_2 hst
    exact lv_iadd hx hb hdg (go H hl hlv (a_i _ hr))
  case isub =>
    obtain ⟨x, y, r, rfl, H⟩ := on2_i (show on2 st fun x y r => K (pc + 1) lv (.int (x - y) :: r) h cl sl from H)
    obtain ⟨r', rfl, hr⟩ := a_2 hst
    exact lv_isub hx hb hdg (go H hl hlv (a_i _ hr))
  case imul =>
    obtain ⟨x, y, r, rfl, H⟩ := on2_i (show on2 st fun x y r => K (pc + 1) lv (.int (x * y) :: r) h cl sl from H)
    obtain ⟨r', rfl, hr⟩ := a_2 hst
    exact lv_imul hx hb hdg (go H hl hlv (a_i _ hr))
  case idiv =>
    obtain ⟨x, y, r, rfl, hne, H⟩ := on2_i (show on2 st fun x y r => ¬ y = 0 ∧ K (pc + 1) lv (.int (x / y) :: r) h cl sl from H)
    obtain ⟨r', rfl, hr⟩ := a_2 hst
    exact lv_idiv hx hb hdg hne (go H hl hlv (a_i _ hr))
  case irem =>
    obtain ⟨x, y, r, rfl, hne, H⟩ := on2_i (show on2 st fun x y r => ¬ y = 0 ∧ K (pc + 1) lv (.int (x - x / y * y) :: r) h cl sl from H)
    obtain ⟨r', rfl, hr⟩ := a_2 hst
    exact lv_irem hx hb hdg hne (go H hl hlv (a_i _ hr))
  case ineg =>
    obtain ⟨x, r, rfl, H⟩ := on1_i (show on1 st fun x r => K (pc + 1) lv (.int (-x) :: r) h cl sl from H)
    obtain ⟨r', rfl, hr⟩ := a_1 hst
    exact lv_ineg hx hb hdg (go H hl hlv (a_i _ hr))
  case ishl =>
    obtain ⟨x, y, r, rfl, H⟩ := on2_i (show on2 st fun x y r => K (pc + 1) lv (.int (x <<< (y &&& 31)) :: r) h cl sl from H)
    obtain ⟨r', rfl, hr⟩ := a_2 hst
    exact lv_ishl hx hb hdg (go H hl hlv (a_i _ hr))
  case ishr =>
    obtain ⟨x, y, r, rfl, H⟩ := on2_i (show on2 st fun x y r => K (pc + 1) lv (.int (x >>> (y &&& 31)) :: r) h cl sl from H)
    obtain ⟨r', rfl, hr⟩ := a_2 hst
    exact lv_ishr hx hb hdg (go H hl hlv (a_i _ hr))
  case iushr =>
    obtain ⟨x, y, r, rfl, H⟩ := on2_i (show on2 st fun x y r => K (pc + 1) lv (.int (x.toUInt32 >>> (y.toUInt32 &&& Int32.toUInt32 31)).toInt32 :: r) h cl sl from H)
    obtain ⟨r', rfl, hr⟩ := a_2 hst
    exact lv_iushr hx hb hdg rfl (go H hl hlv (a_i _ hr))
  case iand =>
    obtain ⟨x, y, r, rfl, H⟩ := on2_i (show on2 st fun x y r => K (pc + 1) lv (.int (x &&& y) :: r) h cl sl from H)
    obtain ⟨r', rfl, hr⟩ := a_2 hst
    exact lv_iand hx hb hdg (go H hl hlv (a_i _ hr))
  case ior =>
    obtain ⟨x, y, r, rfl, H⟩ := on2_i (show on2 st fun x y r => K (pc + 1) lv (.int (x ||| y) :: r) h cl sl from H)
    obtain ⟨r', rfl, hr⟩ := a_2 hst
    exact lv_ior hx hb hdg (go H hl hlv (a_i _ hr))
  case ixor =>
    obtain ⟨x, y, r, rfl, H⟩ := on2_i (show on2 st fun x y r => K (pc + 1) lv (.int (x ^^^ y) :: r) h cl sl from H)
    obtain ⟨r', rfl, hr⟩ := a_2 hst
    exact lv_ixor hx hb hdg (go H hl hlv (a_i _ hr))
  case i2l =>
    obtain ⟨x, r, rfl, H⟩ := on1_i (show on1 st fun x r => K (pc + 1) lv (.long x.toInt64 :: r) h cl sl from H)
    obtain ⟨r', rfl, hr⟩ := a_1 hst
    exact lv_i2l hx hb hdg rfl (go H hl hlv (a_L _ hr))
  case lcmp =>
    obtain ⟨x, y, r, rfl, H⟩ := onL2_i (show onL2 st fun x y r => K (pc + 1) lv (.int (lg_cmp x y) :: r) h cl sl from H)
    obtain ⟨r1, rfl, h1⟩ := a_l hst
    obtain ⟨r', rfl, hr⟩ := a_l h1
    exact W.lcmp hx hb hdg (go H hl hlv (a_i _ hr))
  case lshl =>
    obtain ⟨x, y, r, rfl, H⟩ := onLI_i (show onLI st fun x y r => K (pc + 1) lv (.long (x <<< (y.toInt64 &&& 63)) :: r) h cl sl from H)
    obtain ⟨r1, rfl, h1⟩ := a_1 hst
    obtain ⟨r', rfl, hr⟩ := a_l h1
    exact lv_lshl hx hb hdg rfl (go H hl hlv (a_L _ hr))
  case lor =>
    obtain ⟨x, y, r, rfl, H⟩ := onL2_i (show onL2 st fun x y r => K (pc + 1) lv (.long (x ||| y) :: r) h cl sl from H)
    obtain ⟨r1, rfl, h1⟩ := a_l hst
    obtain ⟨r', rfl, hr⟩ := a_l h1
    exact lv_lor hx hb hdg (go H hl hlv (a_L _ hr))
  case land =>
    obtain ⟨x, y, r, rfl, H⟩ := onL2_i (show onL2 st fun x y r => K (pc + 1) lv (.long (x &&& y) :: r) h cl sl from H)
    obtain ⟨r1, rfl, h1⟩ := a_l hst
    obtain ⟨r', rfl, hr⟩ := a_l h1
    exact lv_land hx hb hdg (go H hl hlv (a_L _ hr))
  case dup =>
    obtain ⟨v, r, rfl, hv, H⟩ : ∃ v r, st = v :: r ∧ v.category = 1 ∧ K (pc + 1) lv (v :: v :: r) h cl sl := H
    obtain ⟨w, r', rfl, hw, hr⟩ := a_c hst
    exact lv_dup hx hb hdg (hw.cat.trans hv) (go H hl hlv ⟨_, _, rfl, hw, _, _, rfl, hw, hr⟩)
  case dup2 =>
    obtain ⟨v, v2, r, rfl, hv, hv2, H⟩ : ∃ v w r, st = v :: w :: r ∧ v.category = 1 ∧ w.category = 1 ∧ K (pc + 1) lv (v :: w :: v :: w :: r) h cl sl := H
    obtain ⟨w, r1, rfl, hw, hr1⟩ := a_c hst
    obtain ⟨w2, r', rfl, hw2, hr⟩ := a_c hr1
    exact lv_dup2_11 hx hb hdg (hw.cat.trans hv) (hw2.cat.trans hv2) (go H hl hlv ⟨_, _, rfl, hw, _, _, rfl, hw2, _, _, rfl, hw, _, _, rfl, hw2, hr⟩)
  case pop =>
    obtain ⟨v, r, rfl, hv, H⟩ : ∃ v r, st = v :: r ∧ v.category = 1 ∧ K (pc + 1) lv r h cl sl := H
    obtain ⟨w, r', rfl, hw, hr⟩ := a_c hst
    exact lv_pop hx hb hdg (hw.cat.trans hv) (go H hl hlv hr)
  case goto z =>
    obtain ⟨t, ht, H⟩ := jmp_i (show jmp pc z fun t => K t lv st h cl sl from H)
    exact lv_goto hx hb hdg ht (go H hl hlv hst)
  case ifCond cc z =>
    obtain ⟨x, r, rfl, HH⟩ := on1_i (show on1 st fun x r => jmp pc z fun t => brn (ccI cc x 0) (K t lv r h cl sl) (K (pc + 3) lv r h cl sl) from H)
    obtain ⟨r', rfl, hr⟩ := a_1 hst
    obtain ⟨t, ht, H1, H2⟩ := jmp_i HH
    cases cc
    · exact lv_if_eq hx hb hdg ht (fun q => go (H1 q) hl hlv hr) (fun q => go (H2 q) hl hlv hr)
    · exact lv_if_ne hx hb hdg ht (fun q => go (H1 q) hl hlv hr) (fun q => go (H2 (fun q2 => q2 q)) hl hlv hr)
    · exact lv_if_lt hx hb hdg ht (fun q => go (H1 q) hl hlv hr) (fun q => go (H2 q) hl hlv hr)
    · exact lv_if_ge hx hb hdg ht (fun q => go (H1 q) hl hlv hr) (fun q => go (H2 q) hl hlv hr)
    · exact lv_if_gt hx hb hdg ht (fun q => go (H1 q) hl hlv hr) (fun q => go (H2 q) hl hlv hr)
    · exact lv_if_le hx hb hdg ht (fun q => go (H1 q) hl hlv hr) (fun q => go (H2 q) hl hlv hr)
  case if_icmp cc z =>
    obtain ⟨x, y, r, rfl, HH⟩ := on2_i (show on2 st fun x y r => jmp pc z fun t => brn (ccI cc x y) (K t lv r h cl sl) (K (pc + 3) lv r h cl sl) from H)
    obtain ⟨r', rfl, hr⟩ := a_2 hst
    obtain ⟨t, ht, H1, H2⟩ := jmp_i HH
    cases cc
    · exact lv_icmp_eq hx hb hdg ht (fun q => go (H1 q) hl hlv hr) (fun q => go (H2 q) hl hlv hr)
    · exact lv_icmp_ne hx hb hdg ht (fun q => go (H1 q) hl hlv hr) (fun q => go (H2 (fun q2 => q2 q)) hl hlv hr)
    · exact lv_icmp_lt hx hb hdg ht (fun q => go (H1 q) hl hlv hr) (fun q => go (H2 q) hl hlv hr)
    · exact lv_icmp_ge hx hb hdg ht (fun q => go (H1 q) hl hlv hr) (fun q => go (H2 q) hl hlv hr)
    · exact lv_icmp_gt hx hb hdg ht (fun q => go (H1 q) hl hlv hr) (fun q => go (H2 q) hl hlv hr)
    · exact lv_icmp_le hx hb hdg ht (fun q => go (H1 q) hl hlv hr) (fun q => go (H2 q) hl hlv hr)
  case tableswitch d lo hi offs =>
    obtain ⟨x, r, rfl, H1, H2⟩ := on1_i (show on1 st fun x r => (x.toInt < lo ∨ hi < x.toInt → jmp pc d fun t => K t lv r h cl sl) ∧ (¬ x.toInt < lo → ¬ hi < x.toInt → ∃ off, offs[(x.toInt - lo).toNat]? = some off ∧ jmp pc off fun t => K t lv r h cl sl) from H)
    obtain ⟨r', rfl, hr⟩ := a_1 hst
    by_cases q1 : x.toInt < lo
    · obtain ⟨t, ht, H⟩ := jmp_i (H1 (Or.inl q1))
      exact lv_tableOut hx hb hdg (Or.inl q1) ht (go H hl hlv hr)
    · by_cases q2 : hi < x.toInt
      · obtain ⟨t, ht, H⟩ := jmp_i (H1 (Or.inr q2))
        exact lv_tableOut hx hb hdg (Or.inr q2) ht (go H hl hlv hr)
      · obtain ⟨off, ho, H⟩ := H2 q1 q2
        obtain ⟨t, ht, H⟩ := jmp_i H
        exact lv_tableIn hx hb hdg q1 q2 ho ht (go H hl hlv hr)
  case iaload =>
    rcases p_iald_i (show p_iald S h st fun st => K (pc + 1) lv st h cl sl from H) with ⟨i, q, r, n0, g, rfl, hq, hin, H⟩ | ⟨i, q, r, rfl, hin, H⟩
    · obtain ⟨r1, rfl, h1⟩ := a_1 hst
      obtain ⟨a, r', hρ, rfl, hr⟩ := a_r h1
      obtain ⟨y, hy, hye⟩ := hI.at hρ hq
      rw [show y = .inl (cy 0, n0, .inl g) from hye] at hy
      exact va_iald hx hb hXK.1 hP q 0 hy rfl hin hdg (go H hl hlv (a_i _ hr))
    · obtain ⟨r1, rfl, h1⟩ := a_1 hst
      obtain ⟨w, r', rfl, ⟨a, ha, rfl⟩, hr⟩ := a_c h1
      obtain ⟨g1, g2, g3⟩ := hXK.2.2.2.2.2.2.1 a ha
      exact va_sld hx hb g1 g2 g3 hS hin hdg (go H hl hlv (a_i _ hr))
  case iastore =>
    obtain ⟨x, i, q, r, n0, g, rfl, hq, hin, H⟩ := p_iast_i (show p_iast h st fun st h => K (pc + 1) lv st h cl sl from H)
    obtain ⟨r1, rfl, h1⟩ := a_2 hst
    obtain ⟨a, r', hρ, rfl, hr⟩ := a_r h1
    obtain ⟨y, hy, hye⟩ := hI.at hρ hq
    rw [show y = .inl (cy 0, n0, .inl g) from hye] at hy
    refine va_iast hx hb hXK.1 hP hD hS q 0 hy rfl hin hdg (fun H1 locs1 g1 g2 g3 => ?_)
    have hI2 := hI.set hy (x' := .inl (0, n0, .inl (upd g i.toNatClampNeg x))) (show rE cy _ b (.inl (0, n0, .inl (upd g i.toNatClampNeg x))) _ from rfl) g1 g2 g3
    have hf := fst_set (y' := .inl (cy 0, n0, .inl (upd g i.toNatClampNeg x))) hy
    exact ih _ _ _ _ _ _ H ls lv' r' _ H1 locs1 hl (by rw [hf]; exact hlv) (by rw [hf]; exact hr) hI2 hcl hsl
  case laload =>
    obtain ⟨i, q, r, n0, g, rfl, hq, hin, H⟩ := p_lald_i (show p_lald h st fun st => K (pc + 1) lv st h cl sl from H)
    obtain ⟨r1, rfl, h1⟩ := a_1 hst
    obtain ⟨a, r', hρ, rfl, hr⟩ := a_r h1
    obtain ⟨y, hy, hye⟩ := hI.at hρ hq
    rw [show y = .inl (cy 1, n0, .inr (.inl g)) from hye] at hy
    exact va_lald hx hb hXK.1 hP q 1 hy rfl hin hdg (go H hl hlv (a_L _ hr))
  case lastore =>
    obtain ⟨x, i, q, r, n0, g, rfl, hq, hin, H⟩ := p_last_i (show p_last h st fun st h => K (pc + 1) lv st h cl sl from H)
    obtain ⟨r0, rfl, h0⟩ := a_l hst
    obtain ⟨r1, rfl, h1⟩ := a_1 h0
    obtain ⟨a, r', hρ, rfl, hr⟩ := a_r h1
    obtain ⟨y, hy, hye⟩ := hI.at hρ hq
    rw [show y = .inl (cy 1, n0, .inr (.inl g)) from hye] at hy
    refine va_last hx hb hXK.1 hP hD hS q 1 hy rfl hin hdg (fun H1 locs1 g1 g2 g3 => ?_)
    have hI2 := hI.set hy (x' := .inl (1, n0, .inr (.inl (vp_updL g i.toNatClampNeg x)))) (show rE cy _ b (.inl (1, n0, .inr (.inl (vp_updL g i.toNatClampNeg x)))) _ from rfl) g1 g2 g3
    have hf := fst_set (y' := .inl (cy 1, n0, .inr (.inl (vp_updL g i.toNatClampNeg x)))) hy
    exact ih _ _ _ _ _ _ H ls lv' r' _ H1 locs1 hl (by rw [hf]; exact hlv) (by rw [hf]; exact hr) hI2 hcl hsl
  case aaload =>
    obtain ⟨i, q, r, t, n0, g, q2, rfl, hq, ht, hin, hg, H⟩ := p_aald_i (show p_aald h st fun st => K (pc + 1) lv st h cl sl from H)
    obtain ⟨r1, rfl, h1⟩ := a_1 hst
    obtain ⟨a, r', hρ, rfl, hr⟩ := a_r h1
    obtain ⟨y, hy, f', rfl, hf'⟩ := hI.at hρ hq
    have hj := hf' i.toNatClampNeg
    rw [hg] at hj
    obtain ⟨a2, h2, h3⟩ := hj
    have hk : W p l e R s m args below meth c Hp locs cl sl Z (F0 m (pc + 1) ls (va_rf (f' i.toNatClampNeg) :: r')) := by
      rw [h3]
      exact go H hl hlv ⟨_, _, rfl, ⟨a2, h2, rfl⟩, hr⟩
    rcases ht with rfl | rfl
    · exact va_aldq (C := "OverlapMill$Chart") hx hb hXK.1 hP q 2 hy rfl hin hdg hk
    · have hlt : i.toNatClampNeg < n0 := Nat.not_le.mp fun q => hin (Or.inr q)
      exact W.aald (v := va_rf (f' i.toNatClampNeg)) (ty := .array .int) hx hb (hP q _ hy) ((hXK.1.2 3 _ rfl).1 n0 (fun j => va_rf (f' j))) rfl (fun q => by cases q) (by show ¬ (i < 0 ∨ (arrV _ _ _).slots.size ≤ _); rw [arrV_size]; exact hin) (by show (arrV _ _ _).slots[_]? = _; rw [arrV_read _ _ hlt]) rfl rfl hdg hk
  case aastore =>
    obtain ⟨v, i, q, r, n0, g, fs, rfl, hq, hv, hin, H⟩ := p_aast_i (show p_aast h st fun st h => K (pc + 1) lv st h cl sl from H)
    obtain ⟨av, r0, hρv, rfl, h0⟩ := a_r hst
    obtain ⟨r1, rfl, h1⟩ := a_1 h0
    obtain ⟨a, r', hρ, rfl, hr⟩ := a_r h1
    obtain ⟨y, hy, f', rfl, hf'⟩ := hI.at hρ hq
    obtain ⟨yv, hyv, fs', rfl, hfs'⟩ := hI.at hρv hv
    refine va_astq hx hb hXK.1 hP hD hS q 2 v 1 (r := (RX1, TX1, 14)) hy rfl hyv rfl hin hdg (fun H1 locs1 g1 g2 g3 => ?_)
    have hr2 : rE cy (ws.map Prod.fst) b (.inl (2, n0, .inr (.inr (.inr (.inr (va_up g i.toNatClampNeg (some v))))))) (.inl (cy 2, n0, .inr (.inr (.inr (.inr (va_up f' i.toNatClampNeg (some av))))))) := by
      refine ⟨_, rfl, fun j => ?_⟩
      by_cases hj : j = i.toNatClampNeg
      · simp only [va_up, if_pos hj]
        exact ⟨av, hρv, rfl⟩
      · simp only [va_up, if_neg hj]
        exact hf' j
    have hI2 := hI.set hy hr2 g1 g2 g3
    have hf := fst_set (y' := .inl (cy 2, n0, .inr (.inr (.inr (.inr (va_up f' i.toNatClampNeg (some av))))))) hy
    exact ih _ _ _ _ _ _ H ls lv' r' _ H1 locs1 hl (by rw [hf]; exact hlv) (by rw [hf]; exact hr) hI2 hcl hsl
  case arraylength =>
    rcases p_alen_i (show p_alen S h st fun st => K (pc + 1) lv st h cl sl from H) with ⟨q, r, t, x, rfl, hq, ht, H⟩ | ⟨q, r, rfl, H⟩
    · obtain ⟨a, r', hρ, rfl, hr⟩ := a_r hst
      obtain ⟨y, hy, hye⟩ := hI.at hρ hq
      have hty : ∃ ty, (pTy cy)[t]? = some (cy t, ty) := by
        rcases (show t = 0 ∨ t = 1 ∨ t = 2 ∨ t = 3 by omega) with rfl | rfl | rfl | rfl
        · exact ⟨_, rfl⟩
        · exact ⟨_, rfl⟩
        · exact ⟨_, rfl⟩
        · exact ⟨_, rfl⟩
      obtain ⟨ty, hty⟩ := hty
      obtain ⟨n0, f | f | f | f | f⟩ := x
      · rw [show y = .inl (cy t, n0, .inl f) from hye] at hy
        exact va_alen hx hb hXK.1 hP q t hy hty rfl hdg (go H hl hlv (a_i _ hr))
      · rw [show y = .inl (cy t, n0, .inr (.inl f)) from hye] at hy
        exact va_alen hx hb hXK.1 hP q t hy hty rfl hdg (go H hl hlv (a_i _ hr))
      · exact (show False from hye).elim
      · exact (show False from hye).elim
      · obtain ⟨f', rfl, -⟩ := hye
        exact va_alen hx hb hXK.1 hP q t hy hty rfl hdg (go H hl hlv (a_i _ hr))
    · obtain ⟨w, r', rfl, ⟨a, ha, rfl⟩, hr⟩ := a_c hst
      obtain ⟨g1, g2, g3⟩ := hXK.2.2.2.2.2.2.1 a ha
      exact va_slen hx hb g1 g2 g3 hS hdg (go H hl hlv (a_i _ hr))
  case getfield i =>
    obtain ⟨q, r, fs, v, rfl, hq, hf, hv, H⟩ := p_get_i (show p_get h ta tb st fun st => K (pc + 3) lv st h cl sl from H)
    obtain ⟨a, r', hρ, rfl, hr⟩ := a_r hst
    obtain ⟨y, hy, fs', rfl, hfs⟩ := hI.at hρ hq
    obtain ⟨v', hv', hvv⟩ := hfs.get hv
    simp only [lkOK, Bool.and_eq_true, Bool.or_eq_true, decide_eq_true_eq] at hlk
    obtain ⟨⟨C0, T0, N0⟩, hcl0⟩ := cl_lt hlk.1
    rw [fnum_eq hcl0] at hf
    rcases hlk.2 with hm | hm
    · exact va_get hx hb hts (LY_in hcl0) hown hXK.1 hP q hy hcl0 tb hf (hts _ (fl_0 hcl0 hm)) (fun _ h => h) hv' hdg (go H hl hlv ⟨_, _, rfl, hvv, hr⟩)
    · exact va_getN hx hb hts (LY_in hcl0) hown hXK.1 hP q hy hcl0 tb hf (va_Nw.use rfl (hXK.2.1 _ (fl_1 hcl0 hm) rfl)) (fun _ h => h) hv' hdg (go H hl hlv ⟨_, _, rfl, hvv, hr⟩)
  case putfield i =>
    obtain ⟨v, q, r, fs, rfl, hq, hf, hfl, hnar, hfit, H⟩ := p_put_i (show p_put h ta tb st fun st h => K (pc + 3) lv st h cl sl from H)
    obtain ⟨v', r0, rfl, hvv, h0⟩ := a_c hst
    obtain ⟨a, r', hρ, rfl, hr⟩ := a_r h0
    obtain ⟨y, hy, fs', rfl, hfs⟩ := hI.at hρ hq
    simp only [lkOK, Bool.and_eq_true, decide_eq_true_eq] at hlk
    obtain ⟨r9, hcl0⟩ := cl_lt hlk.1
    rw [fnum_eq hcl0] at hf
    obtain ⟨hn2, hf2⟩ := nf_of hvv hnar hfit
    have hl2 : tb < fs'.length := by rw [hfs.len]; exact hfl
    have hkk : ∀ (H1 : Heap) (locs1 : List Loc), va_P D vwCl (ws.set q (a, .inr (ta, fs'.set tb v'))) H1 → va_D A (ws.set q (a, .inr (ta, fs'.set tb v'))) → va_S A s.heap H1 locs1 → W p l e R s m args below meth c H1 locs1 cl sl Z (F0 m (pc + 3) ls r') := fun H1 locs1 g1 g2 g3 => by
      have hI2 := hI.set hy (x' := .inr (ta, fs.set tb v)) ⟨_, rfl, hfs.set hvv⟩ g1 g2 g3
      have hff := fst_set (y' := .inr (ta, fs'.set tb v')) hy
      exact ih _ _ _ _ _ _ H ls lv' r' _ H1 locs1 hl (by rw [hff]; exact hlv) (by rw [hff]; exact hr) hI2 hcl hsl
    have hfe : fin? ta tb = (r9.2.1 tb).2.2.2 := by unfold fin?; rw [hcl0]
    have hlk2 := hlk.2
    by_cases hfin : (r9.2.1 tb).2.2.2 = true
    · rw [hfe, if_pos hfin] at hlk2
      simp only [Bool.and_eq_true, decide_eq_true_eq, beq_iff_eq] at hlk2
      obtain ⟨⟨hi2, hm⟩, heq⟩ := hlk2
      have how := owX_ok hcl0
      exact va_putF hx hb hts (LY_in hcl0) (ftyX ta) (ftyX_ok hcl0) (nmX_ok hcl0) hown hXK.1 hP hD hS q hy (show vwCl[ta]? = some (r9.1, r9.2.1, r9.2.2) from hcl0) tb hf (hts _ (fl_0 hcl0 hm)) (fun _ h => h) hfin (hini hi2) (by rw [how.2 tb hf, ← how.1, heq]) (ftyX_ok hcl0 tb hf) hn2 hf2 hl2 hdg hkk
    · rw [hfe, if_neg hfin] at hlk2
      simp only [Bool.or_eq_true, decide_eq_true_eq] at hlk2
      have hfin2 : (r9.2.1 tb).2.2.2 = false := by simpa using hfin
      rcases hlk2 with hm | hm
      · exact va_put hx hb hts (LY_in hcl0) (ftyX ta) (ftyX_ok hcl0) (nmX_ok hcl0) hown hXK.1 hP hD hS q hy (show vwCl[ta]? = some (r9.1, r9.2.1, r9.2.2) from hcl0) tb hf (hts _ (fl_0 hcl0 hm)) (fun _ h => h) hfin2 (ftyX_ok hcl0 tb hf) hn2 hf2 hl2 hdg hkk
      · exact va_putN hx hb hts (LY_in hcl0) (ftyX ta) (ftyX_ok hcl0) (nmX_ok hcl0) hown hXK.1 hP hD hS q hy (show vwCl[ta]? = some (r9.1, r9.2.1, r9.2.2) from hcl0) tb hf (va_Nw.use rfl (hXK.2.1 _ (fl_1 hcl0 hm) rfl)) (fun _ h => h) hfin2 (ftyX_ok hcl0 tb hf) hn2 hf2 hl2 hdg hkk
  case newarray t =>
    obtain ⟨x, r, rfl, h0, hN, hc1, hs1, HH⟩ := on1_i (show on1 st fun x r => ¬ x < 0 ∧ x.toNatClampNeg ≤ 10000 ∧ cl + 1 ≤ pC M ∧ sl + x.toNatClampNeg ≤ pS M ∧ ((t = .int ∧ K (pc + 2) lv (.ref h.length :: r) (h ++ [.inl (0, x.toNatClampNeg, .inl (fun _ => 0))]) (cl + 1) (sl + x.toNatClampNeg)) ∨ (t = .long ∧ K (pc + 2) lv (.ref h.length :: r) (h ++ [.inl (1, x.toNatClampNeg, .inr (.inl (fun _ => 0)))]) (cl + 1) (sl + x.toNatClampNeg))) from H)
    obtain ⟨r', rfl, hr⟩ := a_1 hst
    rcases HH with ⟨rfl, HH⟩ | ⟨rfl, HH⟩
    · refine va_newa (atype := .int) (a0 := (x.toNatClampNeg, .inl (fun _ => 0))) hx hb (hts _ (TBL_of ⟨AC_int, rfl⟩)) rfl hXK.1 hP hD hS hA (fun _ => rfl) h0 rfl (by show _ * 4 ≤ _; omega) (Nat.le_trans hc1 hRc) (Nat.le_trans hs1 hRs) hdg (fun q cA H1 gK g1 g2 g3 => ?_)
      rw [arr_int gK] at g1 g2
      obtain ⟨hI2, hx2, hq2⟩ := hI.push (x := .inl (0, x.toNatClampNeg, .inl (fun _ => 0))) rfl g1 g2 g3
      exact ih _ _ _ _ _ _ HH ls lv' _ _ H1 locs hl (hlv.mono (fun q q' hqq => ⟨hqq.1, rv.mono hx2 _ _ hqq.2⟩)) ⟨_, _, rfl, ⟨q, hq2, rfl⟩, hr.mono (rv.mono hx2)⟩ hI2 hc1 hs1
    · refine va_newa (atype := .long) (a0 := (x.toNatClampNeg, .inr (.inl (fun _ => 0)))) hx hb (hts _ (TBL_of ⟨AC_long, rfl⟩)) rfl hXK.1 hP hD hS hA (fun _ => rfl) h0 rfl (by show _ * 8 ≤ _; omega) (Nat.le_trans hc1 hRc) (Nat.le_trans hs1 hRs) hdg (fun q cA H1 gK g1 g2 g3 => ?_)
      rw [arr_long gK] at g1 g2
      obtain ⟨hI2, hx2, hq2⟩ := hI.push (x := .inl (1, x.toNatClampNeg, .inr (.inl (fun _ => 0)))) rfl g1 g2 g3
      exact ih _ _ _ _ _ _ HH ls lv' _ _ H1 locs hl (hlv.mono (fun q q' hqq => ⟨hqq.1, rv.mono hx2 _ _ hqq.2⟩)) ⟨_, _, rfl, ⟨q, hq2, rfl⟩, hr.mono (rv.mono hx2)⟩ hI2 hc1 hs1
  case anewarray i =>
    obtain ⟨x, r, rfl, h0, hN, hc1, hs1, HH⟩ := on1_i (show on1 st fun x r => ¬ x < 0 ∧ x.toNatClampNeg ≤ 10000 ∧ cl + 1 ≤ pC M ∧ sl + x.toNatClampNeg ≤ pS M ∧ K (pc + 3) lv (.ref h.length :: r) (h ++ [.inl (2, x.toNatClampNeg, .inr (.inr (.inr (.inr (fun _ => none)))))]) (cl + 1) (sl + x.toNatClampNeg) from H)
    obtain ⟨r', rfl, hr⟩ := a_1 hst
    simp only [lkOK, decide_eq_true_eq] at hlk
    have hw := CL_ok _ hlk
    refine va_newq (C := "OverlapMill$Chart") hx hb hown (hts _ (TBL_of hw)) hXK.2.2.1 hXK.1 hP hD hS hA h0 rfl (by omega) (Nat.le_trans hc1 hRc) (Nat.le_trans hs1 hRs) hdg (fun q cA H1 gK g1 g2 g3 => ?_)
    rw [arr_chart gK] at g1 g2
    obtain ⟨hI2, hx2, hq2⟩ := hI.push (x := .inl (2, x.toNatClampNeg, .inr (.inr (.inr (.inr (fun _ => none)))))) ⟨_, rfl, fun j => rfl⟩ g1 g2 g3
    exact ih _ _ _ _ _ _ HH ls lv' _ _ H1 locs hl (hlv.mono (fun q q' hqq => ⟨hqq.1, rv.mono hx2 _ _ hqq.2⟩)) ⟨_, _, rfl, ⟨q, hq2, rfl⟩, hr.mono (rv.mono hx2)⟩ hI2 hc1 hs1
  case multianewarray i d =>
    obtain ⟨k0, n0, r, rfl, hn0, hk0, hN, hK0, hc1, hs1, HH⟩ := p_new2_i (show p_new2 h st fun st h dc ds => cl + dc ≤ pC M ∧ sl + ds ≤ pS M ∧ K (pc + 4) lv st h (cl + dc) (sl + ds) from H)
    obtain ⟨r', rfl, hr⟩ := a_2 hst
    simp only [lkOK, Bool.and_eq_true, decide_eq_true_eq, beq_iff_eq] at hlk
    obtain ⟨hlk1, rfl⟩ := hlk
    have hw := CL_ok _ hlk1
    have hPP : va_P D vwCl (ws ++ va_pl [] (fun _ => .inl (cy 0, 0, .inl (fun _ => 0)))) Hp := by rw [show va_pl [] (fun _ => (.inl (cy 0, 0, .inl (fun _ => 0)) : va_E)) = [] from rfl, List.append_nil]; exact hP
    have hDD : va_D A (ws ++ va_pl [] (fun _ => .inl (cy 0, 0, .inl (fun _ => 0)))) := by rw [show va_pl [] (fun _ => (.inl (cy 0, 0, .inl (fun _ => 0)) : va_E)) = [] from rfl, List.append_nil]; exact hD
    have hmul : n0.toNatClampNeg * k0.toNatClampNeg ≤ 1000 * 1000 := Nat.mul_le_mul hN hK0
    refine va_mna (X := ws) (L := []) (ty := .int) (cy := cy 0) (z := (k0.toNatClampNeg, .inl (fun _ => 0))) hx hb hown (hts _ (TBL_of hw)) hXK.2.2.2.1 (hts _ (TBL_of ⟨AC_int, rfl⟩)) (hXK.1.2 0 _ rfl).2 hXK.1 hPP hDD hS hA hn0 hk0 rfl rfl (by omega) (by show _ * 4 ≤ _; omega) (by omega) rfl rfl (Nat.le_trans hc1 hRc) (Nat.le_trans hs1 hRs) (fun c9 => ?_) hdg (fun q r0 cA H1 hinj hnot gK g1 g2 g3 => ?_)
    · rw [vp_cell_i]
      exact arrV_new _ _ _
    · have e : va_pl ([] ++ (List.range n0.toNatClampNeg).map r0) (vr_up (fun _ => (.inl (cy 0, 0, .inl (fun _ => 0)) : va_E)) ((List.range n0.toNatClampNeg).map r0) (.inl (cy 0, (k0.toNatClampNeg, .inl (fun _ => 0))))) = (List.range n0.toNatClampNeg).map (fun i => (r0 i, (.inl (cy 0, k0.toNatClampNeg, .inl (fun _ => 0)) : va_E))) := by
        unfold va_pl
        rw [List.nil_append, List.map_map]
        apply List.map_congr_left
        intro i hi
        simp only [Function.comp]
        rw [vr_up_in (List.mem_map_of_mem hi)]
      rw [arr_rows gK, e] at g1 g2
      obtain ⟨hI2, hx2, hq2⟩ := hI.push2 g1 g2 g3
      rw [Nat.add_assoc cl, Nat.add_assoc sl]
      exact ih _ _ _ _ _ _ HH ls lv' _ _ H1 locs hl (hlv.mono (fun q q' hqq => ⟨hqq.1, rv.mono hx2 _ _ hqq.2⟩)) ⟨_, _, rfl, ⟨q, hq2, rfl⟩, hr.mono (rv.mono hx2)⟩ hI2 hc1 hs1
  case new i =>
    rcases (show (tb = 0 ∧ cl + 1 ≤ pC M ∧ sl + fnum ta ≤ pS M ∧ K (pc + 3) lv (.ref h.length :: st) (h ++ [.inr (ta, dflt ta)]) (cl + 1) (sl + fnum ta)) ∨ (tb = 1 ∧ hd = [] ∧ cl + 1 ≤ pC M ∧ sl + 6 ≤ pS M ∧ (st.map Value.category).sum ≤ 8 ∧ ∃ x, XLs[ta]? = some x ∧ Q (.inr x.2.2.1) h) from H) with ⟨rfl, hc1, hs1, H⟩ | ⟨rfl, h0, hc1, hs1, hsum, x, hxl, H⟩
    · have hlk2 : (pO M, i, ta) ∈ CLs ∧ ta < 11 := by simpa [lkOK] using hlk
      obtain ⟨r9, hcl0⟩ := cl_lt hlk2.2
      have how := owX_ok hcl0
      have hw := cl_in hlk2.2 hlk2.1
      rw [how.1] at hw
      have hfn := fnum_eq hcl0
      refine va_new (ci := ta) (fs := dflt ta) hx hb hts (LY_in hcl0) (ftyX ta) (ftyX_ok hcl0) hown (hts _ hw) (hts _ (TBL_of (IS_ok r9 (List.mem_of_getElem? hcl0)))) (hts _ (TBL_of (IN_ok _ (by rw [← how.1]; exact List.mem_of_getElem? (i := ta) (by rw [List.getD]; rw [List.getElem?_eq_getElem (show ta < cnm.length from Nat.lt_of_lt_of_le hlk2.2 (by decide))]; rfl))))) hXK.1 hP hD hS hA (show vwCl[ta]? = some (r9.1, r9.2.1, r9.2.2) from hcl0) (fun j hj => dflt_V ta (by rw [hfn]; exact hj)) (Nat.le_trans hc1 hRc) (by rw [← hfn]; exact Nat.le_trans hs1 hRs) hdg (fun q H1 g1 g2 g3 => ?_)
      rw [← hfn]
      obtain ⟨hI2, hx2, hq2⟩ := hI.push (x := .inr (ta, dflt ta)) ⟨_, rfl, dflt_rv ta⟩ g1 g2 g3
      exact ih _ _ _ _ _ _ H ls lv' _ _ H1 locs hl (hlv.mono (fun q q' hqq => ⟨hqq.1, rv.mono hx2 _ _ hqq.2⟩)) ⟨_, _, rfl, ⟨q, hq2, rfl⟩, hst.mono (rv.mono hx2)⟩ hI2 hc1 hs1
    · have hlk2 : xok (pO M) (pB M) pc i ta = true := by simpa [lkOK] using hlk
      exact hNw i ta pc x ls st' lv' h ws Hp locs cl sl hdg hlk2 hxl h0 H (by rw [A2.cats hst]; exact hsum) hl hI hc1 hs1
  case invokevirtual i =>
    have H : p_call C M hd Q K pc ta true lv st h cl sl := H
    simp only [lkOK, Bool.and_eq_true, Bool.or_eq_true, decide_eq_true_eq, beq_iff_eq] at hlk
    exact hcall hlk.1 (Or.inl ⟨rfl, rfl, hlk.2⟩) hdg H ls lv' st' ws Hp locs hl hlv hst hI hcl hsl
  case invokestatic i =>
    rcases (show (tb = 7 ∧ p_copy h st fun st h => (st.map Value.category).sum ≤ 8 ∧ K (pc + 3) lv st h cl sl) ∨ (tb ≠ 7 ∧ p_call C M hd Q K pc ta false lv st h cl sl) from H) with ⟨rfl, HH⟩ | ⟨htb, HH⟩
    · obtain ⟨n9, dp, q1, sp, q0, r, n0, f, n1, g, rfl, hq0, hq1, h1, h2, h3, h4, h5, hsum, HH⟩ := p_copy_i HH
      obtain ⟨s1, rfl, k1⟩ := a_2 hst
      obtain ⟨a1, s2, hρ1, rfl, k2⟩ := a_r k1
      obtain ⟨s3, rfl, k3⟩ := a_1 k2
      obtain ⟨a0, r', hρ0, rfl, hr⟩ := a_r k3
      obtain ⟨y0, hy0, e0⟩ := hI.at hρ0 hq0
      obtain ⟨y1, hy1, e1⟩ := hI.at hρ1 hq1
      rw [show y0 = .inl (cy 0, n0, .inl f) from e0] at hy0
      rw [show y1 = .inl (cy 0, n1, .inl g) from e1] at hy1
      have hlk2 : (pO M, i, ta, 7) ∈ MLs := by simpa [lkOK] using hlk
      have hw := ML_ok _ hlk2
      have e : mlW (pO M, i, ta, 7) = Cond.methodLink (cnm.getD (pO M) "") i arraycopyName := by simp [mlW]
      rw [e] at hw
      have hnf : nativeFrameWords "java/lang/System" "arraycopy" 5 ≤ 200 := by decide +kernel
      refine va_copyi hx hb (hmax.trans hl.1.symm) hown (hts _ (TBL_of ⟨hw.1, rfl⟩)) (hts _ N_an) (hts _ N_as) (hts _ N_ai) hXK.1 hP hD hS q0 q1 0 0 hy0 hy1 rfl rfl rfl h1 h2 h3 h4 h5 (fun _ _ => rfl) (by omega) (by rw [A2.cats hr]; omega) hdg (fun H1 locs1 g1 g2 g3 => ?_)
      have hI2 := hI.set hy1 (x' := .inl (0, n1, .inl (va_cpy f g sp.toNatClampNeg dp.toNatClampNeg n9.toNatClampNeg))) (show rE cy _ b (.inl (0, n1, .inl (va_cpy f g sp.toNatClampNeg dp.toNatClampNeg n9.toNatClampNeg))) _ from rfl) g1 g2 g3
      have hf := fst_set (y' := .inl (cy 0, n1, .inl (va_cpy f g sp.toNatClampNeg dp.toNatClampNeg n9.toNatClampNeg))) hy1
      exact ih _ _ _ _ _ _ HH ls lv' r' _ H1 locs1 hl (by rw [hf]; exact hlv) (by rw [hf]; exact hr) hI2 hcl hsl
    · simp only [lkOK, Bool.and_eq_true, Bool.or_eq_true, decide_eq_true_eq, beq_iff_eq] at hlk
      refine hcall hlk.1 (Or.inr (Or.inl ⟨rfl, rfl, ?_⟩)) hdg HH ls lv' st' ws Hp locs hl hlv hst hI hcl hsl
      rcases hlk.2 with ((q | q) | q) | q
      · exact absurd q htb
      · exact Or.inl q
      · exact Or.inr (Or.inl q)
      · exact Or.inr (Or.inr q)
  case invokespecial i =>
    rcases (show (tb = 6 ∧ onR st fun _ r => (r.map Value.category).sum ≤ 8 ∧ K (pc + 3) lv r h cl sl) ∨ ((tb = 4 ∨ tb = 5) ∧ p_call C M hd Q K pc ta true lv st h cl sl) from H) with ⟨rfl, HH⟩ | ⟨htb, HH⟩
    · obtain ⟨q, r, rfl, hsum, HH⟩ := onR_i HH
      obtain ⟨a, r', hρ, rfl, hr⟩ := a_r hst
      have hlk2 : (pO M, i, ta, 6) ∈ MLs := by simpa [lkOK] using hlk
      have hw := ML_ok _ hlk2
      have e : mlW (pO M, i, ta, 6) = Cond.methodLink (cnm.getD (pO M) "") i objectInit := by simp [mlW]
      rw [e] at hw
      exact W.objInit hx hb hown (hts _ (TBL_of ⟨hw.1, rfl⟩)) (hts _ N_oi) (hts _ N_oc) rfl (hl.1.trans hmax.symm) rfl hdg (by omega) (by rw [A2.cats hr]; show 2 * 0 + _ + 12 ≤ _; omega) (go HH hl hlv hr)
    · have hlk2 : (pO M, i, ta, tb) ∈ MLs := by
        rcases htb with rfl | rfl <;> simpa [lkOK] using hlk
      exact hcall hlk2 (Or.inr (Or.inr ⟨rfl, rfl, htb⟩)) hdg HH ls lv' st' ws Hp locs hl hlv hst hI hcl hsl
  case ireturn =>
    obtain ⟨x, rfl, ht, H⟩ : ∃ x, st = [.int x] ∧ (∃ t, pR M = some t ∧ narrow t (.int x) = .int x) ∧ Q (.inl (some (.int x))) h := H
    obtain ⟨r', rfl, hr⟩ := a_1 hst
    cases (show r' = [] from hr)
    exact hR _ pc ls (some (.int x)) (some (.int x)) h ws Hp locs cl sl hdg ht H hst hI hcl hsl
  case lreturn =>
    obtain ⟨x, rfl, ht, H⟩ : ∃ x, st = [.long x] ∧ pR M = some .long ∧ Q (.inl (some (.long x))) h := H
    obtain ⟨r', rfl, hr⟩ := a_l hst
    cases (show r' = [] from hr)
    exact hR _ pc ls (some (.long x)) (some (.long x)) h ws Hp locs cl sl hdg ht H hst hI hcl hsl
  case areturn =>
    obtain ⟨q, rfl, ht, H⟩ : ∃ a, st = [.ref a] ∧ (∃ t, pR M = some (.object t)) ∧ Q (.inl (some (.ref a))) h := H
    obtain ⟨a, r', hρ, rfl, hr⟩ := a_r hst
    cases (show r' = [] from hr)
    exact hR _ pc ls (some (.ref q)) (some (.ref a)) h ws Hp locs cl sl hdg ht H hst hI hcl hsl
  case return_ =>
    obtain ⟨rfl, ht, H⟩ : st = [] ∧ pR M = none ∧ Q (.inl none) h := H
    cases (show st' = [] from hst)
    exact hR _ pc ls none none h ws Hp locs cl sl hdg ht H hst hI hcl hsl
  all_goals exact (show False from H).elim
end INS
end
section
/-! a body whole, and every method: what the pure machine says is a contract -/
section BDY
variable {p : Program} {l : Launch} {e : Env} {R : Room} {s : State} {m : MethodId} {args : Array Value} {below : List Frame} {meth : Method} {c : Code} {D : va_G} {cy : Nat → ClassId} {A : Nat → Prop} {b : Option Nat} {S : Nat × (Nat → Int32)} {M : PM} {ws0 : va_W} {Z : State → Prop} {n : Nat}
theorem body {C : Nat → List Value → PH → (Rs → PH → Prop) → Prop} {hd : List (Nat × Nat × Nat × Int)} {Q : Rs → PH → Prop} (hc : CX p l R s m args meth c D cy A b S M n) (hC : ∀ (μ : Nat) (N : PM) (av : List Value) (h : PH) (Q' : Rs → PH → Prop), MT[μ]? = some N → ¬ pK N = 4 → C μ av h Q' → CT l D cy b S n μ N av h Q')
    (hR : HRt p l e R s m args below meth c D cy A b M ws0 Z Q) (hX : HXt p l e R s m args below meth c D cy A b M ws0 Z hd Q) (hNw : HNt p l e R s m args below meth c D cy A b M ws0 Z hd Q) (hok : mOK M = true) {pc : Nat} {lv : LV} {st : List Value} {h : PH} {cl sl : Nat} (H : Vx C S M hd Q pc lv st h cl sl) : GD p l e R s m args below meth c D cy A b M ws0 Z pc lv st h cl sl := by
  refine H (GD p l e R s m args below meth c D cy A b M ws0 Z) ?_
  intro pc lv st h cl sl ⟨te, hte, H⟩
  have h1 := List.mem_of_find?_eq_some hte
  have h2 : te.1 = pc := by
    have h3 := List.find?_some hte
    simpa using h3
  have h4 := List.all_eq_true.mp hok te h1
  have h5 := stepI (p := p) (l := l) (e := e) (R := R) (s := s) (m := m) (args := args) (below := below) (meth := meth) (c := c) (D := D) (cy := cy) (A := A) (b := b) (S := S) (M := M) (ws0 := ws0) (Z := Z) (n := n) hc hC hR hX hNw (fun pc lv st h cl sl h9 => h9) h4 H
  rw [h2] at h5
  exact h5
end BDY
theorem sl_len : ∀ vs : List Value, (lg_sl vs).length = (vs.map Value.category).sum
  | [] => rfl
  | v :: vs => by
    have h := sl_len vs
    unfold lg_sl at h ⊢
    rw [List.flatMap_cons, List.length_append, h]
    rcases lv_cat v with q | q <;> simp [q]
theorem plain_all : ∀ M ∈ MT, plainFor (pY M) = true := by
  intro M hM
  obtain ⟨μ, hμ⟩ := List.getElem?_of_mem hM
  have hw := (MT_w hμ).1
  have hi := MT_info M hM
  simp only [mInf, Bool.and_eq_true, Bool.or_eq_true, bne_iff_ne, ne_eq, beq_iff_eq, decide_eq_true_eq] at hi
  obtain ⟨⟨⟨-, h13⟩, -⟩, h15⟩ := hi
  by_cases h : pO M = 13
  · have hd : (pY M).desc = "(II)I" := by
      rcases h13 with q | q
      · exact absurd h q
      · exact q
    have hc : (pY M).cls = "java/lang/Math" := by
      rw [h] at hw
      exact (Option.some.inj hw).symm
    exact Jvm.Free.JP.mathPlain hc (by rw [hd]; decide +kernel)
  · refine plainFor_of_name ?_
    have hall : ∀ k, k < 15 → k ≠ 13 → ∀ C, cnm[k]? = some C → Jvm.plainName C = true := by
      intro k hk hne C hC
      have hd : ∀ k, k < 15 → k ≠ 13 → Jvm.plainName (cnm.getD k "") = true := by decide +kernel
      have h2 := hd k hk hne
      rw [List.getD, hC] at h2
      exact h2
    exact hall _ h15 h _ hw
theorem px_of {l : Launch} {y : MethodName} {ws : List Cond} {rm : Room} {Pc : Array Value → State → Prop} {Qc : Array Value → State → Outcome → State → Prop} {XC : String → State → State → Prop} {mc ms : Nat} {free : Addr → Prop} {cc : ByteArray} {maxL : Nat} {ret : Option FieldType}
    (hy : plainFor y = true) (his : ∀ args (s : State) m, (headSpec ws rm).pre.before args s = true → s.methodNamed? y = some m → ∃ meth c, s.vm.method? m = some meth ∧ meth.code = some c ∧ c.code = cc ∧ c.maxLocals = maxL ∧ meth.sig.returnType = ret ∧ meth.locks = false)
    (body : ∀ p e s m args below meth c s₁, BodyLoose p l y (headSpec ws rm) cc maxL ret e s m args below meth c s₁ → c.maxLocals = maxL → Pc args s →
      W p l e (headSpec ws rm).room s m args below meth c s.heap [] 0 0 (vx_MQ below Qc XC args s mc ms free) (entryFrame m args maxL)) : vx_Met l y ws rm Pc Qc XC mc ms free := by
  refine MetFree.of_bodySF (code := cc) (maxLocals := maxL) (ret := ret) hy his ?_
  intro p e s m args below meth c s₁ B hml hP _
  have hh0 : s₁.heap = s.heap := by rw [B.state]; rfl
  obtain ⟨t, a1, o, b1, b2, b3⟩ := body p e s m args below meth c s₁ B hml hP s₁ hh0 (Stand.of_body B)
  exact ⟨t, o, a1, b1, b2, b3⟩
section FIN
variable {p : Program} {l : Launch} {e : Env} {R : Room} {s : State} {m : MethodId} {args : Array Value} {below : List Frame} {meth : Method} {c : Code} {D : va_G} {cy : Nat → ClassId} {b : Option Nat} {S : Nat × (Nat → Int32)} {M : PM} {ws0 : va_W} {n : Nat}
theorem hr_of {Q : Rs → PH → Prop} (hc : CX p l R s m args meth c D cy (va_A ws0 s.heap.size) b S M n) (hret : meth.sig.returnType = pR M) (hlocks : meth.locks = false) :
    HRt p l e R s m args below meth c D cy (va_A ws0 s.heap.size) b M ws0 (vx_MQ below (QcP D cy b ws0 s.heap.size Q) (XcP D cy b ws0 s.heap.size Q) args s (pC M) (pS M) (va_A ws0 s.heap.size)) Q := by
  obtain ⟨hx, hb, hmax, hown, hts, hXK, hA, hini, hRc, hRs, hRf, hRl, htr⟩ := hc
  intro i pc ls v v' h ws H locs cells slots hdg hok hq hro hI hcl hsl
  obtain ⟨hex, hrE, hP, hD, hS⟩ := hI
  refine W.widen hcl hsl (vx_ret ?_)
  have hQ : ∀ t : State, t.heap = H → s.WarmedH t.vm → QcP D cy b ws0 s.heap.size Q args s (.returned v') t := fun t ht _ => ⟨⟨v, v', h, ws, rfl, hq, hro, hex, hrE, by rw [ht]; exact hP, hD⟩, hS.F ht⟩
  cases i
  case ireturn =>
    rcases v with _ | (x | x | x | x | _ | x | x)
    · exact hok.elim
    · obtain ⟨t, ht, hn⟩ := hok
      obtain ⟨w, r, hv, hw, hr⟩ := hro
      cases v' with
      | none => cases hv
      | some v' =>
        cases hv
        cases (show w = .int x from hw)
        exact W.zret hx hb (hret.trans ht) hn hQ hS.2.2 hdg hlocks
    all_goals exact hok.elim
  case lreturn =>
    rcases v with _ | (x | x | x | x | _ | x | x)
    · exact hok.elim
    · exact hok.elim
    · obtain ⟨w, r, hv, hw, hr⟩ := hro
      cases v' with
      | none => cases hv
      | some v' =>
        cases hv
        cases (show w = .long x from hw)
        exact W.lret hx hb (hret.trans hok) hQ hS.2.2 hdg hlocks
    all_goals exact hok.elim
  case areturn =>
    rcases v with _ | (x | x | x | x | _ | x | x)
    · exact hok.elim
    · exact hok.elim
    · exact hok.elim
    · exact hok.elim
    · exact hok.elim
    · exact hok.elim
    · obtain ⟨t, ht⟩ := hok
      obtain ⟨w, r, hv, ⟨a, -, hw⟩, hr⟩ := hro
      cases v' with
      | none => cases hv
      | some v' =>
        cases hv
        cases hw
        exact W.aret hx hb (hret.trans ht) (Or.inl ⟨_, rfl⟩) (Or.inr ⟨_, rfl⟩) hQ hS.2.2 hdg hlocks
    · exact hok.elim
  case return_ =>
    cases v with
    | some v => cases v <;> exact hok.elim
    | none =>
      cases v' with
      | some v' => cases (show [v'] = [] from hro)
      | none => exact W.vret hx hb (hret.trans hok) hQ hS.2.2 hdg hlocks
  all_goals (rcases v with _ | (x | x | x | x | _ | x | x) <;> exact hok.elim)
end FIN
end
section
/-! a throw of a class whose constructor hands its text on by another number of its pool than 7 (java.util.NoSuchElementException: 13); the kit's vx_throwS speaks of 7 alone. Built on the library's chainSX, ctorMessageOffV, athrowLeaves. -/
section NX
variable {p : Program} {l : Launch} {e : Env} {R : Room} {s : State} {m₀ : MethodId} {args : Array Value} {below : List Frame} {meth : Method} {c : Code} {W0 : State} {locs : List Loc} {cells slots : Nat}
set_option maxHeartbeats 1000000 in
theorem nx_ctor (X : Stand p l e R s m₀ args below meth c W0 locs cells slots) (hexec : p.tables.exec = Jvm.exec) (htr : e.platform.stackTraces = false) {own cls : String} {names : List String} {ic ix : Nat} {rx : ByteArray}
    (x0 : decode rx 0 = .ok (.aload_n 0, 1)) (x1 : decode rx 1 = .ok (.aload_n 1, 1)) (x2 : decode rx 2 = .ok (.invokespecial ix, 3)) (x5 : decode rx 5 = .ok (.return_, 1))
    (hown : s.vm.findClass own = some m₀.cls) (hcls : Bundle.fit cls = true) (hnames : ∀ n ∈ names, Bundle.fit n = true) (h : ∀ a ∈ Bundle.ownAtomsX own ic cls ix rx names, a.before args s = true)
    (hlocs : ∀ x ∈ locs, ∀ cell, s.heap[x.base]? = some cell → cell.vm.isStatics = false)
    {a : Addr} {cX : ClassId} {kX : Class} (hfoundX : s.vm.findClass cls = some cX) (hkX : s.vm.classes[cX]? = some kX) (hcell : W0.heap[a]? = some (freshCell cX kX)) (hnew : s.heap.size ≤ a) {msg : Value} (hmsg : msg.isRef = true)
    {g : JFrame} (hg : g.method = m₀) (hsize : g.locals.size = c.maxLocals) (hlocked : g.locked = none) (hentered : g.entered = []) {rest : List Value} (hstack : g.stack = msg :: .ref a :: .ref a :: rest)
    (hd6 : decode c.code g.pc = .ok (.invokespecial ic, 3)) (hd9 : decode c.code (g.pc + 3) = .ok (.athrow, 1)) (hout : ∀ x ∈ c.exceptionTable.toList, covers x (g.pc + 3) = false)
    (hRframes : names.length + 3 < R.frames) (hRlocals : 2 * g.monitorRoom + ((Value.ref a :: rest).map fun v => v.category).sum + (13 * (names.length + 1) + 42) ≤ R.locals) (hlocks : meth.locks = false) :
    ∃ U : State, Steps p.tables e below (W0.setTop g) U ∧ U.status = .running ∧ Ended U below (.threw a) ∧ s.WarmedH U.vm ∧ s.sameButNew ({ U with vm := s.vm } : State) locs cells slots ∧ ∃ ce : Cell, U.heap[a]? = some ce ∧ s.vm.findClass cls = some ce.cls ∧ ce.vm = .none := by
  have hpl : e.platform.magicAccessors = ({} : Platform).magicAccessors := by rw [X.admits.platform]
  have hh : ∀ x, x ∈ Bundle.ownAtomsX own ic cls ix rx names → x.holds args s none s [] = true := fun x hx => h x hx
  obtain ⟨T, Z0, L, -, Y⟩ := ThrowableC.of_atoms (args := args) (s := s) (pl := e.platform) (by rw [X.admits.platform]) (by rw [X.admits.platform]) hpl (fun x hx => h x (by simp [Bundle.ownAtomsX, hx]))
  obtain ⟨Z, Ms, LZ, LM, hnZ⟩ := Init0T.ofS_atoms (args := args) hpl L Y (fun x hx => h x (by simp [Bundle.ownAtomsX, hx]))
  obtain ⟨P1, Ps, hlen, L1, hL, hP1m, hlink1, hlink⟩ := Bundle.chainSX (args := args) hpl hnZ x0 x1 x2 x5 names cls hcls hnames (fun x hx => h x (by simp [Bundle.ownAtomsX, hx]))
  have hfound : s.vm.findClass cls = some P1.m.cls := findClass_of_methodNamed hP1m
  cases Option.some.inj (hfoundX.symm.trans hfound)
  obtain ⟨c1, kX', hc1, hk, hord, -, -, hn6⟩ := Cond.instantiable_spec (hh (.instantiable cls 6) (by simp [Bundle.ownAtomsX]))
  cases Option.some.inj (hc1.symm.trans hfound)
  cases Option.some.inj (hkX.symm.trans hk)
  have hsel0 : selectMethod e.platform s.vm P1.m.cls T.fill0 = .method T.fill0 := by
    obtain ⟨c2, r2, m2, q1, q2, q3, q4, -⟩ := Cond.selects_spec (hh (.selects cls Bundle.tFill0 Bundle.tFill0) (by simp [Bundle.ownAtomsX]))
    cases Option.some.inj (q1.symm.trans hfound)
    cases Option.some.inj (q2.symm.trans (State.methodFound?_of_named Y.fill0 (by decide)))
    cases Option.some.inj (q3.symm.trans Y.fill0)
    rw [Launch.admits_selectMethod X.admits]; exact q4
  have hselF : selectMethod e.platform s.vm P1.m.cls T.fill = .method T.fill := by
    obtain ⟨c2, r2, m2, q1, q2, q3, q4, -⟩ := Cond.selects_spec (hh (.selects cls Bundle.tFill Bundle.tFill) (by simp [Bundle.ownAtomsX]))
    cases Option.some.inj (q1.symm.trans hfound)
    cases Option.some.inj (q2.symm.trans (State.methodFound?_of_named Y.fill (by decide)))
    cases Option.some.inj (q3.symm.trans Y.fill)
    rw [Launch.admits_selectMethod X.admits]; exact q4
  obtain ⟨cellS0, hcS0, hiss⟩ := Y.statics
  obtain ⟨u0, hu0⟩ := Cond.staticRefV Y.unassigned L.unassignedStatic L.statics hcS0 hiss (hh (.isRef (.static Bundle.tN "UNASSIGNED_STACK" Bundle.steD)) (by simp [Bundle.ownAtomsX]))
  obtain ⟨sen, hsen⟩ := Cond.staticRefV Y.sentinel L.sentinelStatic L.statics hcS0 hiss (hh (.isRef (.static Bundle.tN "SUPPRESSED_SENTINEL" Bundle.listD)) (by simp [Bundle.ownAtomsX]))
  obtain ⟨ci198, i198, fB, hk198, hg198, ha198, hsB, -, hnB, htB, hffB⟩ := Cond.ownField (t := .object "java/lang/Object") Y.found L.cls (by decide +kernel) (hh (.fieldLink Bundle.tN 198 Bundle.tN "backtrace" "Ljava/lang/Object;") (by simp [Bundle.ownAtomsX])) (hh (.lays Bundle.tN Bundle.tN "backtrace" "Ljava/lang/Object;") (by simp [Bundle.ownAtomsX])) e.platform hpl
  obtain ⟨cellS, hcellS, heS, -, hkeep⟩ := X.same.2.2.2.2.2 T.aS cellS0 hcS0
  have hout' : ∀ i, (⟨T.aS, i⟩ : Loc) ∉ locs := fun i hmem => by
    have h9 := hlocs _ hmem cellS0 hcS0
    rw [hiss] at h9; cases h9
  have hknownS : cellS.vm ≠ .unknown := by
    rw [heS]; intro hu
    rw [show cellS0.vm = .unknown from hu] at hiss
    cases hiss
  have hneS : T.aS ≠ a := Nat.ne_of_lt (Nat.lt_of_lt_of_le (Array.getElem?_eq_some_iff.mp hcS0).1 hnew)
  obtain ⟨iM, hffM⟩ := Y.msg
  obtain ⟨tyC, dC, hdC, hdnC⟩ := Cond.laysAt hfound hk Y.cause (hh (.lays cls Bundle.tN "cause" "Ljava/lang/Throwable;") (by simp [Bundle.ownAtomsX]))
  obtain ⟨tyS, dS, hdS, hdnS⟩ := Cond.laysAt hfound hk Y.stack (hh (.lays cls Bundle.tN "stackTrace" Bundle.steD) (by simp [Bundle.ownAtomsX]))
  obtain ⟨tyP, dP, hdP, hdnP⟩ := Cond.laysAt hfound hk Y.supp (hh (.lays cls Bundle.tN "suppressedExceptions" Bundle.listD) (by simp [Bundle.ownAtomsX]))
  obtain ⟨tyM, dM, hdM, hdnM⟩ := Cond.laysAt hfound hk hffM (hh (.lays cls Bundle.tN "detailMessage" "Ljava/lang/String;") (by simp [Bundle.ownAtomsX]))
  obtain ⟨tyB, dB, hdB, hdnB⟩ := Cond.laysAt hfound hk hffB (hh (.lays cls Bundle.tN "backtrace" "Ljava/lang/Object;") (by simp [Bundle.ownAtomsX]))
  have bC := Cond.laysApart hdB hdC hdnB hdnC (by rw [hnB, Y.causeName]; decide)
  have bS := Cond.laysApart hdB hdS hdnB hdnS (by rw [hnB, Y.stackName]; decide)
  have bP := Cond.laysApart hdB hdP hdnB hdnP (by rw [hnB, Y.suppName]; decide)
  have hskip : SkipFacts T e.platform s (fun u => u) u0 ((preparedCellV T.toThrowableT (freshCell P1.m.cls kX) a u0 sen).withEntry W0.cur) :=
    ⟨{ ci198 := ci198, i198 := i198, fBack := fB }, ⟨hk198, hg198, ha198, hsB⟩, by
      have h9 := fresh_default (c := P1.m.cls) tyB
      rw [htB] at h9
      simpa [preparedCellV, Cell.setSlot, Cell.withEntry, Array.getElem?_setIfInBounds, bC, bS, bP, bC.symm, bS.symm, bP.symm, defaultValue] using h9, fun _ _ => rfl⟩
  obtain ⟨tm, methC, cdC, kC, vm₁, hnC, -, -, -, -, -, -, -, hW₁, st1⟩ := Steps.initColdS (tb := p.tables) (e := e) (below := below) (s := s) (U := W0) X.here hexec X.warmed hpl hown (t := Bundle.initS cls) rfl rfl (Bundle.fit_spec hcls).2
    (hh (.methodLink own ic (Bundle.initS cls)) (by simp [Bundle.ownAtomsX])) (h (.instanceMethod (Bundle.initS cls)) (by cases names <;> simp [Bundle.ownAtomsX, Bundle.chainSAtomsX, Bundle.passSAtoms])) (bytes := rx) (maxL := 2) (h (.code (Bundle.initS cls) rx 2 none) (by cases names <;> simp [Bundle.ownAtomsX, Bundle.chainSAtomsX, Bundle.passSAtoms]))
    (f := g) hg (a := a) (msg := msg) (rest := .ref a :: rest) hstack hd6
  cases Option.some.inj (hnC.symm.trans hP1m)
  have X₁ := X.noted hW₁
  obtain ⟨vm₂, X₂, st2⟩ := X₁.ctorMessageOffV hexec (g := { g with stack := .ref a :: rest }) hg hsize T L Z LZ Ms LM (P1 :: Ps)
    (fun P hP => by rcases List.mem_cons.mp hP with rfl | hP; exact L1; exact hL P hP) ⟨hlink1, hlink⟩ (u0 := u0) (sen := sen) (self := a) hmsg (cell := freshCell P1.m.cls kX) (cellS := cellS)
    hcell (fun _ => by simp) (by simp) rfl rfl hsel0 hselF hcellS hneS hknownS (by rw [hkeep _ (hout' _)]; exact hu0) (by rw [hkeep _ (hout' _)]; exact hsen)
    (Takes.of_laid hk hord tyC (by rw [Y.causeType]; rfl)) (Takes.of_laid hk hord tyS (by rw [Y.stackType]; exact fits_refV_array _ u0)) (Takes.of_laid hk hord tyP (by rw [Y.suppType]; exact fits_refV_object _ sen))
    (Takes.of_laid hk hord tyM (by rw [Y.msgType]; exact fits_refV_object _ ⟨msg, hmsg⟩)) Y.objLocals hskip htr [] hd6
    (by simp only [List.length_cons, hlen]; omega) (by simp only [List.length_cons, hlen]; exact hRlocals)
  obtain ⟨hwalk, hrun, hended, hWU, hsame⟩ := X₂.athrowLeaves hexec (g := { g with stack := .ref a :: rest, pc := g.pc + 3 }) hg hlocked hentered hout (a := a) (rest := rest) rfl hd9
  have hlt : a < ((W0.setVm vm₁).setVm vm₂).heap.size := (Array.getElem?_eq_some_iff.mp hcell).1
  have hU := heapAt_setCell_self (s := (W0.setVm vm₁).setVm vm₂) (plainBareV T.toThrowableT (freshCell P1.m.cls kX) a u0 sen msg) hlt
  refine ⟨_, st1 _ (fun acts => ?_), hrun, hended, hWU, hsame.weaken (fun y hy hlt' => ?_) (Nat.le_refl _) (Nat.le_refl _), _, hU, hfound, rfl⟩
  · rw [doInvoke_state]
    exact st2 _ hwalk
  · rcases List.mem_append.mp hy with h1 | h1
    · exact h1
    · exfalso
      have hb : y.base = a := by
        simp only [List.mem_cons, List.not_mem_nil, or_false] at h1
        rcases h1 with rfl | rfl | rfl | rfl | rfl <;> rfl
      rw [hb] at hlt'
      exact Nat.not_lt.mpr hnew hlt'
end NX
end
section
section NXT
variable {p : Program} {l : Launch} {e : Env} {R : Room} {s : State} {m : MethodId} {args : Array Value} {below : List Frame} {meth : Method} {c : Code} {H : Heap} {locs : List Loc} {cells slots : Nat} {Q : State → Prop}
variable {mc ms : Nat} {free : Addr → Prop} {A0 A1 : Nat → Prop} {H0 : Heap} {a : Array Value} {ls : Array Slot} {st0 rest : List Value}
variable {Qc : Array Value → State → Outcome → State → Prop} {XC : String → State → State → Prop}
set_option maxHeartbeats 1000000 in
theorem nx_throwS {cc : ByteArray} {pc : Nat} (hexec : p.tables.exec = Jvm.exec) (hb : c.code = cc) (hl : l.stackTraces = false) {own cls text : String} {names : List String} {ik is ic ix mc ms sa : Nat} {rx : ByteArray} {A : Nat → Prop}
    (x0 : decode rx 0 = .ok (.aload_n 0, 1)) (x1 : decode rx 1 = .ok (.aload_n 1, 1)) (x2 : decode rx 2 = .ok (.invokespecial ix, 3)) (x5 : decode rx 5 = .ok (.return_, 1)) (hown : s.vm.findClass own = some m.cls) (hcls : Bundle.fit cls = true) (hnames : ∀ n ∈ names, Bundle.fit n = true)
    (hk : (Cond.classLink own ik cls).before args s = true) (hini : (Cond.initialized cls).before args s = true) (hstr : vk_R own is text sa s) (hat : ∀ w ∈ (Bundle.ownAtomsX own ic cls ix rx names).filter vx_no, w.before args s = true)
    (hgood : ∀ w ∈ Cond.classLink own ik cls :: Cond.initialized cls :: (Bundle.ownAtomsX own ic cls ix rx names).filter vx_no, vx_ot w = true)
    (hU : vx_Zq Bundle.tN "UNASSIGNED_STACK" Bundle.steD A s s.heap) (hN : vx_Zq Bundle.tN "SUPPRESSED_SENTINEL" Bundle.listD A s s.heap) (hS : va_S A s.heap H locs) (hsize : ls.size = c.maxLocals)
    (d0 : decode cc pc = .ok (.new ik, 3)) (d3 : decode cc (pc + 3) = .ok (.dup, 1)) (d4 : decode cc (pc + 4) = .ok (.ldc is, 2)) (d6 : decode cc (pc + 6) = .ok (.invokespecial ic, 3)) (d9 : decode cc (pc + 9) = .ok (.athrow, 1))
    (hout : ∀ x ∈ c.exceptionTable.toList, covers x (pc + 9) = false)
    (hRframes : names.length + 3 < R.frames) (hRlocals : (rest.map fun v => v.category).sum + (13 * (names.length + 1) + 43) ≤ R.locals) (hRcells : cells + 1 ≤ R.cells) (hRslots : slots + 6 ≤ R.slots) (hlocks : meth.locks = false)
    (hx : ∀ t : State, s.vm.Alike t.vm → H.size ≤ t.heap.size → (∀ q : Nat, q < H.size → t.heap[q]? = H[q]?) → XC cls s t)
    (hf : ∀ z ∈ locs, free z.base) (hc : cells + 1 ≤ mc) (hs : slots + 6 ≤ ms) :
    W p l e R s m args below meth c H locs cells slots (vx_MQ below Qc XC args s mc ms free) (F0 m pc ls rest) := by
  intro T hT X
  have htr : e.platform.stackTraces = false := (show e.platform.stackTraces = l.stackTraces by rw [X.admits.platform]).trans hl
  have Y := vx_rebase X (R' := { frames := R.frames, locals := R.locals, cells := 1, slots := 6 }) (Nat.le_refl _) (Nat.le_refl _) hRcells hRslots
  obtain ⟨s', hA⟩ : ∃ z, z = (T.setVm s.vm).setFrames (.invoking m args :: below) := ⟨_, rfl⟩
  rw [← hA] at Y
  have hvm : s'.vm = s.vm := by rw [hA]; rfl
  have hhp : s'.heap = H := by rw [hA]; exact hT
  have hW0 : s.WarmedH s'.vm := by rw [hvm]; exact State.WarmedH.refl s
  have hat' : ∀ w ∈ (Bundle.ownAtomsX own ic cls ix rx names).filter vx_no, w.before args s' = true := fun w hw => vx_ot_at hW0 hvm.symm (hgood w (List.mem_cons_of_mem _ (List.mem_cons_of_mem _ hw))) (hat w hw)
  have hk' : (Cond.classLink own ik cls).before args s' = true := vx_ot_at hW0 hvm.symm (hgood _ List.mem_cons_self) hk
  have hini' : (Cond.initialized cls).before args s' = true := vx_ot_at hW0 hvm.symm (hgood _ (List.mem_cons_of_mem _ List.mem_cons_self)) hini
  have hU' : vx_Zq Bundle.tN "UNASSIGNED_STACK" Bundle.steD A s' s'.heap := by rw [hhp]; exact vx_Zq.moved hW0.alike (hU.kept hS.2.1)
  have hN' : vx_Zq Bundle.tN "SUPPRESSED_SENTINEL" Bundle.listD A s' s'.heap := by rw [hhp]; exact vx_Zq.moved hW0.alike (hN.kept hS.2.1)
  have h : ∀ w ∈ Bundle.ownAtomsX own ic cls ix rx names, w.before args s' = true := vx_own hat' (vx_isRefq hU'.1) (vx_isRefq hN'.1) hU'.2.word hN'.2.word
  have hown' : s'.vm.findClass own = some m.cls := by rw [hvm]; exact hown
  have hins : (Cond.instantiable cls 6).before args s' = true := h _ (by simp [Bundle.ownAtomsX])
  obtain ⟨vm₁, cX, kX, hfX, hkX, -, -, X₁, st1⟩ := Y.newCold hexec (own := own) (C := cls) (index := ik) (n := 6) hown' hk' hins hini'
    (g := F0 m pc ls rest) rfl (by rw [hb]; exact d0) (Nat.le_refl _) (Nat.le_refl _)
  generalize hT1 : (T.setVm vm₁).pushCell { cls := cX, slots := kX.instanceTypes.map defaultValue, vm := .none } = T1 at X₁ st1
  have hcat : (Value.ref T.heap.size).category = 1 := rfl
  have hcellA : T1.heap[T.heap.size]? = some (freshCell cX kX) := by rw [← hT1]; exact State.heap_pushCell_size _ _
  have d3' : decode c.code (pc + 3) = .ok (.dup, 1) := by rw [hb]; exact d3
  have d4' : decode c.code (pc + 4) = .ok (.ldc is, 2) := by rw [hb]; exact d4
  have hstr' : vk_R own is text sa s' := vk_R.warm hW0 hstr
  obtain ⟨U, hsteps, hrun, hend, hW, hsame, ce, hce, hOc, hOv⟩ := nx_ctor X₁ hexec htr x0 x1 x2 x5 (own := own) (cls := cls) (names := names) (ic := ic) hown' hcls hnames h (fun x hx => nomatch hx) hfX hkX hcellA (by rw [hhp, hT]; exact Nat.le_refl _) (msg := .ref sa) rfl
    (g := { method := m, pc := pc + 6, locals := ls, stack := .ref sa :: .ref T.heap.size :: .ref T.heap.size :: rest, locked := none }) rfl hsize rfl rfl (rest := rest) rfl
    (by rw [hb]; exact d6) (by rw [hb]; exact d9) hout hRframes (by simp only [List.map_cons, List.sum_cons, hcat]; omega) hlocks
  obtain ⟨f1, f2⟩ := vx_frame hsame
  rw [hhp] at f1 f2
  have hWs : s.WarmedH U.vm := State.WarmedH.trans hW0 hW
  have hcl : s.vm.findClass cls = some ce.cls := by
    have h9 := hOc
    rw [hvm] at h9
    exact h9
  have hall : s.sameButNew ({ U with vm := s.vm } : State) locs mc ms := by
    subst hA
    obtain ⟨e1, e2⟩ := hsame
    rw [State.setFrames_setFrames] at e1
    have h2 : (T.setVm s.vm).sameButNew ({ U with vm := s.vm } : State) [] (0 + 1) (0 + 6) := ⟨e1, e2⟩
    have h3 := X.same.trans h2
    rw [List.append_nil] at h3
    exact h3.mono hc hs
  refine ⟨U, ?_, .threw T.heap.size, hrun, hend, Or.inr ⟨T.heap.size, rfl, cls, ce, locs, hx U hWs.alike f1 (fun q hq => f2 q hq (fun z hz => nomatch hz)), hce, hOv, hcl, hWs, hall, hf⟩⟩
  refine st1 _ ?_
  show Steps p.tables e below (T1.setTop { method := m, pc := pc + 3, locals := ls, stack := .ref T.heap.size :: rest, locked := none }) _
  jvm_step X₁.here [X₁.here.top, hexec, d3', Value.category]
  exact X₁.ldcString hexec (own := own) (text := text) (index := is) (a := sa) hown' hstr'.1 hstr'.2
    (g := { method := m, pc := pc + 4, locals := ls, stack := .ref T.heap.size :: .ref T.heap.size :: rest, locked := none }) rfl d4' _ hsteps
set_option maxHeartbeats 1000000 in
theorem nx_throwSW {cc : ByteArray} {pc : Nat} (hexec : p.tables.exec = Jvm.exec) (hb : c.code = cc) (hl : l.stackTraces = false) {own cls text : String} {names : List String} {ik is ic ix mc ms sa : Nat} {rx : ByteArray} {A : Nat → Prop}
    (x0 : decode rx 0 = .ok (.aload_n 0, 1)) (x1 : decode rx 1 = .ok (.aload_n 1, 1)) (x2 : decode rx 2 = .ok (.invokespecial ix, 3)) (x5 : decode rx 5 = .ok (.return_, 1)) (hown : s.vm.findClass own = some m.cls) (hcls : Bundle.fit cls = true) (hnames : ∀ n ∈ names, Bundle.fit n = true)
    (hk : (Cond.classLink own ik cls).before args s = true) (hini : (Cond.initialized cls).before args s = true) (hstr : vk_R own is text sa s) (hat : ∀ w ∈ (Bundle.ownAtomsX own ic cls ix rx names).filter vx_no, w.before args s = true)
    (hgood : ∀ w ∈ Cond.classLink own ik cls :: Cond.initialized cls :: (Bundle.ownAtomsX own ic cls ix rx names).filter vx_no, vx_ot w = true)
    (hU : vx_Zq Bundle.tN "UNASSIGNED_STACK" Bundle.steD A s s.heap) (hN : vx_Zq Bundle.tN "SUPPRESSED_SENTINEL" Bundle.listD A s s.heap) (hS : va_S A s.heap H locs) (hsize : ls.size = c.maxLocals)
    (d0 : decode cc pc = .ok (.new ik, 3)) (d3 : decode cc (pc + 3) = .ok (.dup, 1)) (d4 : decode cc (pc + 4) = .ok (.ldc_w is, 3)) (d7 : decode cc (pc + 7) = .ok (.invokespecial ic, 3)) (d10 : decode cc (pc + 10) = .ok (.athrow, 1))
    (hout : ∀ x ∈ c.exceptionTable.toList, covers x (pc + 10) = false)
    (hRframes : names.length + 3 < R.frames) (hRlocals : (rest.map fun v => v.category).sum + (13 * (names.length + 1) + 43) ≤ R.locals) (hRcells : cells + 1 ≤ R.cells) (hRslots : slots + 6 ≤ R.slots) (hlocks : meth.locks = false)
    (hx : ∀ t : State, s.vm.Alike t.vm → H.size ≤ t.heap.size → (∀ q : Nat, q < H.size → t.heap[q]? = H[q]?) → XC cls s t)
    (hf : ∀ z ∈ locs, free z.base) (hc : cells + 1 ≤ mc) (hs : slots + 6 ≤ ms) :
    W p l e R s m args below meth c H locs cells slots (vx_MQ below Qc XC args s mc ms free) (F0 m pc ls rest) := by
  intro T hT X
  have htr : e.platform.stackTraces = false := (show e.platform.stackTraces = l.stackTraces by rw [X.admits.platform]).trans hl
  have Y := vx_rebase X (R' := { frames := R.frames, locals := R.locals, cells := 1, slots := 6 }) (Nat.le_refl _) (Nat.le_refl _) hRcells hRslots
  obtain ⟨s', hA⟩ : ∃ z, z = (T.setVm s.vm).setFrames (.invoking m args :: below) := ⟨_, rfl⟩
  rw [← hA] at Y
  have hvm : s'.vm = s.vm := by rw [hA]; rfl
  have hhp : s'.heap = H := by rw [hA]; exact hT
  have hW0 : s.WarmedH s'.vm := by rw [hvm]; exact State.WarmedH.refl s
  have hat' : ∀ w ∈ (Bundle.ownAtomsX own ic cls ix rx names).filter vx_no, w.before args s' = true := fun w hw => vx_ot_at hW0 hvm.symm (hgood w (List.mem_cons_of_mem _ (List.mem_cons_of_mem _ hw))) (hat w hw)
  have hk' : (Cond.classLink own ik cls).before args s' = true := vx_ot_at hW0 hvm.symm (hgood _ List.mem_cons_self) hk
  have hini' : (Cond.initialized cls).before args s' = true := vx_ot_at hW0 hvm.symm (hgood _ (List.mem_cons_of_mem _ List.mem_cons_self)) hini
  have hU' : vx_Zq Bundle.tN "UNASSIGNED_STACK" Bundle.steD A s' s'.heap := by rw [hhp]; exact vx_Zq.moved hW0.alike (hU.kept hS.2.1)
  have hN' : vx_Zq Bundle.tN "SUPPRESSED_SENTINEL" Bundle.listD A s' s'.heap := by rw [hhp]; exact vx_Zq.moved hW0.alike (hN.kept hS.2.1)
  have h : ∀ w ∈ Bundle.ownAtomsX own ic cls ix rx names, w.before args s' = true := vx_own hat' (vx_isRefq hU'.1) (vx_isRefq hN'.1) hU'.2.word hN'.2.word
  have hown' : s'.vm.findClass own = some m.cls := by rw [hvm]; exact hown
  have hins : (Cond.instantiable cls 6).before args s' = true := h _ (by simp [Bundle.ownAtomsX])
  obtain ⟨vm₁, cX, kX, hfX, hkX, -, -, X₁, st1⟩ := Y.newCold hexec (own := own) (C := cls) (index := ik) (n := 6) hown' hk' hins hini'
    (g := F0 m pc ls rest) rfl (by rw [hb]; exact d0) (Nat.le_refl _) (Nat.le_refl _)
  generalize hT1 : (T.setVm vm₁).pushCell { cls := cX, slots := kX.instanceTypes.map defaultValue, vm := .none } = T1 at X₁ st1
  have hcat : (Value.ref T.heap.size).category = 1 := rfl
  have hcellA : T1.heap[T.heap.size]? = some (freshCell cX kX) := by rw [← hT1]; exact State.heap_pushCell_size _ _
  have d3' : decode c.code (pc + 3) = .ok (.dup, 1) := by rw [hb]; exact d3
  have d4' : decode c.code (pc + 4) = .ok (.ldc_w is, 3) := by rw [hb]; exact d4
  have hstr' : vk_R own is text sa s' := vk_R.warm hW0 hstr
  obtain ⟨U, hsteps, hrun, hend, hW, hsame, ce, hce, hOc, hOv⟩ := nx_ctor X₁ hexec htr x0 x1 x2 x5 (own := own) (cls := cls) (names := names) (ic := ic) hown' hcls hnames h (fun x hx => nomatch hx) hfX hkX hcellA (by rw [hhp, hT]; exact Nat.le_refl _) (msg := .ref sa) rfl
    (g := { method := m, pc := pc + 7, locals := ls, stack := .ref sa :: .ref T.heap.size :: .ref T.heap.size :: rest, locked := none }) rfl hsize rfl rfl (rest := rest) rfl
    (by rw [hb]; exact d7) (by rw [hb]; exact d10) hout hRframes (by simp only [List.map_cons, List.sum_cons, hcat]; omega) hlocks
  obtain ⟨f1, f2⟩ := vx_frame hsame
  rw [hhp] at f1 f2
  have hWs : s.WarmedH U.vm := State.WarmedH.trans hW0 hW
  have hcl : s.vm.findClass cls = some ce.cls := by
    have h9 := hOc
    rw [hvm] at h9
    exact h9
  have hall : s.sameButNew ({ U with vm := s.vm } : State) locs mc ms := by
    subst hA
    obtain ⟨e1, e2⟩ := hsame
    rw [State.setFrames_setFrames] at e1
    have h2 : (T.setVm s.vm).sameButNew ({ U with vm := s.vm } : State) [] (0 + 1) (0 + 6) := ⟨e1, e2⟩
    have h3 := X.same.trans h2
    rw [List.append_nil] at h3
    exact h3.mono hc hs
  refine ⟨U, ?_, .threw T.heap.size, hrun, hend, Or.inr ⟨T.heap.size, rfl, cls, ce, locs, hx U hWs.alike f1 (fun q hq => f2 q hq (fun z hz => nomatch hz)), hce, hOv, hcl, hWs, hall, hf⟩⟩
  refine st1 _ ?_
  show Steps p.tables e below (T1.setTop { method := m, pc := pc + 3, locals := ls, stack := .ref T.heap.size :: rest, locked := none }) _
  jvm_step X₁.here [X₁.here.top, hexec, d3', Value.category]
  exact X₁.ldcStringW hexec (own := own) (text := text) (index := is) (a := sa) hown' hstr'.1 hstr'.2
    (g := { method := m, pc := pc + 4, locals := ls, stack := .ref T.heap.size :: .ref T.heap.size :: rest, locked := none }) rfl d4' _ hsteps
end NXT
end
section
/-! laid by wip/p1/gen3.py: the words of the throws -/
def xw (w : Cond) : Prop := vx_no w = true → w ∈ lw_tbl ∧ gwOK w = true
theorem xw_in {w : Cond} (h : w ∈ lw_tbl) (g : gwOK w = true) : xw w := fun _ => ⟨h, g⟩
theorem xw_no {w : Cond} (h : vx_no w = false) : xw w := fun q => absurd (q.symm.trans h) (by decide)
theorem xw_thr : ∀ w ∈ Bundle.throwableAtoms, xw w := List.forall_mem_cons.mpr ⟨xw_in (in_t1 (List.mem_of_getElem? (i := 12) rfl)) rfl, List.forall_mem_cons.mpr ⟨xw_in (in_t3 (List.mem_of_getElem? (i := 94) rfl)) rfl, List.forall_mem_cons.mpr ⟨xw_in (in_t3 (List.mem_of_getElem? (i := 103) rfl)) rfl, List.forall_mem_cons.mpr ⟨xw_in (in_t3 (List.mem_of_getElem? (i := 108) rfl)) rfl, List.forall_mem_cons.mpr ⟨xw_in (in_t3 (List.mem_of_getElem? (i := 111) rfl)) rfl, List.forall_mem_cons.mpr ⟨xw_in (in_t3 (List.mem_of_getElem? (i := 113) rfl)) rfl, List.forall_mem_cons.mpr ⟨xw_in (in_t3 (List.mem_of_getElem? (i := 95) rfl)) rfl, List.forall_mem_cons.mpr ⟨xw_in (in_t3 (List.mem_of_getElem? (i := 96) rfl)) rfl, List.forall_mem_cons.mpr ⟨xw_in (in_t1 (List.mem_of_getElem? (i := 29) rfl)) rfl, List.forall_mem_cons.mpr ⟨xw_in (in_t1 (List.mem_of_getElem? (i := 30) rfl)) rfl, List.forall_mem_cons.mpr ⟨xw_in (in_t3 (List.mem_of_getElem? (i := 97) rfl)) rfl, List.forall_mem_cons.mpr ⟨xw_in (in_t3 (List.mem_of_getElem? (i := 102) rfl)) rfl, List.forall_mem_cons.mpr ⟨xw_in (in_t3 (List.mem_of_getElem? (i := 109) rfl)) rfl, List.forall_mem_cons.mpr ⟨xw_in (in_t3 (List.mem_of_getElem? (i := 129) rfl)) rfl, List.forall_mem_cons.mpr ⟨xw_in (in_t3 (List.mem_of_getElem? (i := 84) rfl)) rfl, List.forall_mem_cons.mpr ⟨xw_in (in_t3 (List.mem_of_getElem? (i := 130) rfl)) rfl, List.forall_mem_cons.mpr ⟨xw_in (in_t3 (List.mem_of_getElem? (i := 86) rfl)) rfl, List.forall_mem_cons.mpr ⟨xw_in (in_t3 (List.mem_of_getElem? (i := 131) rfl)) rfl, List.forall_mem_cons.mpr ⟨xw_in (in_t3 (List.mem_of_getElem? (i := 88) rfl)) rfl, List.forall_mem_cons.mpr ⟨xw_in (in_t3 (List.mem_of_getElem? (i := 98) rfl)) rfl, List.forall_mem_cons.mpr ⟨xw_no (by first | rfl | decide +kernel | simp [vx_no]), List.forall_mem_cons.mpr ⟨xw_in (in_t3 (List.mem_of_getElem? (i := 100) rfl)) rfl, List.forall_mem_cons.mpr ⟨xw_no (by first | rfl | decide +kernel | simp [vx_no]), List.forall_mem_cons.mpr ⟨xw_in (in_t3 (List.mem_of_getElem? (i := 90) rfl)) rfl, fun _ h => absurd h List.not_mem_nil⟩⟩⟩⟩⟩⟩⟩⟩⟩⟩⟩⟩⟩⟩⟩⟩⟩⟩⟩⟩⟩⟩⟩⟩
theorem xw_thS : ∀ w ∈ Bundle.throwableSAtoms, xw w := List.forall_mem_cons.mpr ⟨xw_in (in_t3 (List.mem_of_getElem? (i := 125) rfl)) rfl, List.forall_mem_cons.mpr ⟨xw_in (in_t3 (List.mem_of_getElem? (i := 126) rfl)) rfl, List.forall_mem_cons.mpr ⟨xw_in (in_t3 (List.mem_of_getElem? (i := 128) rfl)) rfl, List.forall_mem_cons.mpr ⟨xw_in (in_t3 (List.mem_of_getElem? (i := 90) rfl)) rfl, fun _ h => absurd h List.not_mem_nil⟩⟩⟩⟩
theorem xw_re : ∀ w ∈ Bundle.chainSAtoms "java/lang/RuntimeException" ["java/lang/Exception"], xw w := List.forall_mem_append.mpr ⟨List.forall_mem_cons.mpr ⟨xw_in (in_t3 (List.mem_of_getElem? (i := 119) rfl)) rfl, List.forall_mem_cons.mpr ⟨xw_in (in_t3 (List.mem_of_getElem? (i := 120) rfl)) rfl, List.forall_mem_cons.mpr ⟨xw_in (in_t3 (List.mem_of_getElem? (i := 121) rfl)) rfl, List.forall_mem_cons.mpr ⟨xw_in (in_t3 (List.mem_of_getElem? (i := 122) rfl)) rfl, List.forall_mem_cons.mpr ⟨xw_in (in_t3 (List.mem_of_getElem? (i := 78) rfl)) rfl, fun _ h => absurd h List.not_mem_nil⟩⟩⟩⟩⟩, List.forall_mem_cons.mpr ⟨xw_in (in_t3 (List.mem_of_getElem? (i := 122) rfl)) rfl, List.forall_mem_cons.mpr ⟨xw_in (in_t3 (List.mem_of_getElem? (i := 123) rfl)) rfl, List.forall_mem_cons.mpr ⟨xw_in (in_t3 (List.mem_of_getElem? (i := 124) rfl)) rfl, List.forall_mem_cons.mpr ⟨xw_in (in_t3 (List.mem_of_getElem? (i := 125) rfl)) rfl, List.forall_mem_cons.mpr ⟨xw_in (in_t3 (List.mem_of_getElem? (i := 80) rfl)) rfl, fun _ h => absurd h List.not_mem_nil⟩⟩⟩⟩⟩⟩
theorem xw_0 : ∀ w ∈ Bundle.ownAtomsX RX9 87 "java/lang/IllegalArgumentException" 7 prog_15_method_2_code xup, xw w := List.forall_mem_append.mpr ⟨List.forall_mem_append.mpr ⟨List.forall_mem_append.mpr ⟨xw_thr, xw_thS⟩, List.forall_mem_append.mpr ⟨List.forall_mem_cons.mpr ⟨xw_in (in_t3 (List.mem_of_getElem? (i := 116) rfl)) rfl, List.forall_mem_cons.mpr ⟨xw_in (in_t3 (List.mem_of_getElem? (i := 117) rfl)) rfl, List.forall_mem_cons.mpr ⟨xw_in (in_t3 (List.mem_of_getElem? (i := 118) rfl)) rfl, List.forall_mem_cons.mpr ⟨xw_in (in_t3 (List.mem_of_getElem? (i := 119) rfl)) rfl, List.forall_mem_cons.mpr ⟨xw_in (in_t3 (List.mem_of_getElem? (i := 76) rfl)) rfl, fun _ h => absurd h List.not_mem_nil⟩⟩⟩⟩⟩, xw_re⟩⟩, List.forall_mem_cons.mpr ⟨xw_in (in_t3 (List.mem_of_getElem? (i := 115) rfl)) rfl, List.forall_mem_cons.mpr ⟨xw_in (in_t3 (List.mem_of_getElem? (i := 73) rfl)) rfl, List.forall_mem_cons.mpr ⟨xw_in (in_t3 (List.mem_of_getElem? (i := 74) rfl)) rfl, List.forall_mem_cons.mpr ⟨xw_in (in_t3 (List.mem_of_getElem? (i := 81) rfl)) rfl, List.forall_mem_cons.mpr ⟨xw_in (in_t3 (List.mem_of_getElem? (i := 82) rfl)) rfl, List.forall_mem_cons.mpr ⟨xw_in (in_t3 (List.mem_of_getElem? (i := 83) rfl)) rfl, List.forall_mem_cons.mpr ⟨xw_in (in_t3 (List.mem_of_getElem? (i := 85) rfl)) rfl, List.forall_mem_cons.mpr ⟨xw_in (in_t3 (List.mem_of_getElem? (i := 87) rfl)) rfl, List.forall_mem_cons.mpr ⟨xw_in (in_t3 (List.mem_of_getElem? (i := 89) rfl)) rfl, List.forall_mem_cons.mpr ⟨xw_no (by first | rfl | decide +kernel | simp [vx_no]), List.forall_mem_cons.mpr ⟨xw_no (by first | rfl | decide +kernel | simp [vx_no]), List.forall_mem_cons.mpr ⟨xw_in (in_t3 (List.mem_of_getElem? (i := 93) rfl)) rfl, List.forall_mem_cons.mpr ⟨xw_in (in_t3 (List.mem_of_getElem? (i := 92) rfl)) rfl, List.forall_mem_cons.mpr ⟨xw_in (in_t3 (List.mem_of_getElem? (i := 91) rfl)) rfl, fun _ h => absurd h List.not_mem_nil⟩⟩⟩⟩⟩⟩⟩⟩⟩⟩⟩⟩⟩⟩⟩
theorem xw_1 : ∀ w ∈ Bundle.ownAtomsX RX9 109 "java/lang/IllegalStateException" 7 prog_16_method_2_code xup, xw w := List.forall_mem_append.mpr ⟨List.forall_mem_append.mpr ⟨List.forall_mem_append.mpr ⟨xw_thr, xw_thS⟩, List.forall_mem_append.mpr ⟨List.forall_mem_cons.mpr ⟨xw_in (in_t3 (List.mem_of_getElem? (i := 156) rfl)) rfl, List.forall_mem_cons.mpr ⟨xw_in (in_t3 (List.mem_of_getElem? (i := 157) rfl)) rfl, List.forall_mem_cons.mpr ⟨xw_in (in_t3 (List.mem_of_getElem? (i := 158) rfl)) rfl, List.forall_mem_cons.mpr ⟨xw_in (in_t3 (List.mem_of_getElem? (i := 119) rfl)) rfl, List.forall_mem_cons.mpr ⟨xw_in (in_t3 (List.mem_of_getElem? (i := 76) rfl)) rfl, fun _ h => absurd h List.not_mem_nil⟩⟩⟩⟩⟩, xw_re⟩⟩, List.forall_mem_cons.mpr ⟨xw_in (in_t3 (List.mem_of_getElem? (i := 155) rfl)) rfl, List.forall_mem_cons.mpr ⟨xw_in (in_t3 (List.mem_of_getElem? (i := 146) rfl)) rfl, List.forall_mem_cons.mpr ⟨xw_in (in_t3 (List.mem_of_getElem? (i := 147) rfl)) rfl, List.forall_mem_cons.mpr ⟨xw_in (in_t3 (List.mem_of_getElem? (i := 148) rfl)) rfl, List.forall_mem_cons.mpr ⟨xw_in (in_t3 (List.mem_of_getElem? (i := 105) rfl)) rfl, List.forall_mem_cons.mpr ⟨xw_in (in_t3 (List.mem_of_getElem? (i := 149) rfl)) rfl, List.forall_mem_cons.mpr ⟨xw_in (in_t3 (List.mem_of_getElem? (i := 150) rfl)) rfl, List.forall_mem_cons.mpr ⟨xw_in (in_t3 (List.mem_of_getElem? (i := 151) rfl)) rfl, List.forall_mem_cons.mpr ⟨xw_in (in_t3 (List.mem_of_getElem? (i := 152) rfl)) rfl, List.forall_mem_cons.mpr ⟨xw_no (by first | rfl | decide +kernel | simp [vx_no]), List.forall_mem_cons.mpr ⟨xw_no (by first | rfl | decide +kernel | simp [vx_no]), List.forall_mem_cons.mpr ⟨xw_in (in_t3 (List.mem_of_getElem? (i := 93) rfl)) rfl, List.forall_mem_cons.mpr ⟨xw_in (in_t3 (List.mem_of_getElem? (i := 92) rfl)) rfl, List.forall_mem_cons.mpr ⟨xw_in (in_t3 (List.mem_of_getElem? (i := 153) rfl)) rfl, fun _ h => absurd h List.not_mem_nil⟩⟩⟩⟩⟩⟩⟩⟩⟩⟩⟩⟩⟩⟩⟩
theorem xw_2 : ∀ w ∈ Bundle.ownAtomsX RX9 430 "java/lang/IndexOutOfBoundsException" 7 prog_17_method_2_code xup, xw w := List.forall_mem_append.mpr ⟨List.forall_mem_append.mpr ⟨List.forall_mem_append.mpr ⟨xw_thr, xw_thS⟩, List.forall_mem_append.mpr ⟨List.forall_mem_cons.mpr ⟨xw_in (in_t3 (List.mem_of_getElem? (i := 215) rfl)) rfl, List.forall_mem_cons.mpr ⟨xw_in (in_t3 (List.mem_of_getElem? (i := 216) rfl)) rfl, List.forall_mem_cons.mpr ⟨xw_in (in_t3 (List.mem_of_getElem? (i := 217) rfl)) rfl, List.forall_mem_cons.mpr ⟨xw_in (in_t3 (List.mem_of_getElem? (i := 119) rfl)) rfl, List.forall_mem_cons.mpr ⟨xw_in (in_t3 (List.mem_of_getElem? (i := 76) rfl)) rfl, fun _ h => absurd h List.not_mem_nil⟩⟩⟩⟩⟩, xw_re⟩⟩, List.forall_mem_cons.mpr ⟨xw_in (in_t3 (List.mem_of_getElem? (i := 214) rfl)) rfl, List.forall_mem_cons.mpr ⟨xw_in (in_t3 (List.mem_of_getElem? (i := 205) rfl)) rfl, List.forall_mem_cons.mpr ⟨xw_in (in_t3 (List.mem_of_getElem? (i := 206) rfl)) rfl, List.forall_mem_cons.mpr ⟨xw_in (in_t3 (List.mem_of_getElem? (i := 207) rfl)) rfl, List.forall_mem_cons.mpr ⟨xw_in (in_t3 (List.mem_of_getElem? (i := 106) rfl)) rfl, List.forall_mem_cons.mpr ⟨xw_in (in_t3 (List.mem_of_getElem? (i := 208) rfl)) rfl, List.forall_mem_cons.mpr ⟨xw_in (in_t3 (List.mem_of_getElem? (i := 209) rfl)) rfl, List.forall_mem_cons.mpr ⟨xw_in (in_t3 (List.mem_of_getElem? (i := 210) rfl)) rfl, List.forall_mem_cons.mpr ⟨xw_in (in_t3 (List.mem_of_getElem? (i := 211) rfl)) rfl, List.forall_mem_cons.mpr ⟨xw_no (by first | rfl | decide +kernel | simp [vx_no]), List.forall_mem_cons.mpr ⟨xw_no (by first | rfl | decide +kernel | simp [vx_no]), List.forall_mem_cons.mpr ⟨xw_in (in_t3 (List.mem_of_getElem? (i := 93) rfl)) rfl, List.forall_mem_cons.mpr ⟨xw_in (in_t3 (List.mem_of_getElem? (i := 92) rfl)) rfl, List.forall_mem_cons.mpr ⟨xw_in (in_t3 (List.mem_of_getElem? (i := 212) rfl)) rfl, fun _ h => absurd h List.not_mem_nil⟩⟩⟩⟩⟩⟩⟩⟩⟩⟩⟩⟩⟩⟩⟩
theorem xw_3 : ∀ w ∈ Bundle.ownAtomsX RX9 443 "java/util/NoSuchElementException" 13 prog_25_method_4_code xup, xw w := List.forall_mem_append.mpr ⟨List.forall_mem_append.mpr ⟨List.forall_mem_append.mpr ⟨xw_thr, xw_thS⟩, List.forall_mem_append.mpr ⟨List.forall_mem_cons.mpr ⟨xw_in (in_t4 (List.mem_of_getElem? (i := 29) rfl)) rfl, List.forall_mem_cons.mpr ⟨xw_in (in_t4 (List.mem_of_getElem? (i := 30) rfl)) rfl, List.forall_mem_cons.mpr ⟨xw_in (in_t4 (List.mem_of_getElem? (i := 31) rfl)) rfl, List.forall_mem_cons.mpr ⟨xw_in (in_t3 (List.mem_of_getElem? (i := 119) rfl)) rfl, List.forall_mem_cons.mpr ⟨xw_in (in_t3 (List.mem_of_getElem? (i := 76) rfl)) rfl, fun _ h => absurd h List.not_mem_nil⟩⟩⟩⟩⟩, xw_re⟩⟩, List.forall_mem_cons.mpr ⟨xw_in (in_t4 (List.mem_of_getElem? (i := 28) rfl)) rfl, List.forall_mem_cons.mpr ⟨xw_in (in_t4 (List.mem_of_getElem? (i := 19) rfl)) rfl, List.forall_mem_cons.mpr ⟨xw_in (in_t4 (List.mem_of_getElem? (i := 20) rfl)) rfl, List.forall_mem_cons.mpr ⟨xw_in (in_t4 (List.mem_of_getElem? (i := 21) rfl)) rfl, List.forall_mem_cons.mpr ⟨xw_in (in_t3 (List.mem_of_getElem? (i := 107) rfl)) rfl, List.forall_mem_cons.mpr ⟨xw_in (in_t4 (List.mem_of_getElem? (i := 22) rfl)) rfl, List.forall_mem_cons.mpr ⟨xw_in (in_t4 (List.mem_of_getElem? (i := 23) rfl)) rfl, List.forall_mem_cons.mpr ⟨xw_in (in_t4 (List.mem_of_getElem? (i := 24) rfl)) rfl, List.forall_mem_cons.mpr ⟨xw_in (in_t4 (List.mem_of_getElem? (i := 25) rfl)) rfl, List.forall_mem_cons.mpr ⟨xw_no (by first | rfl | decide +kernel | simp [vx_no]), List.forall_mem_cons.mpr ⟨xw_no (by first | rfl | decide +kernel | simp [vx_no]), List.forall_mem_cons.mpr ⟨xw_in (in_t3 (List.mem_of_getElem? (i := 93) rfl)) rfl, List.forall_mem_cons.mpr ⟨xw_in (in_t3 (List.mem_of_getElem? (i := 92) rfl)) rfl, List.forall_mem_cons.mpr ⟨xw_in (in_t4 (List.mem_of_getElem? (i := 26) rfl)) rfl, fun _ h => absurd h List.not_mem_nil⟩⟩⟩⟩⟩⟩⟩⟩⟩⟩⟩⟩⟩⟩⟩
def xix (e : Nat) : Nat := match e with
  | 0 => 7
  | 1 => 7
  | 2 => 7
  | 3 => 13
  | _ => 0
def xrx (e : Nat) : ByteArray := match e with
  | 0 => prog_15_method_2_code
  | 1 => prog_16_method_2_code
  | 2 => prog_17_method_2_code
  | 3 => prog_25_method_4_code
  | _ => ByteArray.empty
theorem xw_all : ∀ e, e < 4 → ∀ w ∈ Bundle.ownAtomsX RX9 (xic e) (xnm.getD e "") (xix e) (xrx e) xup, xw w
  | 0, _ => xw_0
  | 1, _ => xw_1
  | 2, _ => xw_2
  | 3, _ => xw_3
  | n + 4, h => absurd h (by omega)
theorem xfit : ∀ e, e < 4 → Bundle.fit (xnm.getD e "") = true := by decide +kernel
theorem xfit2 : ∀ n ∈ xup, Bundle.fit n = true := by decide +kernel
theorem xd0 : ∀ e, e < 4 → decode (xrx e) 0 = .ok (.aload_n 0, 1) := by decide +kernel
theorem xd1 : ∀ e, e < 4 → decode (xrx e) 1 = .ok (.aload_n 1, 1) := by decide +kernel
theorem xd2 : ∀ e, e < 4 → decode (xrx e) 2 = .ok (.invokespecial (xix e), 3) := by decide +kernel
theorem xd5 : ∀ e, e < 4 → decode (xrx e) 5 = .ok (.return_, 1) := by decide +kernel
end

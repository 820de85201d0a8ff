/-! the pure machine run with unknown arguments: numbers by ranges, an argument by its place; ways are split at what is asked of an argument -/
abbrev AN : Type := Nat × Int × Int
abbrev AV : Type := Value ⊕ AN
abbrev AE : Type := (Nat × List AV) ⊕ (Nat × List AV)
abbrev AH : Type := List AE
abbrev AL : Type := List (Nat × AV)
abbrev EV : Type := List (Int × Int)
abbrev AO : Type := EV × (Option AV ⊕ Nat) × AH
def iTop : Int × Int := (-2147483648, 2147483647)
def aRng (env : EV) (v : AN) : Int × Int := match v.1 with
  | 0 => v.2
  | t + 1 => env.getD t iTop
def aK (z : Int) : AV := .inr (0, z, z)
/-- what the machine's arithmetic makes of numbers that are known -/
def bin (f : Int32 → Int32 → Int32) (x y : Int) : Int := (f (Int32.ofInt x) (Int32.ofInt y)).toInt
def inI (lo hi : Int) : Bool := decide (-2147483648 ≤ lo) && decide (hi ≤ 2147483647)
/-- a way is split: an argument's range in pieces -/
def cutAt (env : EV) (t : Nat) (z : Int) : List EV := match env[t]? with
  | none => []
  | some r => ([(r.1, min (z - 1) r.2), (max z r.1, min z r.2), (max (z + 1) r.1, r.2)].filter (fun q => decide (q.1 ≤ q.2))).map (fun q => env.set t q)
def cutAll (env : EV) (t : Nat) : List EV := match env[t]? with
  | none => []
  | some r => if r.2 - r.1 < 64 then (List.range (r.2 - r.1 + 1).toNat).map (fun i : Nat => env.set t (r.1 + (i : Int), r.1 + (i : Int))) else []
/-- one of: ways that go on here; a place with locals, stack, heap, cells, slots; a call; an end -/
abbrev AR : Type := Option (List EV ⊕ (Nat × AL × List AV × AH × Nat × Nat) ⊕ (Nat × Bool) ⊕ (Option AV ⊕ Nat))
def rGo (pc : Nat) (lv : AL) (st : List AV) (h : AH) (c s : Nat) : AR := some (.inr (.inl (pc, lv, st, h, c, s)))
def rCut (l : List EV) : AR := if l.length ≤ 1 then none else some (.inl l)
def ag (lv : AL) (i : Nat) : Option AV := (lv.find? (fun q => q.1 == i)).map (fun q => q.2)
def aCat (v : AV) : Nat := match v with
  | .inl v => v.category
  | .inr _ => 1
def as1 (lv : AL) (i : Nat) (v : AV) : AL := (i, v) :: lv.filter (fun q => !(q.1 == i) && !(q.1 + 1 == i && aCat q.2 == 2))
def aCmp (c : ClassFile.Cond) (x y : Int × Int) : Option Bool := match c with
  | .eq => if x.2 < y.1 ∨ y.2 < x.1 then some false else if x.1 = x.2 ∧ y.1 = y.2 ∧ x.1 = y.1 then some true else none
  | .ne => if x.2 < y.1 ∨ y.2 < x.1 then some true else if x.1 = x.2 ∧ y.1 = y.2 ∧ x.1 = y.1 then some false else none
  | .lt => if x.2 < y.1 then some true else if y.2 ≤ x.1 then some false else none
  | .ge => if x.2 < y.1 then some false else if y.2 ≤ x.1 then some true else none
  | .gt => if y.2 < x.1 then some true else if x.2 ≤ y.1 then some false else none
  | .le => if y.2 < x.1 then some false else if x.2 ≤ y.1 then some true else none
def aBr (env : EV) (c : ClassFile.Cond) (x y : AN) (t f : AR) : AR := match aCmp c (aRng env x) (aRng env y) with
  | some true => t
  | some false => f
  | none => match x.1, y.1 with
    | tx + 1, _ => if (aRng env y).1 = (aRng env y).2 then rCut (cutAt env tx (aRng env y).1) else rCut (cutAll env tx)
    | 0, ty + 1 => if (aRng env x).1 = (aRng env x).2 then rCut (cutAt env ty (aRng env x).1) else rCut (cutAll env ty)
    | 0, 0 => none
def aSum (sp : Bool) (env : EV) (x y : AN) (lo hi : Int) (f : Int32 → Int32 → Int32) (k : AV → AR) : AR :=
  let rx := aRng env x; let ry := aRng env y
  if rx.1 = rx.2 ∧ ry.1 = ry.2 then k (aK (bin f rx.1 ry.1)) else
  if sp = true ∧ x.1 ≠ 0 ∧ ¬ rx.1 = rx.2 then rCut (cutAll env (x.1 - 1)) else
  if sp = true ∧ y.1 ≠ 0 ∧ ¬ ry.1 = ry.2 then rCut (cutAll env (y.1 - 1)) else
  if inI lo hi then k (.inr (0, lo, hi)) else k (.inr (0, iTop))
def aAny (env : EV) (x y : AN) (f : Int32 → Int32 → Int32) (k : AV → AR) : AR :=
  let rx := aRng env x; let ry := aRng env y
  if rx.1 = rx.2 ∧ ry.1 = ry.2 then k (aK (bin f rx.1 ry.1)) else k (.inr (0, iTop))
def lo4 (a b c d : Int) : Int := min (min a b) (min c d)
def hi4 (a b c d : Int) : Int := max (max a b) (max c d)
def aIdx (env : EV) (x : AN) (n : Nat) (k : Nat → AR) : AR :=
  let r := aRng env x
  if r.1 = r.2 then (if 0 ≤ r.1 ∧ r.1 < n then k r.1.toNat else none) else match x.1 with
  | 0 => none
  | t + 1 => rCut (cutAll env t)
def aI (sp : Bool) (L : Nat) (M : PM) (hd : List (Nat × Nat × Nat × Int)) (env : EV) (te : TE) (lv : AL) (st : List AV) (h : AH) (c s : Nat) : AR :=
  match te.2.1, st with
  | .iconst z, _ => rGo (te.1 + 1) lv (aK (Int32.ofInt z).toInt :: st) h c s
  | .bipush z, _ => rGo (te.1 + 2) lv (aK (Int8.ofInt z).toInt32.toInt :: st) h c s
  | .sipush z, _ => rGo (te.1 + 3) lv (aK (Int16.ofInt z).toInt32.toInt :: st) h c s
  | .lconst n, _ => rGo (te.1 + 1) lv (.inl (.long (Int64.ofNat n)) :: st) h c s
  | .ldc _, _ => match KLs[te.2.2.1]? with
    | some q => if te.2.2.2 = 0 then rGo (te.1 + 2) lv (aK q.2.2.toInt :: st) h c s else none
    | none => none
  | .ldc_w _, _ => match KLs[te.2.2.1]? with
    | some q => if te.2.2.2 = 0 then rGo (te.1 + 3) lv (aK q.2.2.toInt :: st) h c s else none
    | none => none
  | .iload i, _ => match ag lv i with
    | some (.inr x) => rGo (te.1 + 2) lv (.inr x :: st) h c s
    | _ => none
  | .iload_n i, _ => match ag lv i with
    | some (.inr x) => rGo (te.1 + 1) lv (.inr x :: st) h c s
    | _ => none
  | .aload i, _ => match ag lv i with
    | some (.inl (.ref a)) => rGo (te.1 + 2) lv (.inl (.ref a) :: st) h c s
    | some (.inl (.retAddr a)) => rGo (te.1 + 2) lv (.inl (.retAddr a) :: st) h c s
    | _ => none
  | .aload_n i, _ => match ag lv i with
    | some (.inl (.ref a)) => rGo (te.1 + 1) lv (.inl (.ref a) :: st) h c s
    | some (.inl (.retAddr a)) => rGo (te.1 + 1) lv (.inl (.retAddr a) :: st) h c s
    | _ => none
  | .istore i, .inr x :: r => if i < pL M then rGo (te.1 + 2) (as1 lv i (.inr x)) r h c s else none
  | .istore_n i, .inr x :: r => if (i : Nat) < pL M then rGo (te.1 + 1) (as1 lv i (.inr x)) r h c s else none
  | .astore i, .inl (.ref x) :: r => if i < pL M then rGo (te.1 + 2) (as1 lv i (.inl (.ref x))) r h c s else none
  | .astore_n i, .inl (.ref x) :: r => if (i : Nat) < pL M then rGo (te.1 + 1) (as1 lv i (.inl (.ref x))) r h c s else none
  | .iinc i z, _ => match ag lv i with
    | some (.inr x) => if i < pL M ∧ inI z z = true then aSum sp env x (0, z, z) ((aRng env x).1 + z) ((aRng env x).2 + z) (· + ·) (fun v => rGo (te.1 + 3) (as1 lv i v) st h c s) else none
    | _ => none
  | .iadd, .inr y :: .inr x :: r => aSum sp env x y ((aRng env x).1 + (aRng env y).1) ((aRng env x).2 + (aRng env y).2) (· + ·) (fun v => rGo (te.1 + 1) lv (v :: r) h c s)
  | .isub, .inr y :: .inr x :: r => aSum sp env x y ((aRng env x).1 - (aRng env y).2) ((aRng env x).2 - (aRng env y).1) (· - ·) (fun v => rGo (te.1 + 1) lv (v :: r) h c s)
  | .imul, .inr y :: .inr x :: r =>
    let rx := aRng env x; let ry := aRng env y
    if (rx.1 = rx.2 ∧ ry.1 = ry.2) then rGo (te.1 + 1) lv (aK (bin (· * ·) rx.1 ry.1) :: r) h c s else
    let lo := lo4 (rx.1 * ry.1) (rx.1 * ry.2) (rx.2 * ry.1) (rx.2 * ry.2)
    let hi := hi4 (rx.1 * ry.1) (rx.1 * ry.2) (rx.2 * ry.1) (rx.2 * ry.2)
    if sp = true ∧ ¬ rx.1 = rx.2 ∧ ¬ ry.1 = ry.2 ∧ x.1 ≠ 0 then rCut (cutAll env (x.1 - 1)) else
    if sp = true ∧ ¬ rx.1 = rx.2 ∧ ¬ ry.1 = ry.2 ∧ y.1 ≠ 0 then rCut (cutAll env (y.1 - 1)) else
    if inI lo hi then rGo (te.1 + 1) lv (.inr (0, lo, hi) :: r) h c s else rGo (te.1 + 1) lv (.inr (0, iTop) :: r) h c s
  | .idiv, .inr y :: .inr x :: r => if 0 < (aRng env y).1 ∨ (aRng env y).2 < 0 then aAny env x y (· / ·) (fun v => rGo (te.1 + 1) lv (v :: r) h c s) else none
  | .irem, .inr y :: .inr x :: r => if 0 < (aRng env y).1 ∨ (aRng env y).2 < 0 then aAny env x y (fun x y => x - x / y * y) (fun v => rGo (te.1 + 1) lv (v :: r) h c s) else none
  | .ineg, .inr x :: r => aAny env x (0, 0, 0) (fun x _ => -x) (fun v => rGo (te.1 + 1) lv (v :: r) h c s)
  | .ishl, .inr y :: .inr x :: r => aAny env x y (fun x y => x <<< (y &&& 31)) (fun v => rGo (te.1 + 1) lv (v :: r) h c s)
  | .ishr, .inr y :: .inr x :: r => aAny env x y (fun x y => x >>> (y &&& 31)) (fun v => rGo (te.1 + 1) lv (v :: r) h c s)
  | .iand, .inr y :: .inr x :: r => aAny env x y (· &&& ·) (fun v => rGo (te.1 + 1) lv (v :: r) h c s)
  | .ior, .inr y :: .inr x :: r => aAny env x y (· ||| ·) (fun v => rGo (te.1 + 1) lv (v :: r) h c s)
  | .ixor, .inr y :: .inr x :: r => aAny env x y (· ^^^ ·) (fun v => rGo (te.1 + 1) lv (v :: r) h c s)
  | .i2l, .inr x :: r => if (aRng env x).1 = (aRng env x).2 then rGo (te.1 + 1) lv (.inl (.long (Int32.ofInt (aRng env x).1).toInt64) :: r) h c s else (match x.1 with
    | 0 => none
    | t + 1 => rCut (cutAll env t))
  | .lcmp, .inl (.long y) :: .inl (.long x) :: r => rGo (te.1 + 1) lv (aK (lg_cmp x y).toInt :: r) h c s
  | .dup, v :: r => if aCat v = 1 then rGo (te.1 + 1) lv (v :: v :: r) h c s else none
  | .dup2, v :: w :: r => if aCat v = 1 ∧ aCat w = 1 then rGo (te.1 + 1) lv (v :: w :: v :: w :: r) h c s else none
  | .pop, v :: r => if aCat v = 1 then rGo (te.1 + 1) lv r h c s else none
  | .goto z, _ => if 0 ≤ (te.1 : Int) + z then rGo ((te.1 : Int) + z).toNat lv st h c s else none
  | .ifCond cc z, .inr x :: r => if 0 ≤ (te.1 : Int) + z then aBr env cc x (0, 0, 0) (rGo ((te.1 : Int) + z).toNat lv r h c s) (rGo (te.1 + 3) lv r h c s) else none
  | .if_icmp cc z, .inr y :: .inr x :: r => if 0 ≤ (te.1 : Int) + z then aBr env cc x y (rGo ((te.1 : Int) + z).toNat lv r h c s) (rGo (te.1 + 3) lv r h c s) else none
  | .tableswitch d lo hi offs, .inr x :: r =>
    let rx := aRng env x
    if rx.2 < lo ∨ hi < rx.1 then (if 0 ≤ (te.1 : Int) + d then rGo ((te.1 : Int) + d).toNat lv r h c s else none) else
    if rx.1 = rx.2 then (match offs[(rx.1 - lo).toNat]? with
      | some off => if 0 ≤ (te.1 : Int) + off then rGo ((te.1 : Int) + off).toNat lv r h c s else none
      | none => none) else match x.1 with
    | 0 => none
    | t + 1 => if rx.1 < lo then rCut (cutAt env t lo) else if hi < rx.2 then rCut (cutAt env t hi) else rCut (cutAll env t)
  | .iaload, .inr i :: .inl (.ref a) :: r => (match h[a]? with
    | some (.inl (0, l)) => aIdx env i l.length (fun j => match l[j]? with
      | some (.inr x) => rGo (te.1 + 1) lv (.inr x :: r) h c s
      | _ => none)
    | _ => none)
  | .iaload, .inr i :: .inl (.retAddr _) :: r => aIdx env i L (fun j => rGo (te.1 + 1) lv (.inr (j + 1, 0, 0) :: r) h c s)
  | .iastore, .inr x :: .inr i :: .inl (.ref a) :: r => (match h[a]? with
    | some (.inl (0, l)) => aIdx env i l.length (fun j => rGo (te.1 + 1) lv r (h.set a (.inl (0, l.set j (.inr x)))) c s)
    | _ => none)
  | .laload, .inr i :: .inl (.ref a) :: r => (match h[a]? with
    | some (.inl (1, l)) => aIdx env i l.length (fun j => match l[j]? with
      | some (.inl (.long x)) => rGo (te.1 + 1) lv (.inl (.long x) :: r) h c s
      | _ => none)
    | _ => none)
  | .lastore, .inl (.long x) :: .inr i :: .inl (.ref a) :: r => (match h[a]? with
    | some (.inl (1, l)) => aIdx env i l.length (fun j => rGo (te.1 + 1) lv r (h.set a (.inl (1, l.set j (.inl (.long x))))) c s)
    | _ => none)
  | .aaload, .inr i :: .inl (.ref a) :: r => (match h[a]? with
    | some (.inl (2, l)) => aIdx env i l.length (fun j => match l[j]? with
      | some (.inl (.ref x)) => rGo (te.1 + 1) lv (.inl (.ref x) :: r) h c s
      | _ => none)
    | some (.inl (3, l)) => aIdx env i l.length (fun j => match l[j]? with
      | some (.inl (.ref x)) => rGo (te.1 + 1) lv (.inl (.ref x) :: r) h c s
      | _ => none)
    | _ => none)
  | .aastore, .inl (.ref v) :: .inr i :: .inl (.ref a) :: r => (match h[a]?, h[v]? with
    | some (.inl (2, l)), some (.inr (1, _)) => aIdx env i l.length (fun j => rGo (te.1 + 1) lv r (h.set a (.inl (2, l.set j (.inl (.ref v))))) c s)
    | _, _ => none)
  | .arraylength, .inl (.ref a) :: r => (match h[a]? with
    | some (.inl (t, l)) => if t < 4 ∧ l.length < 2147483648 then rGo (te.1 + 1) lv (aK l.length :: r) h c s else none
    | _ => none)
  | .arraylength, .inl (.retAddr _) :: r => if L < 2147483648 then rGo (te.1 + 1) lv (aK L :: r) h c s else none
  | .getfield _, .inl (.ref a) :: r => (match h[a]? with
    | some (.inr (cj, fs)) => if cj = te.2.2.1 ∧ te.2.2.2 < fnum te.2.2.1 then (match fs[te.2.2.2]? with
      | some v => rGo (te.1 + 3) lv (v :: r) h c s
      | none => none) else none
    | _ => none)
  | .putfield _, v :: .inl (.ref a) :: r => (match h[a]? with
    | some (.inr (cj, fs)) => if cj = te.2.2.1 ∧ te.2.2.2 < fnum te.2.2.1 ∧ te.2.2.2 < fs.length then (match ftyX te.2.2.1 te.2.2.2, v with
      | .int, .inr _ => rGo (te.1 + 3) lv r (h.set a (.inr (cj, fs.set te.2.2.2 v))) c s
      | .boolean, .inr (0, x, y) => if x = y ∧ (x = 0 ∨ x = 1) then rGo (te.1 + 3) lv r (h.set a (.inr (cj, fs.set te.2.2.2 v))) c s else none
      | .object _, .inl (.ref _) => rGo (te.1 + 3) lv r (h.set a (.inr (cj, fs.set te.2.2.2 v))) c s
      | .array _, .inl (.ref _) => rGo (te.1 + 3) lv r (h.set a (.inr (cj, fs.set te.2.2.2 v))) c s
      | _, _ => none) else none
    | _ => none)
  | .newarray .int, .inr (0, x, y) :: r => if x = y ∧ 0 ≤ x ∧ x ≤ 10000 ∧ c + 1 ≤ pC M ∧ s + x.toNat ≤ pS M then rGo (te.1 + 2) lv (.inl (.ref h.length) :: r) (h ++ [.inl (0, List.replicate x.toNat (aK 0))]) (c + 1) (s + x.toNat) else none
  | .newarray .long, .inr (0, x, y) :: r => if x = y ∧ 0 ≤ x ∧ x ≤ 10000 ∧ c + 1 ≤ pC M ∧ s + x.toNat ≤ pS M then rGo (te.1 + 2) lv (.inl (.ref h.length) :: r) (h ++ [.inl (1, List.replicate x.toNat (.inl (.long 0)))]) (c + 1) (s + x.toNat) else none
  | .anewarray _, .inr (0, x, y) :: r => if x = y ∧ 0 ≤ x ∧ x ≤ 10000 ∧ c + 1 ≤ pC M ∧ s + x.toNat ≤ pS M then rGo (te.1 + 3) lv (.inl (.ref h.length) :: r) (h ++ [.inl (2, List.replicate x.toNat (.inl .null))]) (c + 1) (s + x.toNat) else none
  | .multianewarray _ _, .inr (0, m, m') :: .inr (0, n, n') :: r => if m = m' ∧ n = n' ∧ 0 ≤ m ∧ m ≤ 1000 ∧ 0 ≤ n ∧ n ≤ 1000 ∧ c + (1 + n.toNat) ≤ pC M ∧ s + (n.toNat + n.toNat * m.toNat) ≤ pS M then
      rGo (te.1 + 4) lv (.inl (.ref h.length) :: r) ((h ++ [.inl (3, (List.range n.toNat).map (fun i => .inl (.ref (h.length + 1 + i))))]) ++ List.replicate n.toNat (.inl (0, List.replicate m.toNat (aK 0)))) (c + (1 + n.toNat)) (s + (n.toNat + n.toNat * m.toNat)) else none
  | .new _, _ => if te.2.2.2 = 0 then (if c + 1 ≤ pC M ∧ s + fnum te.2.2.1 ≤ pS M then rGo (te.1 + 3) lv (.inl (.ref h.length) :: st) (h ++ [.inr (te.2.2.1, (dflt te.2.2.1).map (fun v => match v with | .int x => aK x.toInt | v => .inl v))]) (c + 1) (s + fnum te.2.2.1) else none) else
      if te.2.2.2 = 1 ∧ hd = [] ∧ c + 1 ≤ pC M ∧ s + 6 ≤ pS M ∧ (st.map aCat).sum ≤ 8 then (match XLs[te.2.2.1]? with
        | some x => some (.inr (.inr (.inr (.inr x.2.2.1))))
        | none => none) else none
  | .invokevirtual _, _ => some (.inr (.inr (.inl (te.2.2.1, true))))
  | .invokestatic _, _ => if te.2.2.2 = 7 then (match st with
      | .inr (0, n, n') :: .inr (0, dp, dp') :: .inl (.ref a1) :: .inr (0, sp, sp') :: .inl (.ref a0) :: r => (match h[a0]?, h[a1]? with
        | some (.inl (0, l0)), some (.inl (0, l1)) => if n = n' ∧ dp = dp' ∧ sp = sp' ∧ 0 ≤ n ∧ 0 ≤ dp ∧ 0 ≤ sp ∧ sp.toNat + n.toNat ≤ l0.length ∧ dp.toNat + n.toNat ≤ l1.length ∧ l0.length < 2147483648 ∧ l1.length < 2147483648 ∧ (r.map aCat).sum ≤ 8 then
            rGo (te.1 + 3) lv r (h.set a1 (.inl (0, l1.take dp.toNat ++ (l0.drop sp.toNat).take n.toNat ++ l1.drop (dp.toNat + n.toNat)))) c s else none
        | _, _ => none)
      | _ => none) else some (.inr (.inr (.inl (te.2.2.1, false))))
  | .invokespecial _, _ => if te.2.2.2 = 6 then (match st with
      | .inl (.ref _) :: r => if (r.map aCat).sum ≤ 8 then rGo (te.1 + 3) lv r h c s else none
      | _ => none) else if te.2.2.2 = 4 ∨ te.2.2.2 = 5 then some (.inr (.inr (.inl (te.2.2.1, true)))) else none
  | .ireturn, [.inr x] => (match pR M with
    | some .int => some (.inr (.inr (.inr (.inl (some (.inr x))))))
    | some .boolean => if (aRng env x).1 = (aRng env x).2 ∧ ((aRng env x).1 = 0 ∨ (aRng env x).1 = 1) then some (.inr (.inr (.inr (.inl (some (.inr x)))))) else none
    | _ => none)
  | .areturn, [.inl (.ref a)] => (match pR M with
    | some (.object _) => some (.inr (.inr (.inr (.inl (some (.inl (.ref a)))))))
    | _ => none)
  | .return_, [] => (match pR M with
    | none => some (.inr (.inr (.inr (.inl none))))
    | _ => none)
  | _, _ => none
def fnd (pc : Nat) : List TE → Option (TE × List TE)
  | [] => none
  | e :: r => if e.1 == pc then some (e, r) else fnd pc r
def fetch (tab : List TE) (pc : Nat) (rest : List TE) : Option (TE × List TE) := match rest with
  | e :: r => if e.1 == pc then some (e, r) else fnd pc tab
  | [] => fnd pc tab
def flatO {α β : Type} (f : α → Option (List β)) : List α → Option (List β)
  | [] => some []
  | a :: as => match f a with
    | none => none
    | some l => match flatO f as with
      | none => none
      | some m => some (l ++ m)
def aBack (hd : List (Nat × Nat × Nat × Int)) (pc : Nat) (e : Nat) : Option AV ⊕ Nat := match p_catch hd pc e with
  | some z => .inl (some (aK (Int32.ofInt z).toInt))
  | none => .inr e
def aRecv (virt : Bool) (l : List AV) (o : Nat) (h : AH) : Bool := !virt || (match l.getLast? with
  | some (.inl (.ref a)) => (match h[a]? with
    | some (.inr (cj, _)) => cj == o
    | _ => false)
  | _ => false)
/-- loops that are known whole: place, what they make of locals and heap, and where they end -/
abbrev MF : Type := List (Nat × (EV → AL → List AV → AH → Option (Nat × AL × List AV × AH)))
def mGet (ml : MF) (pc : Nat) (env : EV) (lv : AL) (st : List AV) (h : AH) : Option (Nat × AL × List AV × AH) := match ml.find? (fun q => q.1 == pc) with
  | none => none
  | some q => q.2 env lv st h
/-- a body: k steps at most -/
noncomputable def aB (sp : Bool) (ml : MF) (L : Nat) (cal : Nat → List AV → AH → EV → Option (List AO)) (M : PM) (hd : List (Nat × Nat × Nat × Int)) : Nat → EV → Nat → List TE → AL → List AV → AH → Nat → Nat → Option (List AO)
  | 0, _, _, _, _, _, _, _, _ => none
  | k + 1, env, pc, rest, lv, st, h, c, s => match mGet ml pc env lv st h with
    | some (pc', lv', st', h') => aB sp ml L cal M hd k env pc' rest lv' st' h' c s
    | none => match fetch (pT M) pc rest with
    | none => none
    | some (te, r) => match aI sp L M hd env te lv st h c s with
      | none => none
      | some (.inl envs) => flatO (fun env => aB sp ml L cal M hd k env pc (te :: r) lv st h c s) envs
      | some (.inr (.inl (pc', lv', st', h', c', s'))) => aB sp ml L cal M hd k env pc' r lv' st' h' c' s'
      | some (.inr (.inr (.inl (μ, virt)))) => match MT[μ]? with
        | none => none
        | some N => if pN N ≤ st.length ∧ ((st.drop (pN N)).map aCat).sum ≤ 8 ∧ c + pC N ≤ pC M ∧ s + pS N ≤ pS M ∧ aRecv virt (st.take (pN N)) (pO N) h = true then
            match cal μ (st.take (pN N)).reverse h env with
            | none => none
            | some outs => flatO (fun o => match o.2.1 with
              | .inl v => aB sp ml L cal M hd k o.1 (pc + 3) r lv (v.toList ++ st.drop (pN N)) o.2.2 (c + pC N) (s + pS N)
              | .inr e => some [(o.1, aBack hd pc e, o.2.2)]) outs
          else none
      | some (.inr (.inr (.inr res))) => some [(env, res, h)]
def aArgs : Nat → List AV → AL
  | _, [] => []
  | i, v :: vs => (i, v) :: aArgs (if aCat v = 2 then i + 2 else i + 1) vs
/-- a method: n calls open at most -/
noncomputable def aEx (sp : Bool) (mac : Nat → MF) (cm : Nat → List AV → AH → Option (List ((Option AV ⊕ Nat) × AH))) (L fuel : Nat) : Nat → Nat → List AV → AH → EV → Option (List AO)
  | 0, _, _, _, _ => none
  | n + 1, μ, args, h, env => match cm μ args h with
    | some outs => some (outs.map (fun o => (env, o)))
    | none => match MT[μ]? with
      | none => none
      | some M => if (args.map aCat).sum ≤ pL M then aB sp (mac μ) L (aEx sp mac cm L fuel n) M (if pK M = 3 then hdOf μ else []) fuel env 0 (pT M) (aArgs 0 args) [] h 0 0 else none

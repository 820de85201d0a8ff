/-! the pure machine run with unknown arguments, laid so that the kernel runs it quickly: a number is known, in a range, or a times an argument and b; the heap in rows of 16; what comes next is a function -/
abbrev AN : Type := Nat × Int × Int
abbrev AV : Type := Int ⊕ (AN ⊕ Value)
abbrev LW : Type := List AV
abbrev AE : Type := (Nat × LW) ⊕ (Nat × LW)
abbrev HT : Type := List (List AE)
abbrev EV : Type := List (Int × Int)
abbrev AQ : Type := Option AV ⊕ Nat
abbrev HD4 : Type := List (Nat × Nat × Nat × Int)
abbrev CX9 : Type := Nat × PM × HD4
abbrev GO : Type := Nat → LW → LW → Nat → HT → Nat → Nat → Bool
abbrev RT : Type := EV → AQ → Nat → HT → Bool
abbrev OPF : Type := CX9 → EV → LW → LW → Nat → HT → Nat → Nat → GO → (List EV → Bool) → (Nat → Bool → Bool) → (AQ → Bool) → Bool
abbrev aK (x : Int) : AV := .inl x
abbrev aG (lo hi : Int) : AV := .inr (.inl (0, lo, hi))
abbrev aY (t : Nat) (a b : Int) : AV := .inr (.inl (t + 1, a, b))
abbrev aR (a : Nat) : AV := .inr (.inr (.ref a))
abbrev aU : AV := .inr (.inr .null)
abbrev iLo : Int := -2147483648
abbrev iHi : Int := 2147483647
abbrev aTop : AV := aG iLo iHi
/-- places in lists -/
noncomputable def lget {α : Type} (l : List α) : Nat → Option α := List.rec (fun _ => none) (fun a _ ih n => Nat.rec (some a) (fun m _ => ih m) n) l
noncomputable def lset {α : Type} (l : List α) : Nat → α → (List α → Bool) → Bool := List.rec (fun _ _ _ => false) (fun a t ih n v k => Nat.rec (k (v :: t)) (fun m _ => ih m v (fun t' => k (a :: t'))) n) l
noncomputable def hget (h : HT) (a : Nat) : Option AE := match lget h (Nat.div a 16) with
  | some r => lget r (Nat.mod a 16)
  | none => none
noncomputable def hset (h : HT) (a : Nat) (v : AE) (k : HT → Bool) : Bool := match lget h (Nat.div a 16) with
  | some r => lset r (Nat.mod a 16) v fun r => lset h (Nat.div a 16) r k
  | none => false
noncomputable def repF {α : Type} (v : α) (n : Nat) : (List α → Bool) → Bool := Nat.rec (fun k => k []) (fun _ ih k => ih fun l => k (v :: l)) n
def natF (n : Nat) (k : Nat → Bool) : Bool := match n with
  | 0 => k 0
  | m + 1 => k (m + 1)
def bLt (x y : Int) : Bool := match x, y with
  | .ofNat a, .ofNat b => Nat.blt a b
  | .ofNat _, .negSucc _ => false
  | .negSucc _, .ofNat _ => true
  | .negSucc a, .negSucc b => Nat.blt b a
def bEq (x y : Int) : Bool := match x, y with
  | .ofNat a, .ofNat b => Nat.beq a b
  | .negSucc a, .negSucc b => Nat.beq a b
  | _, _ => false
def bLe (x y : Int) : Bool := !(bLt y x)
def inI (lo hi : Int) : Bool := bLe iLo lo && bLe hi iHi
def iF (x : Int) (k : Int → Bool) : Bool := match x with
  | .ofNat n => k (.ofNat n)
  | .negSucc n => k (.negSucc n)
def isNum (v : AV) : Bool := match v with
  | .inl _ => true
  | .inr (.inl _) => true
  | .inr (.inr _) => false
/-- a number's range -/
noncomputable def rK (env : EV) (v : AV) (k : Int → Int → Bool) : Bool := match v with
  | .inl x => k x x
  | .inr (.inl (0, lo, hi)) => k lo hi
  | .inr (.inl (t + 1, a, b)) => (match lget env t with
    | some r => (match bLt a 0 with
      | false => k (a * r.1 + b) (a * r.2 + b)
      | true => k (a * r.2 + b) (a * r.1 + b))
    | none => false)
  | .inr (.inr _) => false
/-- a number as a times an argument and b; 0: no argument -/
noncomputable def lin (env : EV) (v : AV) (k : AN → Bool) (no : Bool) : Bool := match v with
  | .inl x => k (0, 0, x)
  | .inr (.inl (0, lo, hi)) => (match bEq lo hi with
    | true => k (0, 0, lo)
    | false => no)
  | .inr (.inl (t + 1, a, b)) => (match lget env t with
    | some r => (match bEq r.1 r.2 with
      | true => iF (a * r.1 + b) fun z => k (0, 0, z)
      | false => k (t + 1, a, b))
    | none => no)
  | .inr (.inr _) => no
/-- ways are split: an argument's range in pieces -/
noncomputable def cutLe (env : EV) (t : Nat) (z : Int) (cut : List EV → Bool) : Bool := match lget env t with
  | some r => (match bLe r.1 z && bLt z r.2 with
    | true => lset env t (r.1, z) fun e => lset env t (z + 1, r.2) fun f => cut [e, f]
    | false => false)
  | none => false
noncomputable def cutAll1 (env : EV) (t : Nat) (lo : Int) (cut : List EV → Bool) : Nat → List EV → Bool := fun n => Nat.rec (fun acc => cut acc) (fun m ih acc => iF (lo + Int.ofNat m) fun z => lset env t (z, z) fun e => ih (e :: acc)) n
noncomputable def cutAll (env : EV) (t : Nat) (cut : List EV → Bool) : Bool := match lget env t with
  | some r => (match r.2 - r.1 with
    | .ofNat w => (match Nat.blt 0 w && Nat.blt w 64 with
      | true => cutAll1 env t r.1 cut (w + 1) []
      | false => false)
    | .negSucc _ => false)
  | none => false
noncomputable def widK (env : EV) (t : Nat) (k : Int → Bool) : Bool := match lget env t with
  | some r => k (r.2 - r.1)
  | none => false
/-- of two arguments the one with the smaller range is split -/
noncomputable def cutSm (env : EV) (t u : Nat) (cut : List EV → Bool) : Bool := widK env t fun a => widK env u fun b => match bEq a 0 || (!(bEq b 0) && bLt b a) with
  | true => cutAll env u cut
  | false => cutAll env t cut
def cmpR (c : ClassFile.Cond) (a b x y : Int) : Option Bool := match c with
  | .eq => (match bLt b x || bLt y a with
    | true => some false
    | false => (match bEq a b && (bEq x y && bEq a x) with
      | true => some true
      | false => none))
  | .ne => (match bLt b x || bLt y a with
    | true => some true
    | false => (match bEq a b && (bEq x y && bEq a x) with
      | true => some false
      | false => none))
  | .lt => (match bLt b x with
    | true => some true
    | false => (match bLt a y with
      | true => none
      | false => some false))
  | .ge => (match bLt b x with
    | true => some false
    | false => (match bLt a y with
      | true => none
      | false => some true))
  | .gt => (match bLt y a with
    | true => some true
    | false => (match bLt x b with
      | true => none
      | false => some false))
  | .le => (match bLt y a with
    | true => some false
    | false => (match bLt x b with
      | true => none
      | false => some true))
def cmpK (c : ClassFile.Cond) (a x : Int) : Bool := match c with
  | .eq => bEq a x
  | .ne => !(bEq a x)
  | .lt => bLt a x
  | .ge => !(bLt a x)
  | .gt => bLt x a
  | .le => !(bLt x a)
/-- where a times an argument and b changes its side -/
def thr (c : ClassFile.Cond) (a b : Int) : Int := match bLt a 0 with
  | false => (match c with
    | .lt | .ge => (-b - 1) / a
    | _ => (-b) / a)
  | true => (match c with
    | .lt | .ge => b / (-a)
    | _ => (b - 1) / (-a))
noncomputable def cutC (env : EV) (c : ClassFile.Cond) (t : Nat) (a b : Int) (cut : List EV → Bool) : Bool := match c with
  | .eq | .ne => (match lget env t with
    | some r => iF ((-b) / a) fun z => (match bLe r.1 z && bLt z r.2 with
      | true => cutLe env t z cut
      | false => cutLe env t (z - 1) cut)
    | none => false)
  | c => iF (thr c a b) fun z => cutLe env t z cut
noncomputable def wBrL (env : EV) (c : ClassFile.Cond) (t : Nat) (a b : Int) (cut : List EV → Bool) (y n : Bool) : Bool := match t with
  | 0 => (match cmpK c b 0 with
    | true => y
    | false => n)
  | t + 1 => (match bEq a 0 with
    | true => (match cmpK c b 0 with
      | true => y
      | false => n)
    | false => rK env (aY t a b) fun lo hi => (match cmpR c lo hi 0 0 with
      | some true => y
      | some false => n
      | none => cutC env c t a b cut))
noncomputable def wBr2 (env : EV) (c : ClassFile.Cond) (x y : AV) (cut : List EV → Bool) (t f : Bool) : Bool :=
  rK env x fun a b => rK env y fun a' b' => match cmpR c a b a' b' with
    | some true => t
    | some false => f
    | none => lin env x (fun p => lin env y (fun q => match Nat.beq p.1 0, Nat.beq q.1 0 with
        | true, _ => wBrL env c q.1 (p.2.1 - q.2.1) (p.2.2 - q.2.2) cut t f
        | _, true => wBrL env c p.1 (p.2.1 - q.2.1) (p.2.2 - q.2.2) cut t f
        | _, _ => (match Nat.beq p.1 q.1 with
          | true => wBrL env c p.1 (p.2.1 - q.2.1) (p.2.2 - q.2.2) cut t f
          | false => cutSm env (p.1 - 1) (q.1 - 1) cut)) (cutAll env (p.1 - 1) cut)) (lin env y (fun q => cutAll env (q.1 - 1) cut) false)
noncomputable def wBr (env : EV) (c : ClassFile.Cond) (x y : AV) (cut : List EV → Bool) (t f : Bool) : Bool := match x, y with
  | .inl a, .inl b => (match cmpK c a b with
    | true => t
    | false => f)
  | x, y => wBr2 env c x y cut t f
def kInt (z : Int) (k : AV → Bool) : Bool := match inI z z with
  | true => iF z fun z => k (.inl z)
  | false => iF (Int.bmod z 4294967296) fun z => k (.inl z)
/-- a times an argument and b, where that stays in the numbers -/
noncomputable def mkL (env : EV) (t : Nat) (a b : Int) (k : AV → Bool) (els : Bool) : Bool := match t with
  | 0 => kInt b k
  | t + 1 => (match bEq a 0 with
    | true => kInt b k
    | false => rK env (aY t a b) fun lo hi => (match inI lo hi with
      | true => k (aY t a b)
      | false => els))
def kRng (lo hi : Int) (k : AV → Bool) : Bool := match inI lo hi with
  | true => k (aG lo hi)
  | false => k aTop
noncomputable def wAdd (env : EV) (x y : AV) (cut : List EV → Bool) (k : AV → Bool) : Bool := match x, y with
  | .inl a, .inl b => kInt (a + b) k
  | x, y => (match isNum x && isNum y with
    | false => false
    | true => lin env x (fun p => lin env y (fun q => match Nat.beq p.1 0, Nat.beq q.1 0 with
      | true, _ => mkL env q.1 (p.2.1 + q.2.1) (p.2.2 + q.2.2) k (k aTop)
      | _, true => mkL env p.1 (p.2.1 + q.2.1) (p.2.2 + q.2.2) k (k aTop)
      | _, _ => (match Nat.beq p.1 q.1 with
        | true => mkL env p.1 (p.2.1 + q.2.1) (p.2.2 + q.2.2) k (k aTop)
        | false => cutSm env (p.1 - 1) (q.1 - 1) cut)) (k aTop)) (k aTop))
noncomputable def wSub (env : EV) (x y : AV) (cut : List EV → Bool) (k : AV → Bool) : Bool := match x, y with
  | .inl a, .inl b => kInt (a - b) k
  | x, y => (match isNum x && isNum y with
    | false => false
    | true => lin env x (fun p => lin env y (fun q => match Nat.beq p.1 0, Nat.beq q.1 0 with
      | true, _ => mkL env q.1 (p.2.1 - q.2.1) (p.2.2 - q.2.2) k (k aTop)
      | _, true => mkL env p.1 (p.2.1 - q.2.1) (p.2.2 - q.2.2) k (k aTop)
      | _, _ => (match Nat.beq p.1 q.1 with
        | true => mkL env p.1 (p.2.1 - q.2.1) (p.2.2 - q.2.2) k (k aTop)
        | false => cutSm env (p.1 - 1) (q.1 - 1) cut)) (k aTop)) (k aTop))
noncomputable def wMul (env : EV) (x y : AV) (cut : List EV → Bool) (k : AV → Bool) : Bool := match x, y with
  | .inl a, .inl b => kInt (a * b) k
  | x, y => (match isNum x && isNum y with
    | false => false
    | true => lin env x (fun p => lin env y (fun q => match Nat.beq p.1 0, Nat.beq q.1 0 with
      | true, _ => mkL env q.1 (p.2.2 * q.2.1) (p.2.2 * q.2.2) k (k aTop)
      | _, true => mkL env p.1 (p.2.1 * q.2.2) (p.2.2 * q.2.2) k (k aTop)
      | _, _ => cutSm env (p.1 - 1) (q.1 - 1) cut) (k aTop)) (k aTop))
def bin (f : Int32 → Int32 → Int32) (x y : Int) : Int := (f (Int32.ofInt x) (Int32.ofInt y)).toInt
noncomputable def wAny (env : EV) (x y : AV) (f : Int32 → Int32 → Int32) (k : AV → Bool) : Bool :=
  rK env x fun a b => rK env y fun a' b' => match bEq a b && bEq a' b' with
    | true => iF (bin f a a') fun z => k (.inl z)
    | false => k aTop
noncomputable def wNz (env : EV) (y : AV) (k : Bool) : Bool := rK env y fun a b => match bLt 0 a || bLt b 0 with
  | true => k
  | false => false
/-- a place that must be known -/
noncomputable def wIdx (env : EV) (v : AV) (cut : List EV → Bool) (k : Nat → Bool) : Bool := match v with
  | .inl (.ofNat j) => k j
  | v => lin env v (fun p => match p.1, p.2.2 with
    | 0, .ofNat j => k j
    | 0, .negSucc _ => false
    | t + 1, _ => cutAll env t cut) false
def w1 (v : AV) : Bool := match v with
  | .inr (.inr v) => Nat.beq v.category 1
  | _ => true
def wCat (v : AV) : Nat := match v with
  | .inr (.inr v) => v.category
  | _ => 1
noncomputable def cats (l : LW) : Nat := List.rec 0 (fun a _ ih => wCat a + ih) l
/-- from here on n numbers, each by c more than the one before, the first x -/
noncomputable def linChk (n : Nat) : LW → Int → Int → Bool := Nat.rec (fun _ _ _ => true) (fun _ ih l x c => match l with
  | .inl y :: r => (match bEq y x with
    | true => iF (x + c) fun z => ih r z c
    | false => false)
  | _ => false) n
noncomputable def ldrop {α : Type} (l : List α) : Nat → List α := List.rec (fun _ => []) (fun a t ih n => Nat.rec (a :: t) (fun m _ => ih m) n) l
/-- a row read at a place that isn't known: as far as it may be, it grows evenly -/
noncomputable def sRead (env : EV) (i : AV) (l : LW) (cut : List EV → Bool) (k : AV → Bool) : Bool := rK env i fun lo hi => match lo, hi - lo with
  | .ofNat j, .ofNat w => (match ldrop l j with
    | .inl x :: .inl y :: r => (match linChk (w + 1) (.inl x :: .inl y :: r) x (y - x) with
      | true => (match bEq x y with
        | true => k (.inl x)
        | false => (match i with
          | .inr (.inl (t + 1, a, b)) => k (aY t ((y - x) * a) ((y - x) * b + x - (y - x) * lo))
          | _ => false))
      | false => wIdx env i cut fun j => (match lget l j with
        | some v => k v
        | none => false))
    | _ => wIdx env i cut fun j => (match lget l j with
        | some v => k v
        | none => false))
  | _, _ => false
noncomputable def wRead (env : EV) (i : AV) (l : LW) (cut : List EV → Bool) (k : AV → Bool) : Bool := match i with
  | .inl (.ofNat j) => (match lget l j with
    | some v => k v
    | none => false)
  | i => lin env i (fun p => match p.1, p.2.2 with
    | 0, .ofNat j => (match lget l j with
      | some v => k v
      | none => false)
    | 0, .negSucc _ => false
    | _ + 1, _ => sRead env i l cut k) (sRead env i l cut k)
/-- a long that is a number of this kind, hidden in a double -/
def dT (z : UInt64) : Nat := z.toNat % 8
def dA (z : UInt64) : Int := (z.toNat / 8 % 2097152 : Nat) - 1048576
def dB (z : UInt64) : Int := (z.toNat / 16777216 : Nat) - 2147483648
def dMk (t : Nat) (a b : Int) : UInt64 := UInt64.ofNat (t + 8 * (a + 1048576).toNat + 16777216 * (b + 2147483648).toNat)
/-- the instructions -/
def o_no : OPF := fun _ _ _ _ _ _ _ _ _ _ _ _ => false
def o_push (v : AV) (n : Nat) : OPF := fun _ _ lv st m h c s go _ _ _ => go n lv (v :: st) m h c s
noncomputable def o_iload (i n : Nat) : OPF := fun _ _ lv st m h c s go _ _ _ => match lget lv i with
  | some v => (match isNum v with
    | true => go n lv (v :: st) m h c s
    | false => false)
  | none => false
noncomputable def o_aload (i n : Nat) : OPF := fun _ _ lv st m h c s go _ _ _ => match lget lv i with
  | some (.inr (.inr (.ref a))) => go n lv (.inr (.inr (.ref a)) :: st) m h c s
  | some (.inr (.inr (.retAddr a))) => go n lv (.inr (.inr (.retAddr a)) :: st) m h c s
  | _ => false
noncomputable def o_istore (i n : Nat) : OPF := fun X _ lv st m h c s go _ _ _ => match st with
  | v :: r => (match isNum v && Nat.blt i (pL X.2.1) with
    | true => lset lv i v fun lv => go n lv r m h c s
    | false => false)
  | _ => false
noncomputable def o_astore (i n : Nat) : OPF := fun X _ lv st m h c s go _ _ _ => match st with
  | .inr (.inr (.ref a)) :: r => (match Nat.blt i (pL X.2.1) with
    | true => lset lv i (.inr (.inr (.ref a))) fun lv => go n lv r m h c s
    | false => false)
  | _ => false
noncomputable def o_iinc (i : Nat) (z : Int) (n : Nat) : OPF := fun X env lv st m h c s go cut _ _ => match lget lv i with
  | some x => (match isNum x && Nat.blt i (pL X.2.1) with
    | true => wAdd env x (.inl z) cut fun v => lset lv i v fun lv => go n lv st m h c s
    | false => false)
  | none => false
noncomputable def o_iadd (n : Nat) : OPF := fun _ env lv st m h c s go cut _ _ => match st with
  | y :: x :: r => wAdd env x y cut fun v => go n lv (v :: r) m h c s
  | _ => false
noncomputable def o_isub (n : Nat) : OPF := fun _ env lv st m h c s go cut _ _ => match st with
  | y :: x :: r => wSub env x y cut fun v => go n lv (v :: r) m h c s
  | _ => false
noncomputable def o_imul (n : Nat) : OPF := fun _ env lv st m h c s go cut _ _ => match st with
  | y :: x :: r => wMul env x y cut fun v => go n lv (v :: r) m h c s
  | _ => false
noncomputable def o_any (f : Int32 → Int32 → Int32) (n : Nat) : OPF := fun _ env lv st m h c s go _ _ _ => match st with
  | y :: x :: r => wAny env x y f fun v => go n lv (v :: r) m h c s
  | _ => false
noncomputable def o_idiv (n : Nat) : OPF := fun _ env lv st m h c s go _ _ _ => match st with
  | y :: x :: r => wNz env y (wAny env x y (· / ·) fun v => go n lv (v :: r) m h c s)
  | _ => false
noncomputable def o_irem (n : Nat) : OPF := fun _ env lv st m h c s go _ _ _ => match st with
  | y :: x :: r => (match y with
    | .inl 1 => (match isNum x with
      | true => go n lv (.inl 0 :: r) m h c s
      | false => false)
    | y => wNz env y (wAny env x y (fun x y => x - x / y * y) fun v => go n lv (v :: r) m h c s))
  | _ => false
noncomputable def o_ineg (n : Nat) : OPF := fun _ env lv st m h c s go _ _ _ => match st with
  | x :: r => wAny env x (.inl 0) (fun x _ => -x) fun v => go n lv (v :: r) m h c s
  | _ => false
noncomputable def o_i2l (n : Nat) : OPF := fun _ env lv st m h c s go _ _ _ => match st with
  | x :: r => lin env x (fun p => match p.1 with
    | 0 => go n lv (.inr (.inr (.long (Int32.ofInt p.2.2).toInt64)) :: r) m h c s
    | t + 1 => (match Nat.beq (dT (dMk t p.2.1 p.2.2)) t && (bEq (dA (dMk t p.2.1 p.2.2)) p.2.1 && bEq (dB (dMk t p.2.1 p.2.2)) p.2.2) with
      | true => go n lv (.inr (.inr (.double (dMk t p.2.1 p.2.2))) :: r) m h c s
      | false => false)) false
  | _ => false
def o_lcmp (n : Nat) : OPF := fun _ _ lv st m h c s go _ _ _ => match st with
  | .inr (.inr (.long y)) :: .inr (.inr (.long x)) :: r => go n lv (.inl (lg_cmp x y).toInt :: r) m h c s
  | .inr (.inr (.double y)) :: .inr (.inr (.double x)) :: r => (match Nat.beq x.toNat y.toNat with
    | true => go n lv (.inl 0 :: r) m h c s
    | false => false)
  | _ => false
def o_dup (n : Nat) : OPF := fun _ _ lv st m h c s go _ _ _ => match st with
  | v :: r => (match w1 v with
    | true => go n lv (v :: v :: r) m h c s
    | false => false)
  | _ => false
def o_dup2 (n : Nat) : OPF := fun _ _ lv st m h c s go _ _ _ => match st with
  | v :: w :: r => (match w1 v && w1 w with
    | true => go n lv (v :: w :: v :: w :: r) m h c s
    | false => false)
  | _ => false
def o_pop (n : Nat) : OPF := fun _ _ lv st m h c s go _ _ _ => match st with
  | v :: r => (match w1 v with
    | true => go n lv r m h c s
    | false => false)
  | _ => false
def o_goto (t : Nat) : OPF := fun _ _ lv st m h c s go _ _ _ => go t lv st m h c s
noncomputable def o_if (cc : ClassFile.Cond) (t n : Nat) : OPF := fun _ env lv st m h c s go cut _ _ => match st with
  | x :: r => wBr env cc x (.inl 0) cut (go t lv r m h c s) (go n lv r m h c s)
  | _ => false
noncomputable def o_icmp (cc : ClassFile.Cond) (t n : Nat) : OPF := fun _ env lv st m h c s go cut _ _ => match st with
  | y :: x :: r => wBr env cc x y cut (go t lv r m h c s) (go n lv r m h c s)
  | _ => false
noncomputable def gAll (f : Nat → Bool) (l : List Nat) : Bool := List.rec true (fun e _ ih => match f e with
  | true => ih
  | false => false) l
noncomputable def o_sw (d : Nat) (lo hi : Int) (ts : List Nat) : OPF := fun _ env lv st m h c s go cut _ _ => match st with
  | x :: r => rK env x fun a b => (match bLt b lo || bLt hi a with
    | true => go d lv r m h c s
    | false => lin env x (fun p => (match p.1 with
      | 0 => (match bLt p.2.2 lo || bLt hi p.2.2 with
        | true => go d lv r m h c s
        | false => (match lget ts (p.2.2 - lo).toNat with
          | some t => go t lv r m h c s
          | none => false))
      | t + 1 => (match bLt a lo with
        | true => cutLe env t (lo - 1) cut
        | false => (match bLt hi b with
          | true => cutLe env t hi cut
          | false => cutAll env t cut)))) (match go d lv r m h c s with
            | true => gAll (fun t => go t lv r m h c s) ts
            | false => false))
  | _ => false
noncomputable def o_iald (n : Nat) : OPF := fun X env lv st m h c s go cut _ _ => match st with
  | i :: .inr (.inr (.ref a)) :: r => (match hget h a with
    | some (.inl (0, l)) => wRead env i l cut fun v => (match isNum v with
      | true => go n lv (v :: r) m h c s
      | false => false)
    | _ => false)
  | i :: .inr (.inr (.retAddr _)) :: r => wIdx env i cut fun j => (match Nat.blt j X.1 with
    | true => go n lv (aY j 1 0 :: r) m h c s
    | false => false)
  | _ => false
noncomputable def o_lald (n : Nat) : OPF := fun _ env lv st m h c s go cut _ _ => match st with
  | i :: .inr (.inr (.ref a)) :: r => (match hget h a with
    | some (.inl (1, l)) => wIdx env i cut fun j => (match lget l j with
      | some v => go n lv (v :: r) m h c s
      | none => false)
    | _ => false)
  | _ => false
noncomputable def o_aald (n : Nat) : OPF := fun _ env lv st m h c s go cut _ _ => match st with
  | i :: .inr (.inr (.ref a)) :: r => (match hget h a with
    | some (.inl (2, l)) => wIdx env i cut fun j => (match lget l j with
      | some (.inr (.inr (.ref x))) => go n lv (.inr (.inr (.ref x)) :: r) m h c s
      | _ => false)
    | some (.inl (3, l)) => wIdx env i cut fun j => (match lget l j with
      | some (.inr (.inr (.ref x))) => go n lv (.inr (.inr (.ref x)) :: r) m h c s
      | _ => false)
    | _ => false)
  | _ => false
noncomputable def o_iast (n : Nat) : OPF := fun _ env lv st m h c s go cut _ _ => match st with
  | x :: i :: .inr (.inr (.ref a)) :: r => (match isNum x with
    | true => (match hget h a with
      | some (.inl (0, l)) => wIdx env i cut fun j => lset l j x fun l => hset h a (.inl (0, l)) fun h => go n lv r m h c s
      | _ => false)
    | false => false)
  | _ => false
noncomputable def o_last (n : Nat) : OPF := fun _ env lv st m h c s go cut _ _ => match st with
  | .inr (.inr (.long x)) :: i :: .inr (.inr (.ref a)) :: r => (match hget h a with
    | some (.inl (1, l)) => wIdx env i cut fun j => lset l j (.inr (.inr (.long x))) fun l => hset h a (.inl (1, l)) fun h => go n lv r m h c s
    | _ => false)
  | .inr (.inr (.double x)) :: i :: .inr (.inr (.ref a)) :: r => (match hget h a with
    | some (.inl (1, l)) => wIdx env i cut fun j => lset l j (.inr (.inr (.double x))) fun l => hset h a (.inl (1, l)) fun h => go n lv r m h c s
    | _ => false)
  | _ => false
noncomputable def o_aast (n : Nat) : OPF := fun _ env lv st m h c s go cut _ _ => match st with
  | .inr (.inr (.ref v)) :: i :: .inr (.inr (.ref a)) :: r => (match hget h a with
    | some (.inl (2, l)) => (match hget h v with
      | some (.inr (1, _)) => wIdx env i cut fun j => lset l j (.inr (.inr (.ref v))) fun l => hset h a (.inl (2, l)) fun h => go n lv r m h c s
      | _ => false)
    | _ => false)
  | _ => false
noncomputable def o_alen (n : Nat) : OPF := fun X _ lv st m h c s go _ _ _ => match st with
  | .inr (.inr (.ref a)) :: r => (match hget h a with
    | some (.inl (t, l)) => (match Nat.blt t 4 && Nat.blt l.length 2147483648 with
      | true => natF l.length fun z => go n lv (.inl (.ofNat z) :: r) m h c s
      | false => false)
    | _ => false)
  | .inr (.inr (.retAddr _)) :: r => (match Nat.blt X.1 2147483648 with
    | true => go n lv (.inl (.ofNat X.1) :: r) m h c s
    | false => false)
  | _ => false
noncomputable def o_get (ci f n : Nat) : OPF := fun _ _ lv st m h c s go _ _ _ => match st with
  | .inr (.inr (.ref a)) :: r => (match hget h a with
    | some (.inr (cj, fs)) => (match Nat.beq cj ci with
      | true => (match lget fs f with
        | some v => go n lv (v :: r) m h c s
        | none => false)
      | false => false)
    | _ => false)
  | _ => false
def isBit (v : AV) : Bool := match v with
  | .inl x => bEq x 0 || bEq x 1
  | _ => false
def isRf (v : AV) : Bool := match v with
  | .inr (.inr (.ref _)) => true
  | _ => false
def okTy (ty : Nat) (v : AV) : Bool := match ty with
  | 0 => isNum v
  | 1 => isBit v
  | _ => isRf v
/-- ty 0: a number, 1: yes or no, 2: a reference -/
noncomputable def o_put (ci f ty n : Nat) : OPF := fun _ _ lv st m h c s go _ _ _ => match st with
  | v :: .inr (.inr (.ref a)) :: r => (match hget h a with
    | some (.inr (cj, fs)) => (match Nat.beq cj ci && okTy ty v with
      | true => lset fs f v fun fs => hset h a (.inr (cj, fs)) fun h => go n lv r m h c s
      | false => false)
    | _ => false)
  | _ => false
noncomputable def wNew (X : CX9) (n : Nat) (lv r : LW) (m : Nat) (h : HT) (c s z : Nat) (v : AE) (go : GO) : Bool := match Nat.ble (c + 1) (pC X.2.1) && Nat.ble (s + z) (pS X.2.1) with
  | true => natF (m + 1) fun m1 => natF (c + 1) fun c1 => natF (s + z) fun s1 => hset h m v fun h => go n lv (.inr (.inr (.ref m)) :: r) m1 h c1 s1
  | false => false
noncomputable def o_newi (n : Nat) : OPF := fun X _ lv st m h c s go _ _ _ => match st with
  | .inl (.ofNat z) :: r => (match Nat.ble z 10000 with
    | true => repF (.inl 0) z fun l => wNew X n lv r m h c s z (.inl (0, l)) go
    | false => false)
  | _ => false
noncomputable def o_newl (n : Nat) : OPF := fun X _ lv st m h c s go _ _ _ => match st with
  | .inl (.ofNat z) :: r => (match Nat.ble z 10000 with
    | true => repF (.inr (.inr (.long 0))) z fun l => wNew X n lv r m h c s z (.inl (1, l)) go
    | false => false)
  | _ => false
noncomputable def o_newr (n : Nat) : OPF := fun X _ lv st m h c s go _ _ _ => match st with
  | .inl (.ofNat z) :: r => (match Nat.ble z 10000 with
    | true => repF aU z fun l => wNew X n lv r m h c s z (.inl (2, l)) go
    | false => false)
  | _ => false
/-- a row of z references, the first to b -/
noncomputable def refsF (z : Nat) : Nat → (LW → Bool) → Bool := Nat.rec (fun _ k => k []) (fun _ ih b k => natF (b + 1) fun b1 => ih b1 fun l => k (.inr (.inr (.ref b)) :: l)) z
noncomputable def rowsF (row : LW) (z : Nat) : Nat → HT → (HT → Bool) → Bool := Nat.rec (fun _ h k => k h) (fun _ ih b h k => hset h b (.inl (0, row)) fun h => natF (b + 1) fun b1 => ih b1 h k) z
noncomputable def o_new2 (n : Nat) : OPF := fun X _ lv st m h c s go _ _ _ => match st with
  | .inl (.ofNat w) :: .inl (.ofNat z) :: r => (match Nat.ble w 1000 && (Nat.ble z 1000 && (Nat.ble (c + (1 + z)) (pC X.2.1) && Nat.ble (s + (z + z * w)) (pS X.2.1))) with
    | true => refsF z (m + 1) fun l => repF (.inl 0) w fun row => hset h m (.inl (3, l)) fun h => rowsF row z (m + 1) h fun h =>
        natF (m + 1 + z) fun m1 => natF (c + (1 + z)) fun c1 => natF (s + (z + z * w)) fun s1 => go n lv (.inr (.inr (.ref m)) :: r) m1 h c1 s1
    | false => false)
  | _ => false
noncomputable def o_new (ci z : Nat) (d : LW) (n : Nat) : OPF := fun X _ lv st m h c s go _ _ _ => wNew X n lv st m h c s z (.inr (ci, d)) go
noncomputable def o_throw (e : Nat) : OPF := fun X _ _ st _ _ c s _ _ _ ret => match X.2.2 with
  | [] => (match Nat.ble (c + 1) (pC X.2.1) && (Nat.ble (s + 6) (pS X.2.1) && Nat.ble (cats st) 8) with
    | true => ret (.inr e)
    | false => false)
  | _ => false
def o_call (μ : Nat) (virt : Bool) : OPF := fun _ _ _ _ _ _ _ _ _ _ call _ => call μ virt
noncomputable def o_copy (n : Nat) : OPF := fun _ _ lv st m h c s go _ _ _ => match st with
  | .inl (.ofNat z) :: .inl (.ofNat dp) :: .inr (.inr (.ref a1)) :: .inl (.ofNat sp) :: .inr (.inr (.ref a0)) :: r => (match hget h a0 with
    | some (.inl (0, l0)) => (match hget h a1 with
      | some (.inl (0, l1)) => (match Nat.ble (sp + z) l0.length && (Nat.ble (dp + z) l1.length && Nat.ble (cats r) 8) with
        | true => hset h a1 (.inl (0, l1.take dp ++ (l0.drop sp).take z ++ l1.drop (dp + z))) fun h => go n lv r m h c s
        | false => false)
      | _ => false)
    | _ => false)
  | _ => false
noncomputable def o_obj (n : Nat) : OPF := fun _ _ lv st m h c s go _ _ _ => match st with
  | .inr (.inr (.ref _)) :: r => (match Nat.ble (cats r) 8 with
    | true => go n lv r m h c s
    | false => false)
  | _ => false
noncomputable def o_iret : OPF := fun X env _ st _ _ _ _ _ _ _ ret => match st with
  | [x] => (match pR X.2.1 with
    | some .int => (match isNum x with
      | true => ret (.inl (some x))
      | false => false)
    | some .boolean => lin env x (fun p => match Nat.beq p.1 0 && (bEq p.2.2 0 || bEq p.2.2 1) with
      | true => ret (.inl (some (.inl p.2.2)))
      | false => false) false
    | _ => false)
  | _ => false
def o_aret : OPF := fun X _ _ st _ _ _ _ _ _ _ ret => match st with
  | [.inr (.inr (.ref a))] => (match pR X.2.1 with
    | some (.object _) => ret (.inl (some (.inr (.inr (.ref a)))))
    | _ => false)
  | _ => false
def o_ret : OPF := fun X _ _ st _ _ _ _ _ _ _ ret => match st with
  | [] => (match pR X.2.1 with
    | none => ret (.inl none)
    | _ => false)
  | _ => false
/-- what an instruction is -/
def jT (pc : Nat) (z : Int) (f : Nat → OPF) : OPF := if 0 ≤ (pc : Int) + z then f ((pc : Int) + z).toNat else o_no
def dW (ci : Nat) : LW := (dflt ci).map fun v => match v with
  | .int x => .inl x.toInt
  | v => .inr (.inr v)
def noD (v : Value) : Bool := match v with
  | .double _ => false
  | _ => true
noncomputable def mkO (te : TE) : OPF := match te.2.1 with
  | .iconst z => o_push (.inl (Int32.ofInt z).toInt) (te.1 + 1)
  | .bipush z => o_push (.inl (Int8.ofInt z).toInt32.toInt) (te.1 + 2)
  | .sipush z => o_push (.inl (Int16.ofInt z).toInt32.toInt) (te.1 + 3)
  | .lconst n => o_push (.inr (.inr (.long (Int64.ofNat n)))) (te.1 + 1)
  | .ldc _ => (match KLs[te.2.2.1]? with
    | some q => if te.2.2.2 = 0 then o_push (.inl q.2.2.toInt) (te.1 + 2) else o_no
    | none => o_no)
  | .ldc_w _ => (match KLs[te.2.2.1]? with
    | some q => if te.2.2.2 = 0 then o_push (.inl q.2.2.toInt) (te.1 + 3) else o_no
    | none => o_no)
  | .iload i => o_iload i (te.1 + 2)
  | .iload_n i => o_iload i (te.1 + 1)
  | .aload i => o_aload i (te.1 + 2)
  | .aload_n i => o_aload i (te.1 + 1)
  | .istore i => o_istore i (te.1 + 2)
  | .istore_n i => o_istore i (te.1 + 1)
  | .astore i => o_astore i (te.1 + 2)
  | .astore_n i => o_astore i (te.1 + 1)
  | .iinc i z => if inI z z = true then o_iinc i z (te.1 + 3) else o_no
  | .iadd => o_iadd (te.1 + 1)
  | .isub => o_isub (te.1 + 1)
  | .imul => o_imul (te.1 + 1)
  | .idiv => o_idiv (te.1 + 1)
  | .irem => o_irem (te.1 + 1)
  | .ineg => o_ineg (te.1 + 1)
  | .ishl => o_any (fun x y => x <<< (y &&& 31)) (te.1 + 1)
  | .ishr => o_any (fun x y => x >>> (y &&& 31)) (te.1 + 1)
  | .iand => o_any (· &&& ·) (te.1 + 1)
  | .ior => o_any (· ||| ·) (te.1 + 1)
  | .ixor => o_any (· ^^^ ·) (te.1 + 1)
  | .i2l => o_i2l (te.1 + 1)
  | .lcmp => o_lcmp (te.1 + 1)
  | .dup => o_dup (te.1 + 1)
  | .dup2 => o_dup2 (te.1 + 1)
  | .pop => o_pop (te.1 + 1)
  | .goto z => jT te.1 z o_goto
  | .ifCond cc z => jT te.1 z fun t => o_if cc t (te.1 + 3)
  | .if_icmp cc z => jT te.1 z fun t => o_icmp cc t (te.1 + 3)
  | .tableswitch d lo hi offs => if offs.toList.all (fun o => decide (0 ≤ (te.1 : Int) + o)) = true ∧ hi - lo + 1 = offs.size then jT te.1 d fun d => o_sw d lo hi (offs.toList.map fun o => ((te.1 : Int) + o).toNat) else o_no
  | .iaload => o_iald (te.1 + 1)
  | .iastore => o_iast (te.1 + 1)
  | .laload => o_lald (te.1 + 1)
  | .lastore => o_last (te.1 + 1)
  | .aaload => o_aald (te.1 + 1)
  | .aastore => o_aast (te.1 + 1)
  | .arraylength => o_alen (te.1 + 1)
  | .getfield _ => if te.2.2.2 < fnum te.2.2.1 then o_get te.2.2.1 te.2.2.2 (te.1 + 3) else o_no
  | .putfield _ => if te.2.2.2 < fnum te.2.2.1 then (match ftyX te.2.2.1 te.2.2.2 with
    | .int => o_put te.2.2.1 te.2.2.2 0 (te.1 + 3)
    | .boolean => o_put te.2.2.1 te.2.2.2 1 (te.1 + 3)
    | .object _ => o_put te.2.2.1 te.2.2.2 2 (te.1 + 3)
    | .array _ => o_put te.2.2.1 te.2.2.2 2 (te.1 + 3)
    | _ => o_no) else o_no
  | .newarray .int => o_newi (te.1 + 2)
  | .newarray .long => o_newl (te.1 + 2)
  | .anewarray _ => o_newr (te.1 + 3)
  | .multianewarray _ _ => o_new2 (te.1 + 4)
  | .new _ => if te.2.2.2 = 0 ∧ (dflt te.2.2.1).all noD = true then o_new te.2.2.1 (fnum te.2.2.1) (dW te.2.2.1) (te.1 + 3) else if te.2.2.2 = 1 then (match XLs[te.2.2.1]? with
    | some x => o_throw x.2.2.1
    | none => o_no) else o_no
  | .invokevirtual _ => o_call te.2.2.1 true
  | .invokestatic _ => if te.2.2.2 = 7 then o_copy (te.1 + 3) else o_call te.2.2.1 false
  | .invokespecial _ => if te.2.2.2 = 6 then o_obj (te.1 + 3) else if te.2.2.2 = 4 ∨ te.2.2.2 = 5 then o_call te.2.2.1 true else o_no
  | .ireturn => o_iret
  | .areturn => o_aret
  | .return_ => o_ret
  | _ => o_no
/-- a method for the run: its row, its rows of exceptions, empty places, its instructions -/
abbrev MEn : Type := PM × HD4 × LW × List (Nat × OPF)
noncomputable def ffnd (pc : Nat) (l : List (Nat × OPF)) (k : OPF → List (Nat × OPF) → Bool) (no : Bool) : Bool := List.rec no (fun e r ih => Bool.rec ih (k e.2 r) (Nat.beq e.1 pc)) l
noncomputable def ffch (pc : Nat) (T rest : List (Nat × OPF)) (k : OPF → List (Nat × OPF) → Bool) : Bool := ffnd pc rest k (ffnd pc T k false)
noncomputable def lAll (f : EV → Bool) (l : List EV) : Bool := List.rec true (fun e _ ih => Bool.rec false ih (f e)) l
/-- n values off the stack, onto the places -/
noncomputable def tkr (n : Nat) : LW → LW → (LW → LW → Bool) → Bool := Nat.rec (fun st acc k => k acc st) (fun _ ih st acc k => match st with
  | x :: r => (match w1 x with
    | true => ih r (x :: acc) k
    | false => false)
  | [] => false) n
noncomputable def wRecv (virt : Bool) (o : Nat) (args : LW) (h : HT) (k : Bool) : Bool := match virt with
  | false => k
  | true => (match args with
    | .inr (.inr (.ref a)) :: _ => (match hget h a with
      | some (.inr (cj, _)) => (match Nat.beq cj o with
        | true => k
        | false => false)
      | _ => false)
    | _ => false)
def wBack (hd : HD4) (pc e : Nat) : AQ := match p_catch hd pc e with
  | some z => .inl (some (.inl (Int32.ofInt z).toInt))
  | none => .inr e
abbrev CAL : Type := Nat → MEn → EV → LW → Nat → HT → RT → Bool
noncomputable def mget (mt : List (List MEn)) (μ : Nat) : Option MEn := match lget mt (Nat.div μ 20) with
  | some r => lget r (Nat.mod μ 20)
  | none => none
noncomputable def aB (X : CX9) (T : List (Nat × OPF)) (mt : List (List MEn)) (cal : CAL) (ret : RT) : Nat → EV → Nat → List (Nat × OPF) → LW → LW → Nat → HT → Nat → Nat → Bool := fun k => Nat.rec (fun _ _ _ _ _ _ _ _ _ => false) (fun _ ih env pc rest lv st m h c s =>
  ffch pc T rest fun f r => f X env lv st m h c s (fun pc lv st m h c s => ih env pc r lv st m h c s) (fun l => lAll (fun env => ih env pc rest lv st m h c s) l)
      (fun μ virt => match mget mt μ with
        | some N => tkr (pN N.1) st N.2.2.1 fun args rst => (match Nat.ble (cats rst) 8 && (Nat.ble (c + pC N.1) (pC X.2.1) && Nat.ble (s + pS N.1) (pS X.2.1)) with
          | true => natF (c + pC N.1) fun c1 => natF (s + pS N.1) fun s1 => wRecv virt (pO N.1) args h (cal μ N env args m h (fun env q m h => match q with
            | .inl (some x) => ih env (pc + 3) r lv (x :: rst) m h c1 s1
            | .inl none => ih env (pc + 3) r lv rst m h c1 s1
            | .inr e => ret env (wBack X.2.2 pc e) m h))
          | false => false)
        | none => false)
      (fun q => ret env q m h)) k
noncomputable def aM (L fuel : Nat) (mt : List (List MEn)) (n : Nat) : CAL := Nat.rec (fun _ _ _ _ _ _ _ => false) (fun _ ih _ N env args m h ret => aB (L, N.1, N.2.1) N.2.2.2 mt ih ret fuel env 0 N.2.2.2 args [] m h 0 0) n

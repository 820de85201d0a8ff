/-! the careful evaluator: every state that keeps a heap of ranges; what is read gets a new symbol; both branches where it isn't known; loops by what holds at their heads -/
/-- number of symbols, their ranges, the newest first -/
abbrev EW : Type := Nat × List (Int × Int)
/-- known of the heap now: cell, place, value -/
abbrev MW : Type := List (Nat × AV × AV)
/-- a number in a range, or a reference into a region -/
abbrev AS : Type := (Int × Int) ⊕ Nat
/-- a row of numbers (length, stride, a range for each residue of the place), a row of longs (length), a row of references into a region (tag, region), an object (number of its class, fields) -/
abbrev CS : Type := (Nat × Nat × List (Int × Int)) ⊕ (Nat ⊕ ((Nat × Nat) ⊕ (Nat × List AS)))
/-- regions: addresses, and what each cell of it is; a reference in a cell leads to the same place of its region (to its only cell, if it has one) -/
abbrev RS : Type := List (List Nat × CS)
abbrev GG : Type := Nat → EW → LW → LW → MW → Nat → Nat → Bool
abbrev GR : Type := EW → AQ → MW → Bool
/-- what may be written: region, and 0 for all of it, or a field's number and 1 -/
abbrev WL : Type := List (Nat × Nat)
abbrev GX : Type := PM × HD4 × RS × WL
abbrev GPF : Type := GX → EW → LW → LW → MW → Nat → Nat → GG → (Nat → Bool → Bool) → (AQ → Bool) → Bool
noncomputable def eget (env : EW) (t : Nat) : Option (Int × Int) := match Nat.blt t env.1 with
  | true => lget env.2 (Nat.sub (Nat.sub env.1 1) t)
  | false => none
noncomputable def eset (env : EW) (t : Nat) (r : Int × Int) (k : EW → Bool) : Bool := match Nat.blt t env.1 with
  | true => lset env.2 (Nat.sub (Nat.sub env.1 1) t) r fun l => k (env.1, l)
  | false => false
/-- a new symbol -/
def frs (env : EW) (lo hi : Int) (k : EW → AV → Bool) : Bool := iF lo fun lo => iF hi fun hi => natF (env.1 + 1) fun n => k (n, (lo, hi) :: env.2) (aY env.1 1 0)
noncomputable def gK (env : EW) (v : AV) (k : Int → Int → Bool) : Bool := match v with
  | .inl x => k x x
  | .inr (.inl (0, lo, hi)) => k lo hi
  | .inr (.inl (t + 1, a, b)) => (match eget env t with
    | some r => (match bLt a 0 with
      | false => iF (a * r.1 + b) fun x => iF (a * r.2 + b) fun y => k x y
      | true => iF (a * r.2 + b) fun x => iF (a * r.1 + b) fun y => k x y)
    | none => false)
  | .inr (.inr _) => false
/-- a number is in a range: what that says of its symbol; where it can't be, nothing is owed -/
noncomputable def rfn (env : EW) (v : AV) (lo hi : Int) (k : EW → Bool) : Bool := match v with
  | .inl x => (match bLe lo x && bLe x hi with
    | true => k env
    | false => true)
  | .inr (.inl (t + 1, 1, b)) => (match eget env t with
    | some r => iF (max r.1 (lo - b)) fun x => iF (min r.2 (hi - b)) fun y => (match bLe x y with
      | true => eset env t (x, y) k
      | false => true)
    | none => false)
  | .inr (.inl (t + 1, -1, b)) => (match eget env t with
    | some r => iF (max r.1 (b - hi)) fun x => iF (min r.2 (b - lo)) fun y => (match bLe x y with
      | true => eset env t (x, y) k
      | false => true)
    | none => false)
  | _ => k env
def ngC (c : ClassFile.Cond) : ClassFile.Cond := match c with
  | .eq => .ne
  | .ne => .eq
  | .lt => .ge
  | .ge => .lt
  | .gt => .le
  | .le => .gt
/-- what c of x and y says of their symbols; [a, b] and [a', b'] are their ranges -/
noncomputable def rfC (env : EW) (c : ClassFile.Cond) (x y : AV) (a b a' b' : Int) (k : EW → Bool) : Bool := match c with
  | .lt => rfn env x iLo (b' - 1) fun env => rfn env y (a + 1) iHi k
  | .ge => rfn env x a' iHi fun env => rfn env y iLo b k
  | .gt => rfn env x (a' + 1) iHi fun env => rfn env y iLo (b - 1) k
  | .le => rfn env x iLo b' fun env => rfn env y a iHi k
  | .eq => rfn env x a' b' fun env => rfn env y a b k
  | .ne => (match bEq a' b' with
    | true => (match bEq a a' with
      | true => rfn env x (a + 1) iHi k
      | false => (match bEq b a' with
        | true => rfn env x iLo (b - 1) k
        | false => k env))
    | false => k env)
/-- both ways, each with what it says -/
noncomputable def gBr (env : EW) (c : ClassFile.Cond) (x y : AV) (t f : EW → Bool) : Bool := gK env x fun a b => gK env y fun a' b' => match cmpR c a b a' b' with
  | some true => t env
  | some false => f env
  | none => (match rfC env c x y a b a' b' t with
    | true => rfC env (ngC c) x y a b a' b' f
    | false => false)
noncomputable def gRng (env : EW) (lo hi : Int) (k : EW → AV → Bool) : Bool := match bEq lo hi && inI lo hi with
  | true => iF lo fun x => k env (.inl x)
  | false => (match inI lo hi with
    | true => frs env lo hi k
    | false => frs env iLo iHi k)
/-- a times a symbol and b, if that stays in the numbers; else by its range -/
noncomputable def gLin (env : EW) (t : Nat) (a b : Int) (k : EW → AV → Bool) : Bool := gK env (aY t a b) fun lo hi => match inI lo hi with
  | true => iF a fun a => iF b fun b => k env (aY t a b)
  | false => frs env iLo iHi k
noncomputable def gAdd (env : EW) (x y : AV) (k : EW → AV → Bool) : Bool := match x, y with
  | .inl a, .inl b => kInt (a + b) fun v => k env v
  | .inr (.inl (t + 1, a, b)), .inl z => gLin env t a (b + z) k
  | .inl z, .inr (.inl (t + 1, a, b)) => gLin env t a (b + z) k
  | x, y => gK env x fun a b => gK env y fun a' b' => gRng env (a + a') (b + b') k
noncomputable def gSub (env : EW) (x y : AV) (k : EW → AV → Bool) : Bool := match x, y with
  | .inl a, .inl b => kInt (a - b) fun v => k env v
  | .inr (.inl (t + 1, a, b)), .inl z => gLin env t a (b - z) k
  | .inl z, .inr (.inl (t + 1, a, b)) => gLin env t (-a) (z - b) k
  | x, y => gK env x fun a b => gK env y fun a' b' => gRng env (a - b') (b - a') k
def mn4 (a b c d : Int) : Int := min (min a b) (min c d)
def mx4 (a b c d : Int) : Int := max (max a b) (max c d)
noncomputable def gMul (env : EW) (x y : AV) (k : EW → AV → Bool) : Bool := match x, y with
  | .inl a, .inl b => kInt (a * b) fun v => k env v
  | .inr (.inl (t + 1, a, b)), .inl z => gLin env t (a * z) (b * z) k
  | .inl z, .inr (.inl (t + 1, a, b)) => gLin env t (a * z) (b * z) k
  | x, y => gK env x fun a b => gK env y fun a' b' => gRng env (mn4 (a * a') (a * b') (b * a') (b * b')) (mx4 (a * a') (a * b') (b * a') (b * b')) k
/-- a divisor above 0 -/
noncomputable def gPos (env : EW) (y : AV) (k : Int → Bool) : Bool := gK env y fun a b => match bLt 0 a with
  | true => k b
  | false => false
noncomputable def gDiv (env : EW) (x y : AV) (k : EW → AV → Bool) : Bool := match x, y with
  | .inl a, .inl b => (match bEq b 0 with
    | true => false
    | false => iF (bin (· / ·) a b) fun z => k env (.inl z))
  | x, y => gPos env y fun _ => gK env x fun a b => gRng env (min a 0) (max b 0) k
noncomputable def gRem (env : EW) (x y : AV) (k : EW → AV → Bool) : Bool := match x, y with
  | .inl a, .inl b => (match bEq b 0 with
    | true => false
    | false => iF (bin (fun x y => x - x / y * y) a b) fun z => k env (.inl z))
  | x, y => gPos env y fun m => gK env x fun a b => (match bLt a 0 with
    | true => gRng env (1 - m) (m - 1) k
    | false => gRng env 0 (min (m - 1) b) k)
/-- and: below a mask that isn't below 0 -/
noncomputable def gAny (env : EW) (x y : AV) (f : Int32 → Int32 → Int32) (k : EW → AV → Bool) : Bool := gK env x fun a b => gK env y fun a' b' => match bEq a b && bEq a' b' with
  | true => iF (bin f a a') fun z => k env (.inl z)
  | false => frs env iLo iHi k
/-- a cell's key: region * 65536 + symbol of its place there (65535: its only cell) -/
abbrev aC (e : Nat) : AV := .inr (.inr (.retAddr e))
noncomputable def kspec (rs : RS) (e : Nat) : Option (List Nat × CS) := lget rs (Nat.div e 65536)
def isOne (l : List Nat) : Bool := match l with
  | [_] => true
  | _ => false
/-- from a cell into region k -/
noncomputable def kto (rs : RS) (e k : Nat) (c : Nat → Bool) : Bool := match lget rs k with
  | some q => (match isOne q.1 with
    | true => natF (k * 65536 + 65535) c
    | false => (match kspec rs e with
      | some p => (match Nat.beq p.1.length q.1.length with
        | true => natF (k * 65536 + Nat.mod e 65536) c
        | false => false)
      | none => false))
  | none => false
def aEq (x y : AV) : Bool := match x, y with
  | .inl a, .inl b => bEq a b
  | .inr (.inl (t, a, b)), .inr (.inl (u, c, d)) => Nat.beq t u && (!(Nat.beq t 0) && (bEq a c && bEq b d))
  | _, _ => false
noncomputable def mfind (m : MW) (e : Nat) (p : AV) (k : AV → Bool) (no : Bool) : Bool := List.rec no (fun f _ ih => match Nat.beq f.1 e && aEq f.2.1 p with
  | true => k f.2.2
  | false => ih) m
def isK (x : AV) : Bool := match x with
  | .inl _ => true
  | _ => false
/-- a write at a place of a cell of the region: what is no longer known goes -/
noncomputable def mdrop (m : MW) (r : Nat) (p : AV) : (MW → Bool) → Bool := List.rec (fun k => k []) (fun f _ ih k => match Nat.beq (Nat.div f.1 65536) r && !(isK f.2.1 && (isK p && !(aEq f.2.1 p))) with
  | true => ih k
  | false => ih fun m => k (f :: m)) m
def wAllB (wr : WL) (k : Nat) : Bool := wr.any fun x => Nat.beq x.1 k && Nat.beq x.2 0
def wAll (wr : WL) (k : Nat) (b : Bool) : Bool := match wAllB wr k with
  | true => b
  | false => false
def wHas (wr : WL) (k f : Nat) (b : Bool) : Bool := match wr.any fun x => Nat.beq x.1 k && (Nat.beq x.2 0 || Nat.beq x.2 (f + 1)) with
  | true => b
  | false => false
/-- instructions -/
def g_no : GPF := fun _ _ _ _ _ _ _ _ _ _ => false
def g_push (v : AV) (n : Nat) : GPF := fun _ env lv st m c s go _ _ => go n env lv (v :: st) m c s
noncomputable def g_iload (i n : Nat) : GPF := fun _ env lv st m c s go _ _ => match lget lv i with
  | some v => (match isNum v with
    | true => go n env lv (v :: st) m c s
    | false => false)
  | none => false
noncomputable def g_aload (i n : Nat) : GPF := fun _ env lv st m c s go _ _ => match lget lv i with
  | some (.inr (.inr (.retAddr e))) => go n env lv (aC e :: st) m c s
  | _ => false
noncomputable def g_istore (i n : Nat) : GPF := fun X env lv st m c s go _ _ => match st with
  | v :: r => (match isNum v && Nat.blt i (pL X.1) with
    | true => lset lv i v fun lv => go n env lv r m c s
    | false => false)
  | _ => false
noncomputable def g_astore (i n : Nat) : GPF := fun X env lv st m c s go _ _ => match st with
  | .inr (.inr (.retAddr e)) :: r => (match Nat.blt i (pL X.1) with
    | true => lset lv i (aC e) fun lv => go n env lv r m c s
    | false => false)
  | _ => false
noncomputable def g_iinc (i : Nat) (z : Int) (n : Nat) : GPF := fun X env lv st m c s go _ _ => match lget lv i with
  | some x => (match isNum x && Nat.blt i (pL X.1) with
    | true => gAdd env x (.inl z) fun env v => lset lv i v fun lv => go n env lv st m c s
    | false => false)
  | none => false
noncomputable def g_bin (f : EW → AV → AV → (EW → AV → Bool) → Bool) (n : Nat) : GPF := fun _ env lv st m c s go _ _ => match st with
  | y :: x :: r => f env x y fun env v => go n env lv (v :: r) m c s
  | _ => false
noncomputable def g_neg (n : Nat) : GPF := fun _ env lv st m c s go _ _ => match st with
  | x :: r => gSub env (.inl 0) x fun env v => go n env lv (v :: r) m c s
  | _ => false
noncomputable def g_i2l (n : Nat) : GPF := fun _ env lv st m c s go _ _ => match st with
  | x :: r => (match isNum x with
    | true => go n env lv (.inr (.inr (.double 0)) :: r) m c s
    | false => false)
  | _ => false
def g_dup (n : Nat) : GPF := fun _ env lv st m c s go _ _ => match st with
  | v :: r => (match w1 v with
    | true => go n env lv (v :: v :: r) m c s
    | false => false)
  | _ => false
def g_dup2 (n : Nat) : GPF := fun _ env lv st m c s go _ _ => match st with
  | v :: w :: r => (match w1 v && w1 w with
    | true => go n env lv (v :: w :: v :: w :: r) m c s
    | false => false)
  | _ => false
def g_pop (n : Nat) : GPF := fun _ env lv st m c s go _ _ => match st with
  | v :: r => (match w1 v with
    | true => go n env lv r m c s
    | false => false)
  | _ => false
def g_goto (t : Nat) : GPF := fun _ env lv st m c s go _ _ => go t env lv st m c s
noncomputable def g_if (cc : ClassFile.Cond) (t n : Nat) : GPF := fun _ env lv st m c s go _ _ => match st with
  | x :: r => gBr env cc x (.inl 0) (fun env => go t env lv r m c s) (fun env => go n env lv r m c s)
  | _ => false
noncomputable def g_icmp (cc : ClassFile.Cond) (t n : Nat) : GPF := fun _ env lv st m c s go _ _ => match st with
  | y :: x :: r => gBr env cc x y (fun env => go t env lv r m c s) (fun env => go n env lv r m c s)
  | _ => false
/-- all places of a table, each with what it says -/
noncomputable def g_sw1 (env : EW) (x : AV) (go : Nat → EW → Bool) (ts : List Nat) : Int → Bool := List.rec (fun _ => true) (fun t _ ih j => match rfn env x j j (go t) with
  | true => iF (j + 1) ih
  | false => false) ts
noncomputable def g_sw (d : Nat) (lo hi : Int) (ts : List Nat) : GPF := fun _ env lv st m c s go _ _ => match st with
  | x :: r => gK env x fun _ _ => (match go d env lv r m c s with
    | true => g_sw1 env x (fun t env => go t env lv r m c s) ts lo
    | false => false)
  | _ => false
/-- a place in a row of n -/
noncomputable def gIn (env : EW) (i : AV) (n : Nat) (k : Bool) : Bool := gK env i fun lo hi => match bLe 0 lo && bLt hi (.ofNat n) with
  | true => k
  | false => false
/-- the residue of a place, where it is known -/
def resid (s : Nat) (i : AV) : Option Nat := match Nat.beq s 1 with
  | true => some 0
  | false => (match i with
    | .inl x => some (Nat.mod x.toNat s)
    | .inr (.inl (_ + 1, a, b)) => (match bEq (Int.emod a (.ofNat s)) 0 with
      | true => some (Int.emod b (.ofNat s)).toNat
      | false => none)
    | _ => none)
noncomputable def rsel (s : Nat) (rl : List (Int × Int)) (i : AV) (k : Int → Int → Bool) : Bool := match resid s i with
  | some q => (match lget rl q with
    | some r => k r.1 r.2
    | none => false)
  | none => false
/-- the same for reading: any number where the residue isn't known -/
noncomputable def rselR (s : Nat) (rl : List (Int × Int)) (i : AV) (k : Int → Int → Bool) : Bool := match resid s i with
  | some _ => rsel s rl i k
  | none => k iLo iHi
noncomputable def g_iald (n : Nat) : GPF := fun X env lv st m c s go _ _ => match st with
  | i :: .inr (.inr (.retAddr e)) :: r => (match kspec X.2.2.1 e with
    | some (_, .inl (z, sd, rl)) => gIn env i z (mfind m e i (fun v => go n env lv (v :: r) m c s) (rselR sd rl i fun lo hi => frs env lo hi fun env v => go n env lv (v :: r) ((e, i, v) :: m) c s))
    | _ => false)
  | _ => false
noncomputable def gSub2 (env : EW) (v : AV) (lo hi : Int) (k : Bool) : Bool := gK env v fun a b => match bLe lo a && bLe b hi with
  | true => k
  | false => false
noncomputable def g_iast (n : Nat) : GPF := fun X env lv st m c s go _ _ => match st with
  | v :: i :: .inr (.inr (.retAddr e)) :: r => (match kspec X.2.2.1 e with
    | some (_, .inl (z, sd, rl)) => gIn env i z (rsel sd rl i fun lo hi => gSub2 env v lo hi (wAll X.2.2.2 (Nat.div e 65536) (mdrop m (Nat.div e 65536) i fun m => go n env lv r ((e, i, v) :: m) c s)))
    | _ => false)
  | _ => false
noncomputable def g_last (n : Nat) : GPF := fun X env lv st m c s go _ _ => match st with
  | .inr (.inr (.double _)) :: i :: .inr (.inr (.retAddr e)) :: r => (match kspec X.2.2.1 e with
    | some (_, .inr (.inl z)) => gIn env i z (go n env lv r m c s)
    | _ => false)
  | _ => false
noncomputable def g_aald (n : Nat) : GPF := fun X env lv st m c s go _ _ => match st with
  | i :: .inr (.inr (.retAddr e)) :: r => (match kspec X.2.2.1 e with
    | some (_, .inr (.inr (.inl (_, k)))) => (match lget X.2.2.1 k with
      | some q => (match i with
        | .inr (.inl (t + 1, 1, 0)) => (match Nat.blt t 65536 with
          | true => gIn env i q.1.length (natF (k * 65536 + t) fun e => go n env lv (aC e :: r) m c s)
          | false => false)
        | i => (match Nat.blt env.1 65536 with
          | true => gIn env i q.1.length (gK env i fun lo hi => frs env lo hi fun env2 _ => natF (k * 65536 + env.1) fun e => go n env2 lv (aC e :: r) m c s)
          | false => false))
      | none => false)
    | _ => false)
  | _ => false
noncomputable def g_get (ci f n : Nat) : GPF := fun X env lv st m c s go _ _ => match st with
  | .inr (.inr (.retAddr e)) :: r => (match kspec X.2.2.1 e with
    | some (_, .inr (.inr (.inr (cj, fs)))) => (match Nat.beq cj ci with
      | true => (match lget fs f with
        | some (.inl (lo, hi)) => mfind m e (.inl (.ofNat f)) (fun v => go n env lv (v :: r) m c s) (frs env lo hi fun env v => go n env lv (v :: r) ((e, .inl (.ofNat f), v) :: m) c s)
        | some (.inr k) => kto X.2.2.1 e k fun e => go n env lv (aC e :: r) m c s
        | none => false)
      | false => false)
    | _ => false)
  | _ => false
noncomputable def g_put (ci f n : Nat) : GPF := fun X env lv st m c s go _ _ => match st with
  | v :: .inr (.inr (.retAddr e)) :: r => (match kspec X.2.2.1 e with
    | some (_, .inr (.inr (.inr (cj, fs)))) => (match Nat.beq cj ci with
      | true => (match lget fs f with
        | some (.inl (lo, hi)) => gSub2 env v lo hi (wHas X.2.2.2 (Nat.div e 65536) f (mdrop m (Nat.div e 65536) (.inl (.ofNat f)) fun m => go n env lv r ((e, .inl (.ofNat f), v) :: m) c s))
        | _ => false)
      | false => false)
    | _ => false)
  | _ => false
noncomputable def g_alen (n : Nat) : GPF := fun X env lv st m c s go _ _ => match st with
  | .inr (.inr (.retAddr e)) :: r => (match kspec X.2.2.1 e with
    | some (_, .inl (z, _, _)) => (match Nat.blt z 2147483648 with
      | true => go n env lv (.inl (.ofNat z) :: r) m c s
      | false => false)
    | _ => false)
  | _ => false
noncomputable def g_throw (x : Nat) : GPF := fun X _ _ st _ c s _ _ ret => match X.2.1 with
  | [] => (match Nat.ble (c + 1) (pC X.1) && (Nat.ble (s + 6) (pS X.1) && Nat.ble (cats st) 8) with
    | true => ret (.inr x)
    | false => false)
  | _ => false
def g_call (μ : Nat) (virt : Bool) : GPF := fun _ _ _ _ _ _ _ _ call _ => call μ virt
noncomputable def g_iret : GPF := fun X env _ st _ _ _ _ _ ret => match st with
  | [x] => (match pR X.1 with
    | some .int => (match isNum x with
      | true => ret (.inl (some x))
      | false => false)
    | some .boolean => gSub2 env x 0 1 (ret (.inl (some x)))
    | _ => false)
  | _ => false
def g_aret : GPF := fun X _ _ st _ _ _ _ _ ret => match st with
  | [.inr (.inr (.retAddr e))] => (match pR X.1 with
    | some (.object _) => ret (.inl (some (aC e)))
    | _ => false)
  | _ => false
def g_ret : GPF := fun X _ _ st _ _ _ _ _ ret => match st with
  | [] => (match pR X.1 with
    | none => ret (.inl none)
    | _ => false)
  | _ => false
/-- System.arraycopy -/
noncomputable def g_copy (n : Nat) : GPF := fun X env lv st m c s go _ _ => match st with
  | z :: dp :: .inr (.inr (.retAddr e1)) :: sp :: .inr (.inr (.retAddr e0)) :: r => (match kspec X.2.2.1 e0 with
    | some (_, .inl (n0, 1, [(lo0, hi0)])) => (match kspec X.2.2.1 e1 with
      | some (_, .inl (n1, 1, [(lo1, hi1)])) => gK env z fun za zb => gK env dp fun da db => gK env sp fun sa sb => (match (bLe 0 za && (bLe 0 da && bLe 0 sa)) && ((bLe (sb + zb) (.ofNat n0) && bLe (db + zb) (.ofNat n1)) && ((bLe lo1 lo0 && bLe hi0 hi1) && Nat.ble (cats r) 8)) with
        | true => wAll X.2.2.2 (Nat.div e1 65536) (mdrop m (Nat.div e1 65536) aTop fun m => go n env lv r m c s)
        | false => false)
      | _ => false)
    | _ => false)
  | _ => false
def isL (v : AV) : Bool := match v with
  | .inr (.inr (.double _)) => true
  | _ => false
noncomputable def g_lload (i n : Nat) : GPF := fun _ env lv st m c s go _ _ => match lget lv i with
  | some v => (match isL v with
    | true => go n env lv (v :: st) m c s
    | false => false)
  | none => false
noncomputable def g_lbin (n : Nat) : GPF := fun _ env lv st m c s go _ _ => match st with
  | y :: x :: r => (match isL x && isL y with
    | true => go n env lv (x :: r) m c s
    | false => false)
  | _ => false
noncomputable def g_lshl (n : Nat) : GPF := fun _ env lv st m c s go _ _ => match st with
  | y :: x :: r => (match isL x && isNum y with
    | true => go n env lv (x :: r) m c s
    | false => false)
  | _ => false
noncomputable def g_lcmp (n : Nat) : GPF := fun _ env lv st m c s go _ _ => match st with
  | y :: x :: r => (match isL x && isL y with
    | true => frs env (-1) 1 fun env v => go n env lv (v :: r) m c s
    | false => false)
  | _ => false
noncomputable def g_lret : GPF := fun X _ _ st _ _ _ _ _ ret => match st with
  | [x] => (match pR X.1 with
    | some .long => (match isL x with
      | true => ret (.inl (some x))
      | false => false)
    | _ => false)
  | _ => false
/-- the place ahead is no long -/
noncomputable def noL (lv : LW) (i : Nat) (k : Bool) : Bool := match i with
  | 0 => k
  | j + 1 => (match lget lv j with
    | some v => (match isL v with
      | true => false
      | false => k)
    | none => k)
noncomputable def g_istore2 (i n : Nat) : GPF := fun X env lv st m c s go call ret => noL lv i (g_istore i n X env lv st m c s go call ret)
noncomputable def g_astore2 (i n : Nat) : GPF := fun X env lv st m c s go call ret => noL lv i (g_astore i n X env lv st m c s go call ret)
noncomputable def g_iinc2 (i : Nat) (z : Int) (n : Nat) : GPF := fun X env lv st m c s go call ret => noL lv i (g_iinc i z n X env lv st m c s go call ret)
noncomputable def g_lstore (i n : Nat) : GPF := fun X env lv st m c s go _ _ => match st with
  | v :: r => (match isL v && Nat.blt (i + 1) (pL X.1) with
    | true => noL lv i (lset lv i v fun lv => lset lv (i + 1) aU fun lv => go n env lv r m c s)
    | false => false)
  | _ => false
noncomputable def g_putb (ci f n : Nat) : GPF := fun X env lv st m c s go call ret => match st with
  | v :: r => gSub2 env v 0 1 (g_put ci f n X env lv (v :: r) m c s go call ret)
  | _ => false
def jG (pc : Nat) (z : Int) (f : Nat → GPF) : GPF := if 0 ≤ (pc : Int) + z then f ((pc : Int) + z).toNat else g_no
noncomputable def mkG (te : TE) : GPF := match te.2.1 with
  | .iconst z => g_push (.inl (Int32.ofInt z).toInt) (te.1 + 1)
  | .bipush z => g_push (.inl (Int8.ofInt z).toInt32.toInt) (te.1 + 2)
  | .sipush z => g_push (.inl (Int16.ofInt z).toInt32.toInt) (te.1 + 3)
  | .lconst _ => g_push (.inr (.inr (.double 0))) (te.1 + 1)
  | .ldc _ => (match KLs[te.2.2.1]? with
    | some q => if te.2.2.2 = 0 then g_push (.inl q.2.2.toInt) (te.1 + 2) else g_no
    | none => g_no)
  | .ldc_w _ => (match KLs[te.2.2.1]? with
    | some q => if te.2.2.2 = 0 then g_push (.inl q.2.2.toInt) (te.1 + 3) else g_no
    | none => g_no)
  | .iload i => g_iload i (te.1 + 2)
  | .iload_n i => g_iload i (te.1 + 1)
  | .lload i => g_lload i (te.1 + 2)
  | .aload i => g_aload i (te.1 + 2)
  | .aload_n i => g_aload i (te.1 + 1)
  | .istore i => g_istore2 i (te.1 + 2)
  | .istore_n i => g_istore2 i (te.1 + 1)
  | .lstore i => g_lstore i (te.1 + 2)
  | .astore i => g_astore2 i (te.1 + 2)
  | .astore_n i => g_astore2 i (te.1 + 1)
  | .iinc i z => if inI z z = true then g_iinc2 i z (te.1 + 3) else g_no
  | .iadd => g_bin gAdd (te.1 + 1)
  | .isub => g_bin gSub (te.1 + 1)
  | .imul => g_bin gMul (te.1 + 1)
  | .idiv => g_bin gDiv (te.1 + 1)
  | .irem => g_bin gRem (te.1 + 1)
  | .ineg => g_neg (te.1 + 1)
  | .ishl => g_bin (fun env x y => gAny env x y (fun x y => x <<< (y &&& 31))) (te.1 + 1)
  | .ishr => g_bin (fun env x y => gAny env x y (fun x y => x >>> (y &&& 31))) (te.1 + 1)
  | .iushr => g_bin (fun env x y => gAny env x y (fun x y => (x.toUInt32 >>> (y.toUInt32 &&& Int32.toUInt32 31)).toInt32)) (te.1 + 1)
  | .iand => g_bin (fun env x y => gAny env x y (· &&& ·)) (te.1 + 1)
  | .ior => g_bin (fun env x y => gAny env x y (· ||| ·)) (te.1 + 1)
  | .ixor => g_bin (fun env x y => gAny env x y (· ^^^ ·)) (te.1 + 1)
  | .i2l => g_i2l (te.1 + 1)
  | .lcmp => g_lcmp (te.1 + 1)
  | .lshl => g_lshl (te.1 + 1)
  | .lor => g_lbin (te.1 + 1)
  | .land => g_lbin (te.1 + 1)
  | .dup => g_dup (te.1 + 1)
  | .dup2 => g_dup2 (te.1 + 1)
  | .pop => g_pop (te.1 + 1)
  | .goto z => jG te.1 z g_goto
  | .ifCond cc z => jG te.1 z fun t => g_if cc t (te.1 + 3)
  | .if_icmp cc z => jG te.1 z fun t => g_icmp cc t (te.1 + 3)
  | .tableswitch d lo hi offs => if offs.toList.all (fun o => decide (0 ≤ (te.1 : Int) + o)) = true ∧ hi - lo + 1 = offs.size then jG te.1 d fun d => g_sw d lo hi (offs.toList.map fun o => ((te.1 : Int) + o).toNat) else g_no
  | .iaload => g_iald (te.1 + 1)
  | .iastore => g_iast (te.1 + 1)
  | .lastore => g_last (te.1 + 1)
  | .aaload => g_aald (te.1 + 1)
  | .arraylength => g_alen (te.1 + 1)
  | .getfield _ => if te.2.2.2 < fnum te.2.2.1 then g_get te.2.2.1 te.2.2.2 (te.1 + 3) else g_no
  | .putfield _ => if te.2.2.2 < fnum te.2.2.1 then (match ftyX te.2.2.1 te.2.2.2 with
    | .int => g_put te.2.2.1 te.2.2.2 (te.1 + 3)
    | .boolean => g_putb te.2.2.1 te.2.2.2 (te.1 + 3)
    | _ => g_no) else g_no
  | .new _ => if te.2.2.2 = 1 then (match XLs[te.2.2.1]? with
    | some x => g_throw x.2.2.1
    | none => g_no) else g_no
  | .invokevirtual _ => g_call te.2.2.1 true
  | .invokestatic _ => if te.2.2.2 = 7 then g_copy (te.1 + 3) else g_call te.2.2.1 false
  | .ireturn => g_iret
  | .lreturn => g_lret
  | .areturn => g_aret
  | .return_ => g_ret
  | _ => g_no
/-! the careful evaluator: what its pictures mean -/
def adR (rs : RS) (θ : Nat → Int32) (n e A : Nat) : Prop := ∃ q, rs[e / 65536]? = some q ∧ ((isOne q.1 = true ∧ q.1[0]? = some A) ∨ (isOne q.1 = false ∧ e % 65536 < n ∧ 0 ≤ (θ (e % 65536)).toInt ∧ q.1[(θ (e % 65536)).toInt.toNat]? = some A))
def asR (rs : RS) (i : Nat) (a : AS) (w : Value) : Prop := match a with
  | .inl (lo, hi) => ∃ y : Int32, w = .int y ∧ lo ≤ y.toInt ∧ y.toInt ≤ hi
  | .inr k => ∃ q A, rs[k]? = some q ∧ q.1[if isOne q.1 = true then 0 else i]? = some A ∧ w = .ref A
def csR (rs : RS) (i : Nat) (c : CS) (y : PE) : Prop := match c with
  | .inl (z, sd, rl) => ∃ g, y = .inl (0, z, .inl g) ∧ ∀ j, j < z → ∃ r, rl[j % sd]? = some r ∧ r.1 ≤ (g j).toInt ∧ (g j).toInt ≤ r.2
  | .inr (.inl z) => ∃ g, y = .inl (1, z, .inr (.inl g))
  | .inr (.inr (.inl (t, k))) => (t = 2 ∨ t = 3) ∧ ∃ q g, rs[k]? = some q ∧ isOne q.1 = false ∧ y = .inl (t, q.1.length, .inr (.inr (.inr (.inr g)))) ∧ ∀ (j A : Nat), q.1[j]? = some A → g j = some A
  | .inr (.inr (.inr (ci, fs))) => ∃ gs, y = .inr (ci, gs) ∧ gs.length = fs.length ∧ ∀ (f : Nat) (a : AS), fs[f]? = some a → ∃ w, gs[f]? = some w ∧ asR rs i a w
def HOK (rs : RS) (h : PH) : Prop := ∀ (k : Nat) (q : List Nat × CS) (i A : Nat), rs[k]? = some q → q.1[i]? = some A → ∃ y, h[A]? = some y ∧ csR rs i q.2 y
def DJ (rs : RS) : Prop := ∀ (k k' : Nat) (q q' : List Nat × CS) (i i' A : Nat), rs[k]? = some q → q.1[i]? = some A → rs[k']? = some q' → q'.1[i']? = some A → k = k' ∧ i = i'
def vG (rs : RS) (θ : Nat → Int32) (n : Nat) (a : AV) (w : Value) : Prop := match a with
  | .inl x => ∃ y : Int32, w = .int y ∧ y.toInt = x
  | .inr (.inl (0, lo, hi)) => ∃ y : Int32, w = .int y ∧ lo ≤ y.toInt ∧ y.toInt ≤ hi
  | .inr (.inl (t + 1, a, b)) => t < n ∧ ∃ y : Int32, w = .int y ∧ y.toInt = a * (θ t).toInt + b
  | .inr (.inr (.retAddr e)) => ∃ A, adR rs θ n e A ∧ w = .ref A
  | .inr (.inr (.double _)) => ∃ x : Int64, w = .long x
  | .inr (.inr v) => w = v
def eG (θ : Nat → Int32) (env : EW) : Prop := env.2.length = env.1 ∧ ∀ (i : Nat) (r : Int × Int), env.2[i]? = some r → r.1 ≤ (θ (env.1 - 1 - i)).toInt ∧ (θ (env.1 - 1 - i)).toInt ≤ r.2
/-- places hold numbers, references or longs alone -/
def plain1 (v : AV) : Bool := isNum v || (match v with
  | .inr (.inr (.retAddr _)) => true
  | .inr (.inr (.double _)) => true
  | .inr (.inr .null) => true
  | .inr (.inr (.int _)) => true
  | _ => false)
def lG (rs : RS) (θ : Nat → Int32) (n : Nat) (lv : LW) (lv' : LV) : Prop := ∀ i v, lv[i]? = some v → plain1 v = true ∧ (v = aU ∨ ∃ w, px_g lv' i = some w ∧ vG rs θ n v w)
def cellAt (h : PH) (A j : Nat) (w : Value) : Prop := (∃ z g, h[A]? = some (.inl (0, z, .inl g)) ∧ w = .int (g j)) ∨ ∃ ci gs, h[A]? = some (.inr (ci, gs)) ∧ gs[j]? = some w
def mG (rs : RS) (θ : Nat → Int32) (n : Nat) (m : MW) (h : PH) : Prop := ∀ f ∈ m, ∃ (A : Nat) (j : Int32) (w : Value), adR rs θ n f.1 A ∧ vG rs θ n f.2.1 (.int j) ∧ 0 ≤ j.toInt ∧ cellAt h A j.toInt.toNat w ∧ vG rs θ n f.2.2 w
/-- region k's place f may be written -/
def wIn (wr : WL) (k f : Nat) : Prop := ∃ x ∈ wr, x.1 = k ∧ (x.2 = 0 ∨ x.2 = f + 1)
/-- what isn't named is as it was -/
def wrR (rs : RS) (wr : WL) (h0 h : PH) : Prop := ∀ (k : Nat) (q : List Nat × CS) (i A : Nat), rs[k]? = some q → q.1[i]? = some A → ∀ (f : Nat) (w : Value), ¬ wIn wr k f → cellAt h0 A f w → cellAt h A f w
def HW (rs : RS) (wr : WL) (h0 h : PH) : Prop := HOK rs h ∧ wrR rs wr h0 h
def resG (rs : RS) (θ : Nat → Int32) (n : Nat) (q : AQ) (r : Rs) : Prop := match q, r with
  | .inl v, .inl w => A2 (vG rs θ n) v.toList w.toList
  | .inr e, .inr f => f = e
  | _, _ => False
/-- more symbols, the old ones as they were -/
def Ext (θ : Nat → Int32) (n : Nat) (θ2 : Nat → Int32) (n2 : Nat) : Prop := n ≤ n2 ∧ ∀ t, t < n → θ2 t = θ t
section GR1
variable {rs : RS} {θ θ2 : Nat → Int32} {n n2 : Nat} {env : EW}
theorem Ext.rf : Ext θ n θ n := ⟨Nat.le_refl _, fun _ _ => rfl⟩
theorem adR.ext (h : Ext θ n θ2 n2) {e A : Nat} (H : adR rs θ n e A) : adR rs θ2 n2 e A := by
  obtain ⟨q, h1, h2⟩ := H
  refine ⟨q, h1, ?_⟩
  rcases h2 with h2 | ⟨g1, g2, g3, g4⟩
  · exact Or.inl h2
  · exact Or.inr ⟨g1, Nat.lt_of_lt_of_le g2 h.1, by rw [h.2 _ g2]; exact g3, by rw [h.2 _ g2]; exact g4⟩
theorem vG.ext (h : Ext θ n θ2 n2) {a : AV} {w : Value} (H : vG rs θ n a w) : vG rs θ2 n2 a w := by
  rcases a with x | ⟨_ | t, a, b⟩ | v
  · exact H
  · exact H
  · obtain ⟨h1, y, h2, h3⟩ := H
    exact ⟨Nat.lt_of_lt_of_le h1 h.1, y, h2, by rw [h.2 _ h1]; exact h3⟩
  · cases v
    case retAddr e => obtain ⟨A, h1, h2⟩ := H; exact ⟨A, h1.ext h, h2⟩
    all_goals exact H
theorem A2.gext (h : Ext θ n θ2 n2) {l : LW} {l' : List Value} (H : A2 (vG rs θ n) l l') : A2 (vG rs θ2 n2) l l' := H.mono (fun _ _ q => q.ext h)
theorem lG.ext (h : Ext θ n θ2 n2) {lv : LW} {lv' : LV} (H : lG rs θ n lv lv') : lG rs θ2 n2 lv lv' := fun i v hv => ⟨(H i v hv).1, (H i v hv).2.imp id (fun ⟨w, h1, h2⟩ => ⟨w, h1, h2.ext h⟩)⟩
theorem mG.ext (h : Ext θ n θ2 n2) {m : MW} {h' : PH} (H : mG rs θ n m h') : mG rs θ2 n2 m h' := fun f hf => by
  obtain ⟨A, j, w, h1, h2, h3, h4, h5⟩ := H f hf
  exact ⟨A, j, w, h1.ext h, h2.ext h, h3, h4, h5.ext h⟩
theorem eget_ok (he : eG θ env) {t : Nat} {r : Int × Int} (h : eget env t = some r) : t < env.1 ∧ r.1 ≤ (θ t).toInt ∧ (θ t).toInt ≤ r.2 := by
  unfold eget at h
  split at h
  · rename_i hb
    rw [blt_iff] at hb
    rw [lget_eq] at h
    have h1 := he.2 _ _ h
    have e : env.1 - 1 - (Nat.sub (Nat.sub env.1 1) t) = t := by
      show env.1 - 1 - (env.1 - 1 - t) = t
      omega
    rw [e] at h1
    exact ⟨hb, h1.1, h1.2⟩
  · cases h
theorem eset_ok (he : eG θ env) {t : Nat} {r : Int × Int} {k : EW → Bool} (hr : r.1 ≤ (θ t).toInt ∧ (θ t).toInt ≤ r.2) (h : eset env t r k = true) : ∃ env2, k env2 = true ∧ env2.1 = env.1 ∧ eG θ env2 := by
  unfold eset at h
  split at h
  · rename_i hb
    rw [blt_iff] at hb
    obtain ⟨hl, h⟩ := lset_ok h
    refine ⟨_, h, rfl, by show (List.set _ _ _).length = _; rw [List.length_set]; exact he.1, fun i r2 hi => ?_⟩
    by_cases hj : Nat.sub (Nat.sub env.1 1) t = i
    · subst hj
      have hi2 : (env.2.set (Nat.sub (Nat.sub env.1 1) t) r)[Nat.sub (Nat.sub env.1 1) t]? = some r2 := hi
      rw [List.getElem?_set_self hl] at hi2
      cases hi2
      have e : env.1 - 1 - (Nat.sub (Nat.sub env.1 1) t) = t := by
        show env.1 - 1 - (env.1 - 1 - t) = t
        omega
      show r.1 ≤ (θ (env.1 - 1 - _)).toInt ∧ (θ (env.1 - 1 - _)).toInt ≤ r.2
      rw [e]
      exact hr
    · have hi2 : (env.2.set (Nat.sub (Nat.sub env.1 1) t) r)[i]? = some r2 := hi
      rw [List.getElem?_set_ne hj] at hi2
      exact he.2 i r2 hi2
  · cases h
def th (θ : Nat → Int32) (n : Nat) (v : Int32) : Nat → Int32 := fun t => if t = n then v else θ t
theorem frs_ok (he : eG θ env) {lo hi : Int} {k : EW → AV → Bool} {v : Int32} (h1 : lo ≤ v.toInt) (h2 : v.toInt ≤ hi) (h : frs env lo hi k = true) : ∃ env2 a θ2, k env2 a = true ∧ Ext θ env.1 θ2 env2.1 ∧ eG θ2 env2 ∧ vG rs θ2 env2.1 a (.int v) := by
  have h := natF_ok (iF_ok (iF_ok h))
  refine ⟨_, _, th θ env.1 v, h, ⟨Nat.le_succ _, fun t ht => if_neg (by omega)⟩, ⟨by show (_ :: env.2).length = _; rw [List.length_cons, he.1], fun i r hi => ?_⟩, ?_⟩
  · cases i with
    | zero =>
      cases hi
      show lo ≤ (th θ env.1 v (env.1 + 1 - 1 - 0)).toInt ∧ (th θ env.1 v (env.1 + 1 - 1 - 0)).toInt ≤ hi
      rw [show th θ env.1 v (env.1 + 1 - 1 - 0) = v from if_pos (by omega)]
      exact ⟨h1, h2⟩
    | succ i =>
      have hi2 : env.2[i]? = some r := by simpa using hi
      have hl : i < env.2.length := (List.getElem?_eq_some_iff.mp hi2).1
      rw [he.1] at hl
      have h3 := he.2 i r hi2
      show r.1 ≤ (th θ env.1 v (env.1 + 1 - 1 - (i + 1))).toInt ∧ (th θ env.1 v (env.1 + 1 - 1 - (i + 1))).toInt ≤ r.2
      rw [show th θ env.1 v (env.1 + 1 - 1 - (i + 1)) = θ (env.1 - 1 - i) from by
        unfold th; rw [if_neg (by omega)]; congr 1; omega]
      exact h3
  · refine ⟨Nat.lt_succ_self _, v, rfl, ?_⟩
    show v.toInt = 1 * (th θ env.1 v env.1).toInt + 0
    rw [show th θ env.1 v env.1 = v from if_pos rfl]; omega
theorem gKY {t : Nat} {a b : Int} {k : Int → Int → Bool} (he : eG θ env) (h : gK env (aY t a b) k = true) : t < env.1 ∧ ∃ lo hi, lo ≤ a * (θ t).toInt + b ∧ a * (θ t).toInt + b ≤ hi ∧ k lo hi = true := by
  simp only [gK] at h
  split at h
  · rename_i r hr
    obtain ⟨h0, h1, h2⟩ := eget_ok he hr
    refine ⟨h0, ?_⟩
    split at h
    · rename_i ha
      obtain ⟨g1, g2⟩ := mul_pos_rng (bLt_no.mp ha) h1 h2
      exact ⟨_, _, by omega, by omega, iF_ok (iF_ok h)⟩
    · rename_i ha
      obtain ⟨g1, g2⟩ := mul_neg_rng (bLt_iff.mp ha) h1 h2
      exact ⟨_, _, by omega, by omega, iF_ok (iF_ok h)⟩
  · cases h
theorem gK_ok {v : AV} {w : Value} {k : Int → Int → Bool} (he : eG θ env) (hv : vG rs θ env.1 v w) (h : gK env v k = true) : ∃ (y : Int32) (lo hi : Int), w = .int y ∧ lo ≤ y.toInt ∧ y.toInt ≤ hi ∧ k lo hi = true := by
  rcases v with x | ⟨t, a, b⟩ | v
  · obtain ⟨y, rfl, e⟩ := hv
    exact ⟨y, x, x, rfl, by omega, by omega, h⟩
  · cases t with
    | zero => obtain ⟨y, rfl, e1, e2⟩ := hv; exact ⟨y, a, b, rfl, e1, e2, h⟩
    | succ t =>
      obtain ⟨-, y, rfl, e⟩ := hv
      obtain ⟨-, lo, hi, h1, h2, h3⟩ := gKY he h
      exact ⟨y, lo, hi, rfl, by omega, by omega, h3⟩
  · cases (show false = true from h)
theorem gnum {v : AV} {w : Value} (h : isNum v = true) (hv : vG rs θ n v w) : ∃ y : Int32, w = .int y := by
  rcases v with x | ⟨_ | t, a, b⟩ | v
  · obtain ⟨y, rfl, -⟩ := hv; exact ⟨y, rfl⟩
  · obtain ⟨y, rfl, -⟩ := hv; exact ⟨y, rfl⟩
  · obtain ⟨-, y, rfl, -⟩ := hv; exact ⟨y, rfl⟩
  · cases (show false = true from h)
theorem rfn_ok {v : AV} {x : Int32} {lo hi : Int} {k : EW → Bool} (he : eG θ env) (hv : vG rs θ env.1 v (.int x)) (h1 : lo ≤ x.toInt) (h2 : x.toInt ≤ hi) (h : rfn env v lo hi k = true) : ∃ env2, k env2 = true ∧ env2.1 = env.1 ∧ eG θ env2 := by
  unfold rfn at h
  split at h
  · obtain ⟨y, e, ey⟩ := hv
    cases e
    split at h
    · exact ⟨env, h, rfl, he⟩
    · rename_i q
      exfalso
      rw [← ey, show (bLe lo x.toInt && bLe x.toInt hi) = true by rw [Bool.and_eq_true, bLe_iff, bLe_iff]; exact ⟨h1, h2⟩] at q
      cases q
  · rename_i t b
    obtain ⟨-, y, e, ey⟩ := hv
    cases e
    have ey : x.toInt = 1 * (θ t).toInt + b := ey
    split at h
    · rename_i r hr
      obtain ⟨-, g1, g2⟩ := eget_ok he hr
      have h := iF_ok (iF_ok h)
      split at h
      · exact eset_ok he ⟨by show max _ _ ≤ _; omega, by show _ ≤ min _ _; omega⟩ h
      · rename_i q
        exfalso
        have : bLe (max r.1 (lo - b)) (min r.2 (hi - b)) = true := by rw [bLe_iff]; omega
        rw [this] at q
        cases q
    · cases h
  · rename_i t b
    obtain ⟨-, y, e, ey⟩ := hv
    cases e
    have ey : x.toInt = -1 * (θ t).toInt + b := ey
    split at h
    · rename_i r hr
      obtain ⟨-, g1, g2⟩ := eget_ok he hr
      have h := iF_ok (iF_ok h)
      split at h
      · exact eset_ok he ⟨by show max _ _ ≤ _; omega, by show _ ≤ min _ _; omega⟩ h
      · rename_i q
        exfalso
        have : bLe (max r.1 (b - hi)) (min r.2 (b - lo)) = true := by rw [bLe_iff]; omega
        rw [this] at q
        cases q
    · cases h
  · exact ⟨env, h, rfl, he⟩
theorem ccZ_ng {c : ClassFile.Cond} {x y : Int} : ccZ (ngC c) x y ↔ ¬ ccZ c x y := by cases c <;> simp only [ngC, ccZ] <;> omega
theorem rfC_ok {c : ClassFile.Cond} {x y : AV} {xv yv : Int32} {a b a' b' : Int} {k : EW → Bool} (he : eG θ env) (hx : vG rs θ env.1 x (.int xv)) (hy : vG rs θ env.1 y (.int yv)) (h1 : a ≤ xv.toInt) (h2 : xv.toInt ≤ b) (h3 : a' ≤ yv.toInt) (h4 : yv.toInt ≤ b') (hc : ccZ c xv.toInt yv.toInt) (h : rfC env c x y a b a' b' k = true) : ∃ env2, k env2 = true ∧ env2.1 = env.1 ∧ eG θ env2 := by
  have hX := i32_rng xv
  have hY := i32_rng yv
  have two : ∀ {l1 u1 l2 u2 : Int}, l1 ≤ xv.toInt → xv.toInt ≤ u1 → l2 ≤ yv.toInt → yv.toInt ≤ u2 → (rfn env x l1 u1 fun env => rfn env y l2 u2 k) = true → ∃ env2, k env2 = true ∧ env2.1 = env.1 ∧ eG θ env2 := by
    intro l1 u1 l2 u2 g1 g2 g3 g4 h
    obtain ⟨e1, h, i1, i2⟩ := rfn_ok he hx g1 g2 h
    obtain ⟨e2, h, j1, j2⟩ := rfn_ok i2 (by rw [i1]; exact hy) g3 g4 h
    exact ⟨e2, h, j1.trans i1, j2⟩
  unfold rfC at h
  cases c <;> simp only [ccZ] at hc <;> dsimp only at h
  · exact two (by omega) (by omega) (by omega) (by omega) h
  · split at h
    · rename_i q
      rw [bEq_iff] at q
      split at h
      · rename_i q2
        rw [bEq_iff] at q2
        exact rfn_ok he hx (by omega) hX.2 h
      · split at h
        · rename_i q3
          rw [bEq_iff] at q3
          exact rfn_ok he hx hX.1 (by omega) h
        · exact ⟨env, h, rfl, he⟩
    · exact ⟨env, h, rfl, he⟩
  all_goals exact two (by first | omega | exact hX.1 | exact hX.2 | exact hY.1 | exact hY.2) (by first | omega | exact hX.1 | exact hX.2 | exact hY.1 | exact hY.2) (by first | omega | exact hX.1 | exact hX.2 | exact hY.1 | exact hY.2) (by first | omega | exact hX.1 | exact hX.2 | exact hY.1 | exact hY.2) h
theorem gBr_ok {c : ClassFile.Cond} {x y : AV} {wx wy : Value} {t f : EW → Bool} (he : eG θ env) (hx : vG rs θ env.1 x wx) (hy : vG rs θ env.1 y wy) (h : gBr env c x y t f = true) : ∃ xv yv, wx = .int xv ∧ wy = .int yv ∧ ((ccI c xv yv ∧ ∃ env2, t env2 = true ∧ env2.1 = env.1 ∧ eG θ env2) ∨ (¬ ccI c xv yv ∧ ∃ env2, f env2 = true ∧ env2.1 = env.1 ∧ eG θ env2)) := by
  unfold gBr at h
  obtain ⟨xv, a, b, rfl, a1, a2, h⟩ := gK_ok he hx h
  obtain ⟨yv, a', b', rfl, b1, b2, h⟩ := gK_ok he hy h
  refine ⟨xv, yv, rfl, rfl, ?_⟩
  rw [ccI_iff]
  split at h
  · rename_i q
    exact Or.inl ⟨(cmpR_ok a1 a2 b1 b2 q).mpr rfl, env, h, rfl, he⟩
  · rename_i q
    exact Or.inr ⟨fun q2 => (by have := (cmpR_ok a1 a2 b1 b2 q).mp q2; cases this), env, h, rfl, he⟩
  · split at h
    · rename_i ht
      by_cases hc : ccZ c xv.toInt yv.toInt
      · exact Or.inl ⟨hc, rfC_ok he hx hy a1 a2 b1 b2 hc ht⟩
      · exact Or.inr ⟨hc, rfC_ok he hx hy a1 a2 b1 b2 (ccZ_ng.mpr hc) h⟩
    · cases h
/-- what a computed number owes -/
def GN (rs : RS) (θ : Nat → Int32) (env : EW) (k : EW → AV → Bool) (z : Int32) : Prop := ∃ env2 v θ2, k env2 v = true ∧ Ext θ env.1 θ2 env2.1 ∧ eG θ2 env2 ∧ vG rs θ2 env2.1 v (.int z)
theorem gRng_ok (he : eG θ env) {lo hi : Int} {k : EW → AV → Bool} {z : Int32} (hz : -2147483648 ≤ lo → hi ≤ 2147483647 → lo ≤ z.toInt ∧ z.toInt ≤ hi) (h : gRng env lo hi k = true) : GN rs θ env k z := by
  unfold gRng at h
  split at h
  · rename_i q
    rw [Bool.and_eq_true, bEq_iff, inI_iff] at q
    have h1 := hz q.2.1 q.2.2
    exact ⟨env, _, θ, iF_ok h, Ext.rf, he, z, rfl, by omega⟩
  · split at h
    · rename_i q
      rw [inI_iff] at q
      have h1 := hz q.1 q.2
      exact frs_ok he h1.1 h1.2 h
    · exact frs_ok he (i32_rng z).1 (i32_rng z).2 h
theorem gLin_ok (he : eG θ env) {t : Nat} {a b : Int} {k : EW → AV → Bool} {z : Int32} (hz : z.toInt = (a * (θ t).toInt + b).bmod 4294967296) (h : gLin env t a b k = true) : GN rs θ env k z := by
  unfold gLin at h
  obtain ⟨h0, lo, hi, h1, h2, h⟩ := gKY he h
  split at h
  · rename_i q
    rw [inI_iff] at q
    exact ⟨env, _, θ, iF_ok (iF_ok h), Ext.rf, he, h0, z, rfl, by rw [hz, bm (by omega) (by omega)]⟩
  · exact frs_ok he (i32_rng z).1 (i32_rng z).2 h
theorem kInt_g (he : eG θ env) {z : Int} {k : EW → AV → Bool} {zv : Int32} (hz : zv.toInt = z.bmod 4294967296) (h : (kInt z fun v => k env v) = true) : GN rs θ env k zv := ⟨env, _, θ, kInt_ok h, Ext.rf, he, zv, rfl, hz⟩
theorem gAdd_ok {x y : AV} {wx wy : Value} {k : EW → AV → Bool} (he : eG θ env) (hx : vG rs θ env.1 x wx) (hy : vG rs θ env.1 y wy) (h : gAdd env x y k = true) : ∃ xv yv, wx = .int xv ∧ wy = .int yv ∧ GN rs θ env k (xv + yv) := by
  unfold gAdd at h
  split at h
  · obtain ⟨xv, rfl, e1⟩ := hx
    obtain ⟨yv, rfl, e2⟩ := hy
    exact ⟨xv, yv, rfl, rfl, kInt_g he (by rw [Int32.toInt_add, e1, e2]) h⟩
  · obtain ⟨-, xv, rfl, e1⟩ := hx
    obtain ⟨yv, rfl, e2⟩ := hy
    exact ⟨xv, yv, rfl, rfl, gLin_ok he (by rw [Int32.toInt_add, e1, e2]; congr 1; omega) h⟩
  · obtain ⟨xv, rfl, e1⟩ := hx
    obtain ⟨-, yv, rfl, e2⟩ := hy
    exact ⟨xv, yv, rfl, rfl, gLin_ok he (by rw [Int32.toInt_add, e1, e2]; congr 1; omega) h⟩
  · obtain ⟨xv, a, b, rfl, a1, a2, h⟩ := gK_ok he hx h
    obtain ⟨yv, a', b', rfl, b1, b2, h⟩ := gK_ok he hy h
    exact ⟨xv, yv, rfl, rfl, gRng_ok he (fun q1 q2 => by rw [Int32.toInt_add]; show _ ≤ (xv.toInt + yv.toInt).bmod 4294967296 ∧ (xv.toInt + yv.toInt).bmod 4294967296 ≤ _; rw [bm (by omega) (by omega)]; omega) h⟩
theorem gSub_ok {x y : AV} {wx wy : Value} {k : EW → AV → Bool} (he : eG θ env) (hx : vG rs θ env.1 x wx) (hy : vG rs θ env.1 y wy) (h : gSub env x y k = true) : ∃ xv yv, wx = .int xv ∧ wy = .int yv ∧ GN rs θ env k (xv - yv) := by
  unfold gSub at h
  split at h
  · obtain ⟨xv, rfl, e1⟩ := hx
    obtain ⟨yv, rfl, e2⟩ := hy
    exact ⟨xv, yv, rfl, rfl, kInt_g he (by rw [Int32.toInt_sub, e1, e2]) h⟩
  · obtain ⟨-, xv, rfl, e1⟩ := hx
    obtain ⟨yv, rfl, e2⟩ := hy
    exact ⟨xv, yv, rfl, rfl, gLin_ok he (by rw [Int32.toInt_sub, e1, e2]; congr 1; omega) h⟩
  · rename_i z t a b
    obtain ⟨xv, rfl, e1⟩ := hx
    obtain ⟨-, yv, rfl, e2⟩ := hy
    exact ⟨xv, yv, rfl, rfl, gLin_ok he (by rw [Int32.toInt_sub, e1, e2, Int.neg_mul]; congr 1; omega) h⟩
  · obtain ⟨xv, a, b, rfl, a1, a2, h⟩ := gK_ok he hx h
    obtain ⟨yv, a', b', rfl, b1, b2, h⟩ := gK_ok he hy h
    exact ⟨xv, yv, rfl, rfl, gRng_ok he (fun q1 q2 => by rw [Int32.toInt_sub]; show _ ≤ (xv.toInt - yv.toInt).bmod 4294967296 ∧ (xv.toInt - yv.toInt).bmod 4294967296 ≤ _; rw [bm (by omega) (by omega)]; omega) h⟩
theorem seg {a b x y : Int} (h1 : a ≤ x) (h2 : x ≤ b) : (a * y ≤ x * y ∧ x * y ≤ b * y) ∨ (b * y ≤ x * y ∧ x * y ≤ a * y) := by
  rcases Int.le_total 0 y with h | h
  · exact Or.inl ⟨Int.mul_le_mul_of_nonneg_right h1 h, Int.mul_le_mul_of_nonneg_right h2 h⟩
  · exact Or.inr ⟨Int.mul_le_mul_of_nonpos_right h2 h, Int.mul_le_mul_of_nonpos_right h1 h⟩
theorem mul_rng {a b c d x y : Int} (h1 : a ≤ x) (h2 : x ≤ b) (h3 : c ≤ y) (h4 : y ≤ d) : mn4 (a * c) (a * d) (b * c) (b * d) ≤ x * y ∧ x * y ≤ mx4 (a * c) (a * d) (b * c) (b * d) := by
  have s1 := seg (y := y) h1 h2
  have s2 := seg (y := a) h3 h4
  have s3 := seg (y := b) h3 h4
  rw [Int.mul_comm c a, Int.mul_comm y a, Int.mul_comm d a] at s2
  rw [Int.mul_comm c b, Int.mul_comm y b, Int.mul_comm d b] at s3
  unfold mn4 mx4
  omega
theorem gMul_ok {x y : AV} {wx wy : Value} {k : EW → AV → Bool} (he : eG θ env) (hx : vG rs θ env.1 x wx) (hy : vG rs θ env.1 y wy) (h : gMul env x y k = true) : ∃ xv yv, wx = .int xv ∧ wy = .int yv ∧ GN rs θ env k (xv * yv) := by
  unfold gMul at h
  split at h
  · obtain ⟨xv, rfl, e1⟩ := hx
    obtain ⟨yv, rfl, e2⟩ := hy
    exact ⟨xv, yv, rfl, rfl, kInt_g he (by rw [Int32.toInt_mul, e1, e2]) h⟩
  · obtain ⟨-, xv, rfl, e1⟩ := hx
    obtain ⟨yv, rfl, e2⟩ := hy
    exact ⟨xv, yv, rfl, rfl, gLin_ok he (by rw [Int32.toInt_mul, e1, e2, Int.add_mul, Int.mul_right_comm]) h⟩
  · obtain ⟨xv, rfl, e1⟩ := hx
    obtain ⟨-, yv, rfl, e2⟩ := hy
    exact ⟨xv, yv, rfl, rfl, gLin_ok he (by rw [Int32.toInt_mul, e1, e2, Int.mul_comm, Int.add_mul, Int.mul_right_comm]) h⟩
  · obtain ⟨xv, a, b, rfl, a1, a2, h⟩ := gK_ok he hx h
    obtain ⟨yv, a', b', rfl, b1, b2, h⟩ := gK_ok he hy h
    have hm := mul_rng a1 a2 b1 b2
    exact ⟨xv, yv, rfl, rfl, gRng_ok he (fun q1 q2 => by rw [Int32.toInt_mul]; show _ ≤ (xv.toInt * yv.toInt).bmod 4294967296 ∧ (xv.toInt * yv.toInt).bmod 4294967296 ≤ _; rw [bm (by omega) (by omega)]; exact hm) h⟩
end GR1
/-! division -/
section GR2
variable {rs : RS} {θ : Nat → Int32} {env : EW}
theorem gPos_ok {y : AV} {wy : Value} {k : Int → Bool} (he : eG θ env) (hy : vG rs θ env.1 y wy) (h : gPos env y k = true) : ∃ (yv : Int32) (m : Int), wy = .int yv ∧ 0 < yv.toInt ∧ yv.toInt ≤ m ∧ k m = true := by
  unfold gPos at h
  obtain ⟨yv, a, b, rfl, a1, a2, h⟩ := gK_ok he hy h
  split at h
  · rename_i q
    rw [bLt_iff] at q
    exact ⟨yv, b, rfl, by omega, a2, h⟩
  · cases h
theorem nz_of {y : Int32} (h : y.toInt ≠ 0) : ¬ y = 0 := fun q => h (by rw [q]; decide)
theorem dv_toInt {x y : Int32} (hy : 0 < y.toInt) : (x / y).toInt = x.toInt.tdiv y.toInt := by
  have hx := i32_rng x
  rw [Int32.toInt_div]
  show (x.toInt.tdiv y.toInt).bmod 4294967296 = _
  have h1 : x.toInt.tdiv y.toInt ≤ 2147483647 ∧ -2147483648 ≤ x.toInt.tdiv y.toInt := by
    rcases Int.le_total 0 x.toInt with h | h
    · have e1 := Int.tdiv_le_self (a := x.toInt) y.toInt h
      have e2 := Int.tdiv_nonneg h (Int.le_of_lt hy)
      omega
    · have e0 : x.toInt.tdiv y.toInt = -((-x.toInt).tdiv y.toInt) := by rw [Int.neg_tdiv, Int.neg_neg]
      have e1 := Int.tdiv_le_self (a := -x.toInt) y.toInt (by omega)
      have e2 := Int.tdiv_nonneg (a := -x.toInt) (by omega) (Int.le_of_lt hy)
      omega
  exact bm h1.2 h1.1
theorem div_rng {x y : Int32} {a b : Int} (hy : 0 < y.toInt) (h1 : a ≤ x.toInt) (h2 : x.toInt ≤ b) : min a 0 ≤ (x / y).toInt ∧ (x / y).toInt ≤ max b 0 := by
  rw [dv_toInt hy]
  rcases Int.le_total 0 x.toInt with h | h
  · have e1 := Int.tdiv_le_self (a := x.toInt) y.toInt h
    have e2 := Int.tdiv_nonneg h (Int.le_of_lt hy)
    omega
  · have e0 : x.toInt.tdiv y.toInt = -((-x.toInt).tdiv y.toInt) := by rw [Int.neg_tdiv, Int.neg_neg]
    have e1 := Int.tdiv_le_self (a := -x.toInt) y.toInt (by omega)
    have e2 := Int.tdiv_nonneg (a := -x.toInt) (by omega) (Int.le_of_lt hy)
    omega
theorem rm_toInt {x y : Int32} (hy : 0 < y.toInt) : (x - x / y * y).toInt = x.toInt.tmod y.toInt := by
  have hx := i32_rng x
  have hY := i32_rng y
  have e := Int.tmod_add_mul_tdiv x.toInt y.toInt
  rw [Int32.toInt_sub, Int32.toInt_mul, dv_toInt hy]
  show (x.toInt - (x.toInt.tdiv y.toInt * y.toInt).bmod 4294967296).bmod 4294967296 = _
  have hm : -y.toInt < x.toInt.tmod y.toInt ∧ x.toInt.tmod y.toInt < y.toInt := ⟨Int.lt_tmod_of_pos _ hy, Int.tmod_lt_of_pos _ hy⟩
  have hs : (0 ≤ x.toInt → 0 ≤ x.toInt.tmod y.toInt) ∧ (x.toInt ≤ 0 → x.toInt.tmod y.toInt ≤ 0) := ⟨fun h => Int.tmod_nonneg _ h, fun h => by
    have := Int.tmod_nonneg (a := -x.toInt) y.toInt (by omega)
    rw [Int.neg_tmod] at this; omega⟩
  have hc : x.toInt.tdiv y.toInt * y.toInt = x.toInt - x.toInt.tmod y.toInt := by rw [Int.mul_comm]; omega
  rw [hc]
  have hb : (x.toInt - x.toInt.tmod y.toInt).bmod 4294967296 = x.toInt - x.toInt.tmod y.toInt := by
    rcases Int.le_total 0 x.toInt with h | h
    · have := hs.1 h; exact bm (by omega) (by omega)
    · have := hs.2 h; exact bm (by omega) (by omega)
  rw [hb, bm (by omega) (by omega)]
  omega
theorem gDiv_ok {x y : AV} {wx wy : Value} {k : EW → AV → Bool} (he : eG θ env) (hx : vG rs θ env.1 x wx) (hy : vG rs θ env.1 y wy) (h : gDiv env x y k = true) : ∃ xv yv, wx = .int xv ∧ wy = .int yv ∧ ¬ yv = 0 ∧ GN rs θ env k (xv / yv) := by
  unfold gDiv at h
  split at h
  · obtain ⟨xv, rfl, e1⟩ := hx
    obtain ⟨yv, rfl, e2⟩ := hy
    split at h
    · cases h
    · rename_i q
      rw [bEq_no] at q
      refine ⟨xv, yv, rfl, rfl, nz_of (by rw [e2]; exact q), env, _, θ, iF_ok h, Ext.rf, he, xv / yv, rfl, ?_⟩
      unfold bin; rw [← e1, ← e2, Int32.ofInt_toInt, Int32.ofInt_toInt]
  · obtain ⟨yv, m, rfl, y1, y2, h⟩ := gPos_ok he hy h
    obtain ⟨xv, a, b, rfl, a1, a2, h⟩ := gK_ok he hx h
    exact ⟨xv, yv, rfl, rfl, nz_of (by omega), gRng_ok he (fun _ _ => div_rng y1 a1 a2) h⟩
theorem gRem_ok {x y : AV} {wx wy : Value} {k : EW → AV → Bool} (he : eG θ env) (hx : vG rs θ env.1 x wx) (hy : vG rs θ env.1 y wy) (h : gRem env x y k = true) : ∃ xv yv, wx = .int xv ∧ wy = .int yv ∧ ¬ yv = 0 ∧ GN rs θ env k (xv - xv / yv * yv) := by
  unfold gRem at h
  split at h
  · obtain ⟨xv, rfl, e1⟩ := hx
    obtain ⟨yv, rfl, e2⟩ := hy
    split at h
    · cases h
    · rename_i q
      rw [bEq_no] at q
      refine ⟨xv, yv, rfl, rfl, nz_of (by rw [e2]; exact q), env, _, θ, iF_ok h, Ext.rf, he, xv - xv / yv * yv, rfl, ?_⟩
      unfold bin; rw [← e1, ← e2, Int32.ofInt_toInt, Int32.ofInt_toInt]
  · obtain ⟨yv, m, rfl, y1, y2, h⟩ := gPos_ok he hy h
    obtain ⟨xv, a, b, rfl, a1, a2, h⟩ := gK_ok he hx h
    have hm : -yv.toInt < xv.toInt.tmod yv.toInt ∧ xv.toInt.tmod yv.toInt < yv.toInt := ⟨Int.lt_tmod_of_pos _ y1, Int.tmod_lt_of_pos _ y1⟩
    refine ⟨xv, yv, rfl, rfl, nz_of (by omega), ?_⟩
    split at h
    · exact gRng_ok he (fun _ _ => by rw [rm_toInt y1]; omega) h
    · rename_i q
      rw [bLt_no] at q
      have := Int.tmod_nonneg (a := xv.toInt) yv.toInt (by omega)
      have hle : xv.toInt.tmod yv.toInt ≤ xv.toInt := by
        rcases (show xv.toInt < yv.toInt ∨ yv.toInt ≤ xv.toInt by omega) with hlt | hge
        · rw [Int.tmod_eq_of_lt (by omega) hlt]; omega
        · omega
      exact gRng_ok he (fun _ _ => by rw [rm_toInt y1]; omega) h
theorem gAny_ok {x y : AV} {wx wy : Value} {f : Int32 → Int32 → Int32} {k : EW → AV → Bool} (he : eG θ env) (hx : vG rs θ env.1 x wx) (hy : vG rs θ env.1 y wy) (h : gAny env x y f k = true) : ∃ xv yv, wx = .int xv ∧ wy = .int yv ∧ GN rs θ env k (f xv yv) := by
  unfold gAny at h
  obtain ⟨xv, a, b, rfl, a1, a2, h⟩ := gK_ok he hx h
  obtain ⟨yv, a', b', rfl, b1, b2, h⟩ := gK_ok he hy h
  refine ⟨xv, yv, rfl, rfl, ?_⟩
  split at h
  · rename_i q
    rw [Bool.and_eq_true, bEq_iff, bEq_iff] at q
    refine ⟨env, _, θ, iF_ok h, Ext.rf, he, f xv yv, rfl, ?_⟩
    unfold bin
    rw [← known a1 a2 q.1, ← known b1 b2 q.2]
  · exact frs_ok he (i32_rng _).1 (i32_rng _).2 h
end GR2
/-! the careful evaluator: every instruction -/
theorem pg_ne2 {lv : LV} {i j : Nat} {u w : Value} (hji : ¬ j = i) (h : px_g lv j = some u) (hu : j + 1 = i → u.category = 1) : px_g (px_s1 lv i w) j = some u := by
  have key : ∀ {lv : LV}, px_g lv j = some u → px_g (lv.filter (fun q => !(q.1 == i) && !(q.1 + 1 == i && q.2.category == 2))) j = some u := by
    intro lv
    induction lv with
    | nil => intro h; simp [px_g] at h
    | cons q lv ih =>
      intro h
      by_cases hq : q.1 = j
      · have e : q.2 = u := by
          simp only [px_g, List.find?, hq, beq_self_eq_true] at h
          simpa using h
        have hP : (!(q.1 == i) && !(q.1 + 1 == i && q.2.category == 2)) = true := by
          rw [e, hq]
          by_cases hji2 : j + 1 = i
          · rw [hu hji2]; simp [hji]
          · simp [hji, hji2]
        rw [List.filter_cons, if_pos hP]
        simp [px_g, List.find?, hq, e]
      · have h' : px_g lv j = some u := by
          simp only [px_g, List.find?] at h ⊢
          rw [show (q.1 == j) = false by simp [hq]] at h
          exact h
        have ih := ih h'
        rw [List.filter_cons]
        split
        · simp only [px_g, List.find?] at ih ⊢
          rw [show (q.1 == j) = false by simp [hq]]
          exact ih
        · exact ih
  have := key h
  unfold px_s1
  simp only [px_g, List.find?] at this ⊢
  rw [show (i == j) = false by simp; exact fun q => hji q.symm]
  exact this
theorem pg_self2 (lv : LV) (i : Nat) (w : Value) : px_g (px_s2 lv i w) i = some w := by simp [px_g, px_s2]
theorem pg_ne3 {lv : LV} {i j : Nat} {u w : Value} (hji : ¬ j = i) (hji1 : ¬ j = i + 1) (h : px_g lv j = some u) (hu : j + 1 = i → u.category = 1) : px_g (px_s2 lv i w) j = some u := by
  have key : ∀ {lv : LV}, px_g lv j = some u → px_g (lv.filter (fun q => !(q.1 == i) && (!(q.1 == i + 1) && !(q.1 + 1 == i && q.2.category == 2)))) j = some u := by
    intro lv
    induction lv with
    | nil => intro h; simp [px_g] at h
    | cons q lv ih =>
      intro h
      by_cases hq : q.1 = j
      · have e : q.2 = u := by
          simp only [px_g, List.find?, hq, beq_self_eq_true] at h
          simpa using h
        have hP : (!(q.1 == i) && (!(q.1 == i + 1) && !(q.1 + 1 == i && q.2.category == 2))) = true := by
          rw [e, hq]
          by_cases hji2 : j + 1 = i
          · rw [hu hji2]; simp [hji, hji1]
          · simp [hji, hji1, hji2]
        rw [List.filter_cons, if_pos hP]
        simp [px_g, List.find?, hq, e]
      · have h' : px_g lv j = some u := by
          simp only [px_g, List.find?] at h ⊢
          rw [show (q.1 == j) = false by simp [hq]] at h
          exact h
        have ih := ih h'
        rw [List.filter_cons]
        split
        · simp only [px_g, List.find?] at ih ⊢
          rw [show (q.1 == j) = false by simp [hq]]
          exact ih
        · exact ih
  have := key h
  unfold px_s2
  simp only [px_g, List.find?] at this ⊢
  rw [show (i == j) = false by simp; exact fun q => hji q.symm]
  exact this
section GO1
variable {rs : RS} {θ : Nat → Int32} {n : Nat}
theorem vG.cat1 {a : AV} {w : Value} (h : vG rs θ n a w) (hp : plain1 a = true) (hl : isL a = false) : w.category = 1 := by
  rcases a with x | ⟨_ | t, r⟩ | v
  · obtain ⟨y, rfl, -⟩ := h; rfl
  · obtain ⟨y, rfl, -⟩ := h; rfl
  · obtain ⟨-, y, rfl, -⟩ := h; rfl
  · cases v
    case retAddr e => obtain ⟨A, -, rfl⟩ := h; rfl
    case double z => cases hl
    case null => rw [show w = .null from h]; rfl
    case int x => rw [show w = .int x from h]; rfl
    all_goals cases hp
theorem vG.wcat {a : AV} {w : Value} (h : vG rs θ n a w) : w.category = wCat a := by
  rcases a with x | ⟨_ | t, r⟩ | v
  · obtain ⟨y, rfl, -⟩ := h; rfl
  · obtain ⟨y, rfl, -⟩ := h; rfl
  · obtain ⟨-, y, rfl, -⟩ := h; rfl
  · cases v
    case retAddr e => obtain ⟨A, -, rfl⟩ := h; rfl
    case double z => obtain ⟨x, rfl⟩ := h; rfl
    all_goals (rw [show w = _ from h]; rfl)
theorem g1_ok {a : AV} {w : Value} (h : w1 a = true) (hv : vG rs θ n a w) : w.category = 1 := by
  rw [hv.wcat]
  rcases a with x | x | v
  · rfl
  · rfl
  · exact beq_iff.mp h
theorem gcats_ok : ∀ {l : LW} {l' : List Value}, A2 (vG rs θ n) l l' → (l'.map Value.category).sum = cats l
  | [], _, h => by rw [show _ = [] from h]; rfl
  | a :: as, _, ⟨_, _, e, q, t⟩ => by subst e; rw [List.map_cons, List.sum_cons, q.wcat, gcats_ok t]; rfl
theorem lG.set {lv : LW} {lv' : LV} (h : lG rs θ n lv lv') {i : Nat} {v : AV} {w : Value} (hp : plain1 v = true) (hv : vG rs θ n v w) (hn : ∀ j u, j + 1 = i → lv[j]? = some u → isL u = false) : lG rs θ n (lv.set i v) (px_s1 lv' i w) := by
  intro j u hu
  by_cases hij : i = j
  · subst hij
    rw [List.getElem?_set] at hu
    simp only [if_true] at hu
    split at hu
    · cases hu; exact ⟨hp, Or.inr ⟨w, pg_self _ _ _, hv⟩⟩
    · cases hu
  · rw [List.getElem?_set_ne hij] at hu
    obtain ⟨hpu, hq⟩ := h j u hu
    refine ⟨hpu, ?_⟩
    rcases hq with q | ⟨w2, h1, h2⟩
    · exact Or.inl q
    · exact Or.inr ⟨w2, pg_ne2 (fun q => hij q.symm) h1 (fun q => h2.cat1 hpu (hn j u q hu)), h2⟩
theorem lG.set2 {lv : LW} {lv' : LV} (h : lG rs θ n lv lv') {i : Nat} {v : AV} {w : Value} (hp : plain1 v = true) (hv : vG rs θ n v w) (hn : ∀ j u, j + 1 = i → lv[j]? = some u → isL u = false) : lG rs θ n ((lv.set i v).set (i + 1) aU) (px_s2 lv' i w) := by
  intro j u hu
  by_cases hij1 : i + 1 = j
  · subst hij1
    rw [List.getElem?_set] at hu
    simp only [if_true] at hu
    split at hu
    · cases hu; exact ⟨rfl, Or.inl rfl⟩
    · cases hu
  · rw [List.getElem?_set_ne hij1] at hu
    by_cases hij : i = j
    · subst hij
      rw [List.getElem?_set] at hu
      simp only [if_true] at hu
      split at hu
      · cases hu; exact ⟨hp, Or.inr ⟨w, pg_self2 _ _ _, hv⟩⟩
      · cases hu
    · rw [List.getElem?_set_ne hij] at hu
      obtain ⟨hpu, hq⟩ := h j u hu
      refine ⟨hpu, ?_⟩
      rcases hq with q | ⟨w2, h1, h2⟩
      · exact Or.inl q
      · exact Or.inr ⟨w2, pg_ne3 (fun q => hij q.symm) (fun q => hij1 q.symm) h1 (fun q => h2.cat1 hpu (hn j u q hu)), h2⟩
/-! cells -/
theorem adR.get {e A : Nat} (H : adR rs θ n e A) : ∃ q i, rs[e / 65536]? = some q ∧ q.1[i]? = some A ∧ (isOne q.1 = true → i = 0) := by
  obtain ⟨q, h1, h2⟩ := H
  rcases h2 with ⟨h2, h3⟩ | ⟨h2, -, -, h3⟩
  · exact ⟨q, 0, h1, h3, fun _ => rfl⟩
  · exact ⟨q, _, h1, h3, fun h => by rw [h2] at h; cases h⟩
theorem adR.cell {h : PH} (hh : HOK rs h) {e A : Nat} (H : adR rs θ n e A) {q : List Nat × CS} (hq : kspec rs e = some q) : ∃ i y, q.1[i]? = some A ∧ h[A]? = some y ∧ csR rs i q.2 y := by
  obtain ⟨q2, i, h1, h2, -⟩ := H.get
  unfold kspec at hq
  rw [lget_eq] at hq
  have e1 : q2 = q := Option.some.inj (h1.symm.trans hq)
  subst e1
  obtain ⟨y, h3, h4⟩ := hh _ _ _ _ h1 h2
  exact ⟨i, y, h2, h3, h4⟩
theorem HOK.set {h : PH} (hd : DJ rs) (hh : HOK rs h) {k : Nat} {q : List Nat × CS} {i A : Nat} {y : PE} (h1 : rs[k]? = some q) (h2 : q.1[i]? = some A) (hy : csR rs i q.2 y) : HOK rs (h.set A y) := by
  intro k' q' i' A' h1' h2'
  by_cases e : A = A'
  · subst e
    obtain ⟨rfl, rfl⟩ := hd _ _ _ _ _ _ _ h1 h2 h1' h2'
    cases h1.symm.trans h1'
    obtain ⟨y0, g1, -⟩ := hh _ _ _ _ h1 h2
    exact ⟨y, List.getElem?_set_self (List.getElem?_eq_some_iff.mp g1).1, hy⟩
  · obtain ⟨y0, g1, g2⟩ := hh _ _ _ _ h1' h2'
    exact ⟨y0, by rw [List.getElem?_set_ne e]; exact g1, g2⟩
theorem aEq_ok {x y : AV} (h : aEq x y = true) : x = y := by
  unfold aEq at h
  split at h
  · rw [bEq_iff.mp h]
  · rw [Bool.and_eq_true, Bool.and_eq_true, Bool.and_eq_true, beq_iff, bEq_iff, bEq_iff] at h
    rw [h.1, h.2.2.1, h.2.2.2]
  · cases h
theorem aEq_one {x y : AV} (h : aEq x y = true) {u w : Value} (hu : vG rs θ n x u) (hw : vG rs θ n y w) : u = w := by
  have e := aEq_ok h
  subst e
  rcases x with x | ⟨_ | t, a, b⟩ | v
  · obtain ⟨y1, rfl, e1⟩ := hu
    obtain ⟨y2, rfl, e2⟩ := hw
    rw [toInt_inj (e1.trans e2.symm)]
  · cases (show false = true from h)
  · obtain ⟨-, y1, rfl, e1⟩ := hu
    obtain ⟨-, y2, rfl, e2⟩ := hw
    rw [toInt_inj (e1.trans e2.symm)]
  · cases (show false = true from h)
theorem adR.one {e A B : Nat} (h1 : adR rs θ n e A) (h2 : adR rs θ n e B) : A = B := by
  obtain ⟨q, a1, a2⟩ := h1
  obtain ⟨q2, b1, b2⟩ := h2
  cases a1.symm.trans b1
  rcases a2 with ⟨a2, a3⟩ | ⟨a2, -, -, a3⟩ <;> rcases b2 with ⟨b2, b3⟩ | ⟨b2, -, -, b3⟩
  · exact Option.some.inj (a3.symm.trans b3)
  · rw [a2] at b2; cases b2
  · rw [a2] at b2; cases b2
  · exact Option.some.inj (a3.symm.trans b3)
theorem mfind_ok {m : MW} {e : Nat} {p : AV} {k : AV → Bool} {no : Bool} (h : mfind m e p k no = true) : no = true ∨ ∃ f ∈ m, f.1 = e ∧ aEq f.2.1 p = true ∧ k f.2.2 = true := by
  induction m with
  | nil => exact Or.inl h
  | cons f m ih =>
    have h1 : (match Nat.beq f.1 e && aEq f.2.1 p with | true => k f.2.2 | false => mfind m e p k no) = true := h
    split at h1
    · rename_i q
      rw [Bool.and_eq_true, beq_iff] at q
      exact Or.inr ⟨f, List.mem_cons_self, q.1, q.2, h1⟩
    · rcases ih h1 with q | ⟨f2, g1, g2⟩
      · exact Or.inl q
      · exact Or.inr ⟨f2, List.mem_cons_of_mem _ g1, g2⟩
theorem mdrop_ok {m : MW} {r : Nat} {p : AV} {k : MW → Bool} (h : mdrop m r p k = true) : ∃ m2, k m2 = true ∧ ∀ f ∈ m2, f ∈ m ∧ (f.1 / 65536 = r → isK f.2.1 = true ∧ isK p = true ∧ ¬ aEq f.2.1 p = true) := by
  induction m generalizing k with
  | nil => exact ⟨[], h, fun f hf => by cases hf⟩
  | cons f m ih =>
    have h1 : (match Nat.beq (Nat.div f.1 65536) r && !(isK f.2.1 && (isK p && !(aEq f.2.1 p))) with | true => mdrop m r p k | false => mdrop m r p fun m => k (f :: m)) = true := h
    split at h1
    · obtain ⟨m2, g1, g2⟩ := ih h1
      exact ⟨m2, g1, fun f2 hf => ⟨List.mem_cons_of_mem _ (g2 f2 hf).1, (g2 f2 hf).2⟩⟩
    · rename_i q
      obtain ⟨m2, g1, g2⟩ := ih h1
      refine ⟨f :: m2, g1, fun f2 hf => ?_⟩
      rcases List.mem_cons.mp hf with rfl | hf
      · refine ⟨List.mem_cons_self, fun hr => ?_⟩
        rw [Bool.and_eq_false_iff] at q
        rcases q with q | q
        · rw [show Nat.beq (Nat.div f2.1 65536) r = true from beq_iff.mpr hr] at q; cases q
        · rw [Bool.not_eq_false', Bool.and_eq_true, Bool.and_eq_true, Bool.not_eq_true'] at q
          exact ⟨q.1, q.2.1, by rw [q.2.2]; simp⟩
      · exact ⟨List.mem_cons_of_mem _ (g2 f2 hf).1, (g2 f2 hf).2⟩
/-- what stays known when place j of cell A, of region r, is written -/
theorem mG.keep {m m2 : MW} {h : PH} {r : Nat} {p : AV} {j : Int32} {A i0 : Nat} {q0 : List Nat × CS} {y : PE} (hd : DJ rs) (H : mG rs θ n m h) (hq0 : rs[r]? = some q0) (hA : q0.1[i0]? = some A) (hp : vG rs θ n p (.int j)) (hj : 0 ≤ j.toInt) (hm : ∀ f ∈ m2, f ∈ m ∧ (f.1 / 65536 = r → isK f.2.1 = true ∧ isK p = true ∧ ¬ aEq f.2.1 p = true)) (hy : ∀ (j2 : Nat) (w : Value), ¬ j2 = j.toInt.toNat → cellAt h A j2 w → cellAt (h.set A y) A j2 w) : mG rs θ n m2 (h.set A y) := by
  intro f hf
  obtain ⟨hf1, hf2⟩ := hm f hf
  obtain ⟨B, j2, w, g1, g2, g3, g4, g5⟩ := H f hf1
  refine ⟨B, j2, w, g1, g2, g3, ?_, g5⟩
  by_cases hAB : A = B
  · subst hAB
    obtain ⟨q, i, e1, e2, -⟩ := g1.get
    obtain ⟨e3, e4⟩ := hd _ _ _ _ _ _ _ e1 e2 hq0 hA
    obtain ⟨k1, k2, k3⟩ := hf2 e3
    refine hy _ w (fun hjj => k3 ?_) g4
    cases hf21 : f.2.1 with
    | inr v => rw [hf21] at k1; cases k1
    | inl x =>
      cases hp1 : p with
      | inr v => rw [hp1] at k2; cases k2
      | inl z =>
        rw [hf21] at g2
        rw [hp1] at hp
        obtain ⟨y1, a1, a2⟩ := g2
        obtain ⟨y2, b1, b2⟩ := hp
        cases a1
        cases b1
        show bEq x z = true
        rw [bEq_iff]
        omega
  · rcases g4 with ⟨z, g, a1, a2⟩ | ⟨ci, gs, a1, a2⟩
    · exact Or.inl ⟨z, g, by rw [List.getElem?_set_ne hAB]; exact a1, a2⟩
    · exact Or.inr ⟨ci, gs, by rw [List.getElem?_set_ne hAB]; exact a1, a2⟩
theorem wIn_all {wr : WL} {k : Nat} (h : wAllB wr k = true) (f : Nat) : wIn wr k f := by
  unfold wAllB at h
  rw [List.any_eq_true] at h
  obtain ⟨x, h1, h2⟩ := h
  rw [Bool.and_eq_true, beq_iff, beq_iff] at h2
  exact ⟨x, h1, h2.1, Or.inl h2.2⟩
theorem wAll_ok {wr : WL} {k : Nat} {b : Bool} (h : wAll wr k b = true) : b = true ∧ wAllB wr k = true := by
  unfold wAll at h
  split at h
  · rename_i q; exact ⟨h, q⟩
  · cases h
theorem wHas_ok {wr : WL} {k f : Nat} {b : Bool} (h : wHas wr k f b = true) : b = true ∧ wIn wr k f := by
  unfold wHas at h
  split at h
  · rename_i q
    refine ⟨h, ?_⟩
    rw [List.any_eq_true] at q
    obtain ⟨x, h1, h2⟩ := q
    rw [Bool.and_eq_true, Bool.or_eq_true, beq_iff, beq_iff, beq_iff] at h2
    exact ⟨x, h1, h2⟩
  · cases h
theorem HW.set {h0 h : PH} {wr : WL} (hd : DJ rs) (hh : HW rs wr h0 h) {k : Nat} {q : List Nat × CS} {i A : Nat} {y : PE} (h1 : rs[k]? = some q) (h2 : q.1[i]? = some A) (hy : csR rs i q.2 y) (hw : ∀ f, ¬ wIn wr k f → ∀ w, cellAt h A f w → cellAt (h.set A y) A f w) : HW rs wr h0 (h.set A y) := by
  refine ⟨hh.1.set hd h1 h2 hy, ?_⟩
  intro k' q' i' A' h1' h2' f w hf hc
  have h3 := hh.2 k' q' i' A' h1' h2' f w hf hc
  by_cases e : A = A'
  · subst e
    obtain ⟨rfl, rfl⟩ := hd _ _ _ _ _ _ _ h1 h2 h1' h2'
    exact hw f hf w h3
  · rcases h3 with ⟨z, g, a1, a2⟩ | ⟨ci, gs, a1, a2⟩
    · exact Or.inl ⟨z, g, by rw [List.getElem?_set_ne e]; exact a1, a2⟩
    · exact Or.inr ⟨ci, gs, by rw [List.getElem?_set_ne e]; exact a1, a2⟩
end GO1
/-! the careful evaluator: instructions -/
def PG (n0 : Nat) (θ0 : Nat → Int32) (h0 : PH) (C : Nat → List Value → PH → (Rs → PH → Prop) → Prop) (S : Nat × (Nat → Int32)) (M : PM) (hd : HD4) (rs : RS) (wr : WL) (Q : Rs → PH → Prop) (K : Kt) (f : GPF) (te : TE) : Prop :=
  ∀ (env : EW) (lv st : LW) (m : MW) (c s : Nat) (go : GG) (call : Nat → Bool → Bool) (ret : AQ → Bool) (θ : Nat → Int32) (lv' : LV) (st' : List Value) (h' : PH),
    (∀ t, t < n0 → θ t = θ0 t) → n0 ≤ env.1 → eG θ env → lG rs θ env.1 lv lv' → A2 (vG rs θ env.1) st st' → mG rs θ env.1 m h' → HW rs wr h0 h' →
    (∀ pc2 env2 lv2 st2 m2 c2 s2, go pc2 env2 lv2 st2 m2 c2 s2 = true → ∀ θ2 lv2' st2' h2', (∀ t, t < n0 → θ2 t = θ0 t) → n0 ≤ env2.1 → eG θ2 env2 → lG rs θ2 env2.1 lv2 lv2' → A2 (vG rs θ2 env2.1) st2 st2' → mG rs θ2 env2.1 m2 h2' → HW rs wr h0 h2' → K pc2 lv2' st2' h2' c2 s2) →
    (∀ μ virt, call μ virt = true → p_call C M hd Q K te.1 μ virt lv' st' h' c s) →
    (∀ q, ret q = true → ∀ r, resG rs θ env.1 q r → Q r h') →
    f (M, hd, rs, wr) env lv st m c s go call ret = true → pmI C S M hd Q K te lv' st' h' c s
section GOPS
variable {n0 : Nat} {θ0 : Nat → Int32} {C : Nat → List Value → PH → (Rs → PH → Prop) → Prop} {S : Nat × (Nat → Int32)} {M : PM} {hd : HD4} {rs : RS} {wr : WL} {h0 : PH} {Q : Rs → PH → Prop} {K : Kt} {pc ta tb : Nat}
theorem ag_ext {θ θ2 : Nat → Int32} {n n2 : Nat} (hag : ∀ t, t < n0 → θ t = θ0 t) (hn : n0 ≤ n) (hx : Ext θ n θ2 n2) : (∀ t, t < n0 → θ2 t = θ0 t) ∧ n0 ≤ n2 := ⟨fun t ht => (hx.2 t (Nat.lt_of_lt_of_le ht hn)).trans (hag t ht), Nat.le_trans hn hx.1⟩
theorem po_no {te : TE} : PG n0 θ0 h0 C S M hd rs wr Q K g_no te := by
  intro env lv st m c s go call ret θ lv' st' h' hag hn0 he hlv hst hm hh hgo hcall hret H
  cases (show false = true from H)
theorem po_push {te : TE} {v : AV} {w : Value} {n : Nat} (hv : ∀ θ k, vG rs θ k v w) (hp : ∀ (lv' : LV) (st' : List Value) (h' : PH) (c s : Nat), K n lv' (w :: st') h' c s → pmI C S M hd Q K te lv' st' h' c s) : PG n0 θ0 h0 C S M hd rs wr Q K (g_push v n) te := by
  intro env lv st m c s go call ret θ lv' st' h' hag hn0 he hlv hst hm hh hgo hcall hret H
  exact hp _ _ _ _ _ (hgo _ _ _ _ _ _ _ H _ _ _ _ hag hn0 he hlv ⟨_, _, rfl, hv _ _, hst⟩ hm hh)
theorem po_iload {te : TE} {i n : Nat} (hp : ∀ (lv' : LV) (st' : List Value) (h' : PH) (c s : Nat), (∃ x, px_g lv' i = some (.int x) ∧ K n lv' (.int x :: st') h' c s) → pmI C S M hd Q K te lv' st' h' c s) : PG n0 θ0 h0 C S M hd rs wr Q K (g_iload i n) te := by
  intro env lv st m c s go call ret θ lv' st' h' hag hn0 he hlv hst hm hh hgo hcall hret H
  unfold g_iload at H
  rw [lget_eq] at H
  split at H
  · rename_i v hv
    split at H
    · rename_i hn
      rcases (hlv _ _ hv).2 with rfl | ⟨w, hw, hvw⟩
      · cases (show false = true from hn)
      · obtain ⟨y, rfl⟩ := gnum hn hvw
        exact hp _ _ _ _ _ ⟨y, hw, hgo _ _ _ _ _ _ _ H _ _ _ _ hag hn0 he hlv ⟨_, _, rfl, hvw, hst⟩ hm hh⟩
    · cases H
  · cases H
theorem po_lload {i : Nat} : PG n0 θ0 h0 C S M hd rs wr Q K (g_lload i (pc + 2)) (pc, .lload i, ta, tb) := by
  intro env lv st m c s go call ret θ lv' st' h' hag hn0 he hlv hst hm hh hgo hcall hret H
  unfold g_lload at H
  rw [lget_eq] at H
  split at H
  · rename_i v hv
    split at H
    · rename_i hn
      rcases (hlv _ _ hv).2 with rfl | ⟨w, hw, hvw⟩
      · cases (show false = true from hn)
      · have hL : ∃ x, w = .long x := by
          rcases v with x | x | v
          · cases hn
          · cases hn
          · cases v <;> first | exact hvw | cases hn
        obtain ⟨x, rfl⟩ := hL
        exact ⟨x, hw, hgo _ _ _ _ _ _ _ H _ _ _ _ hag hn0 he hlv ⟨_, _, rfl, hvw, hst⟩ hm hh⟩
    · cases H
  · cases H
theorem po_aload {te : TE} {i n : Nat} (hp : ∀ (lv' : LV) (st' : List Value) (h' : PH) (c s : Nat), (∃ v, px_g lv' i = some v ∧ (∃ a, v = .ref a ∨ v = .retAddr a) ∧ K n lv' (v :: st') h' c s) → pmI C S M hd Q K te lv' st' h' c s) : PG n0 θ0 h0 C S M hd rs wr Q K (g_aload i n) te := by
  intro env lv st m c s go call ret θ lv' st' h' hag hn0 he hlv hst hm hh hgo hcall hret H
  unfold g_aload at H
  rw [lget_eq] at H
  split at H
  · rename_i e hv
    rcases (hlv _ _ hv).2 with q | ⟨w, hw, hvw⟩
    · cases q
    · have hvw0 := hvw
      obtain ⟨A, -, rfl⟩ := hvw
      exact hp _ _ _ _ _ ⟨_, hw, ⟨A, Or.inl rfl⟩, hgo _ _ _ _ _ _ _ H _ _ _ _ hag hn0 he hlv ⟨_, _, rfl, hvw0, hst⟩ hm hh⟩
  · cases H
theorem noL_ok {lv : LW} {i : Nat} {k : Bool} {θ : Nat → Int32} {n : Nat} (h : noL lv i k = true) : k = true ∧ ∀ j u, j + 1 = i → lv[j]? = some u → isL u = false := by
  unfold noL at h
  split at h
  · exact ⟨h, fun j u hj => by omega⟩
  · rename_i j
    rw [lget_eq] at h
    split at h
    · rename_i v hv
      split at h
      · cases h
      · rename_i q
        refine ⟨h, fun j2 u hj hu => ?_⟩
        have : j2 = j := by omega
        subst this
        cases hv.symm.trans hu
        exact q
    · rename_i hv
      refine ⟨h, fun j2 u hj hu => ?_⟩
      have : j2 = j := by omega
      subst this
      rw [hv] at hu
      cases hu
theorem num_pl {v : AV} (h : isNum v = true) : plain1 v = true := by unfold plain1; rw [h]; rfl
theorem po_istore {te : TE} {i n : Nat} (hp : ∀ (lv' : LV) (st' : List Value) (h' : PH) (c s : Nat), (i < pL M ∧ on1 st' fun x r => K n (px_s1 lv' i (.int x)) r h' c s) → pmI C S M hd Q K te lv' st' h' c s) : PG n0 θ0 h0 C S M hd rs wr Q K (g_istore2 i n) te := by
  intro env lv st m c s go call ret θ lv' st' h' hag hn0 he hlv hst hm hh hgo hcall hret H
  obtain ⟨H, hnl⟩ := noL_ok (θ := θ) (n := n0) (show noL lv i _ = true from H)
  unfold g_istore at H
  split at H
  · obtain ⟨w, r', rfl, hw, hr⟩ := hst
    split at H
    · rename_i hn
      rw [Bool.and_eq_true, blt_iff] at hn
      obtain ⟨y, rfl⟩ := gnum hn.1 hw
      obtain ⟨-, H⟩ := lset_ok H
      exact hp _ _ _ _ _ ⟨hn.2, hgo _ _ _ _ _ _ _ H _ _ _ _ hag hn0 he (hlv.set (num_pl hn.1) hw hnl) hr hm hh⟩
    · cases H
  · cases H
theorem po_astore {te : TE} {i n : Nat} (hp : ∀ (lv' : LV) (st' : List Value) (h' : PH) (c s : Nat), (i < pL M ∧ onR st' fun x r => K n (px_s1 lv' i (.ref x)) r h' c s) → pmI C S M hd Q K te lv' st' h' c s) : PG n0 θ0 h0 C S M hd rs wr Q K (g_astore2 i n) te := by
  intro env lv st m c s go call ret θ lv' st' h' hag hn0 he hlv hst hm hh hgo hcall hret H
  obtain ⟨H, hnl⟩ := noL_ok (θ := θ) (n := n0) (show noL lv i _ = true from H)
  unfold g_astore at H
  split at H
  · obtain ⟨w, r', rfl, hw, hr⟩ := hst
    have hw0 := hw
    obtain ⟨A, -, rfl⟩ := hw
    split at H
    · rename_i hn
      rw [blt_iff] at hn
      obtain ⟨-, H⟩ := lset_ok H
      exact hp _ _ _ _ _ ⟨hn, hgo _ _ _ _ _ _ _ H _ _ _ _ hag hn0 he (hlv.set rfl hw0 hnl) hr hm hh⟩
    · cases H
  · cases H
theorem po_lstore {i : Nat} : PG n0 θ0 h0 C S M hd rs wr Q K (g_lstore i (pc + 2)) (pc, .lstore i, ta, tb) := by
  intro env lv st m c s go call ret θ lv' st' h' hag hn0 he hlv hst hm hh hgo hcall hret H
  unfold g_lstore at H
  split at H
  · rename_i v r
    obtain ⟨w, r', rfl, hw, hr⟩ := hst
    split at H
    · rename_i hn
      rw [Bool.and_eq_true, blt_iff] at hn
      obtain ⟨H, hnl⟩ := noL_ok (θ := θ) (n := n0) H
      have hL : (∃ x, w = .long x) ∧ plain1 v = true := by
        rcases v with x | x | v
        · cases hn.1
        · cases hn.1
        · cases v <;> first | exact ⟨hw, rfl⟩ | cases hn.1
      obtain ⟨⟨x, rfl⟩, hpl⟩ := hL
      obtain ⟨-, H⟩ := lset_ok H
      obtain ⟨-, H⟩ := lset_ok H
      exact ⟨hn.2, x, r', rfl, hgo _ _ _ _ _ _ _ H _ _ _ _ hag hn0 he (hlv.set2 hpl hw hnl) hr hm hh⟩
    · cases H
  · cases H
theorem po_iinc {i : Nat} {z : Int} (hz : inI z z = true) : PG n0 θ0 h0 C S M hd rs wr Q K (g_iinc2 i z (pc + 3)) (pc, .iinc i z, ta, tb) := by
  intro env lv st m c s go call ret θ lv' st' h' hag hn0 he hlv hst hm hh hgo hcall hret H
  obtain ⟨H, hnl⟩ := noL_ok (θ := θ) (n := n0) (show noL lv i _ = true from H)
  unfold g_iinc at H
  rw [lget_eq] at H
  split at H
  · rename_i v hv
    split at H
    · rename_i hn
      rw [Bool.and_eq_true, blt_iff] at hn
      rcases (hlv _ _ hv).2 with rfl | ⟨w, hw, hvw⟩
      · cases (show false = true from hn.1)
      · rw [inI_iff] at hz
        have hzz : (Int32.ofInt z).toInt = z := (Int32.toInt_ofInt (n := z)).trans (bm hz.1 hz.2)
        obtain ⟨xv, yv, rfl, ey, env2, v2, θ2, H, hx2, he2, hv2⟩ := gAdd_ok (y := .inl z) (wy := .int (Int32.ofInt z)) he hvw ⟨_, rfl, hzz⟩ H
        cases ey
        obtain ⟨-, H⟩ := lset_ok H
        obtain ⟨a1, a2⟩ := ag_ext hag hn0 hx2
        have hpl : plain1 v2 = true := by
          rcases v2 with x | x | v2
          · rfl
          · rfl
          · cases v2
            case retAddr e => rfl
            case double e => rfl
            case int x => rfl
            case null => rfl
            all_goals cases (show Value.int _ = _ from hv2)
        exact ⟨hn.2, xv, hw, hgo _ _ _ _ _ _ _ H _ _ _ _ a1 a2 he2 ((hlv.ext hx2).set hpl hv2 hnl) (hst.gext hx2) (hm.ext hx2) hh⟩
    · cases H
  · cases H
theorem po_bin {te : TE} {n : Nat} {f : EW → AV → AV → (EW → AV → Bool) → Bool} {op : Int32 → Int32 → Int32} {P : Int32 → Prop} (hf : ∀ {θ : Nat → Int32} {env : EW} {x y : AV} {wx wy : Value} {k : EW → AV → Bool}, eG θ env → vG rs θ env.1 x wx → vG rs θ env.1 y wy → f env x y k = true → ∃ xv yv, wx = .int xv ∧ wy = .int yv ∧ P yv ∧ GN rs θ env k (op xv yv)) (hp : ∀ (lv' : LV) (r : List Value) (x y : Int32) (h' : PH) (c s : Nat), P y → K n lv' (.int (op x y) :: r) h' c s → pmI C S M hd Q K te lv' (.int y :: .int x :: r) h' c s) : PG n0 θ0 h0 C S M hd rs wr Q K (g_bin f n) te := by
  intro env lv st m c s go call ret θ lv' st' h' hag hn0 he hlv hst hm hh hgo hcall hret H
  unfold g_bin at H
  split at H
  · obtain ⟨w, _, rfl, hy, w2, r', rfl, hx, hr⟩ := hst
    obtain ⟨xv, yv, rfl, rfl, hP, env2, v2, θ2, H, hx2, he2, hv2⟩ := hf he hx hy H
    obtain ⟨a1, a2⟩ := ag_ext hag hn0 hx2
    exact hp _ _ _ _ _ _ _ hP (hgo _ _ _ _ _ _ _ H _ _ _ _ a1 a2 he2 (hlv.ext hx2) ⟨_, _, rfl, hv2, hr.gext hx2⟩ (hm.ext hx2) hh)
  · cases H
theorem tr5 {rs : RS} {θ : Nat → Int32} {env : EW} {wx wy : Value} {k : EW → AV → Bool} {op : Int32 → Int32 → Int32} (h : ∃ xv yv, wx = .int xv ∧ wy = .int yv ∧ GN rs θ env k (op xv yv)) : ∃ xv yv, wx = .int xv ∧ wy = .int yv ∧ True ∧ GN rs θ env k (op xv yv) := by
  obtain ⟨x, y, h1, h2, h3⟩ := h; exact ⟨x, y, h1, h2, trivial, h3⟩
theorem po_neg : PG n0 θ0 h0 C S M hd rs wr Q K (g_neg (pc + 1)) (pc, .ineg, ta, tb) := by
  intro env lv st m c s go call ret θ lv' st' h' hag hn0 he hlv hst hm hh hgo hcall hret H
  unfold g_neg at H
  split at H
  · obtain ⟨w, r', rfl, hx, hr⟩ := hst
    obtain ⟨xv, yv, e1, rfl, env2, v2, θ2, H, hx2, he2, hv2⟩ := gSub_ok (x := .inl 0) (wx := .int 0) he ⟨0, rfl, by decide⟩ hx H
    cases e1
    obtain ⟨a1, a2⟩ := ag_ext hag hn0 hx2
    have e0 : (0 : Int32) - yv = -yv := by
      apply toInt_inj; rw [Int32.toInt_sub, Int32.toInt_neg, show (0 : Int32).toInt = 0 by decide, Int.zero_sub]
    rw [e0] at hv2
    exact hgo _ _ _ _ _ _ _ H _ _ _ _ a1 a2 he2 (hlv.ext hx2) ⟨_, _, rfl, hv2, hr.gext hx2⟩ (hm.ext hx2) hh
  · cases H
theorem long_of {θ : Nat → Int32} {n : Nat} {v : AV} {w : Value} (h : isL v = true) (hv : vG rs θ n v w) : ∃ x, w = .long x := by
  rcases v with x | x | v
  · cases h
  · cases h
  · cases v <;> first | exact hv | cases h
theorem long_any {θ θ2 : Nat → Int32} {n n2 : Nat} {v : AV} (h : isL v = true) (x : Int64) : vG rs θ n v (.long x) := by
  rcases v with y | y | v
  · cases h
  · cases h
  · cases v <;> first | exact ⟨x, rfl⟩ | cases h
theorem po_i2l : PG n0 θ0 h0 C S M hd rs wr Q K (g_i2l (pc + 1)) (pc, .i2l, ta, tb) := by
  intro env lv st m c s go call ret θ lv' st' h' hag hn0 he hlv hst hm hh hgo hcall hret H
  unfold g_i2l at H
  split at H
  · obtain ⟨w, r', rfl, hx, hr⟩ := hst
    split at H
    · rename_i hn
      obtain ⟨y, rfl⟩ := gnum hn hx
      exact hgo _ _ _ _ _ _ _ H _ _ _ _ hag hn0 he hlv ⟨_, _, rfl, ⟨_, rfl⟩, hr⟩ hm hh
    · cases H
  · cases H
theorem po_lbin {te : TE} {n : Nat} (hp : ∀ (lv' : LV) (r : List Value) (x y : Int64) (h' : PH) (c s : Nat), (∀ z, K n lv' (.long z :: r) h' c s) → pmI C S M hd Q K te lv' (.long y :: .long x :: r) h' c s) : PG n0 θ0 h0 C S M hd rs wr Q K (g_lbin n) te := by
  intro env lv st m c s go call ret θ lv' st' h' hag hn0 he hlv hst hm hh hgo hcall hret H
  unfold g_lbin at H
  split at H
  · obtain ⟨w, _, rfl, hy, w2, r', rfl, hx, hr⟩ := hst
    split at H
    · rename_i hn
      rw [Bool.and_eq_true] at hn
      obtain ⟨x, rfl⟩ := long_of hn.1 hx
      obtain ⟨y, rfl⟩ := long_of hn.2 hy
      exact hp _ _ _ _ _ _ _ (fun z => hgo _ _ _ _ _ _ _ H _ _ _ _ hag hn0 he hlv ⟨_, _, rfl, long_any (θ2 := θ) (n2 := n0) hn.1 z, hr⟩ hm hh)
    · cases H
  · cases H
theorem po_lshl : PG n0 θ0 h0 C S M hd rs wr Q K (g_lshl (pc + 1)) (pc, .lshl, ta, tb) := by
  intro env lv st m c s go call ret θ lv' st' h' hag hn0 he hlv hst hm hh hgo hcall hret H
  unfold g_lshl at H
  split at H
  · obtain ⟨w, _, rfl, hy, w2, r', rfl, hx, hr⟩ := hst
    split at H
    · rename_i hn
      rw [Bool.and_eq_true] at hn
      obtain ⟨x, rfl⟩ := long_of hn.1 hx
      obtain ⟨y, rfl⟩ := gnum hn.2 hy
      exact hgo _ _ _ _ _ _ _ H _ _ _ _ hag hn0 he hlv ⟨_, _, rfl, long_any (θ2 := θ) (n2 := n0) hn.1 _, hr⟩ hm hh
    · cases H
  · cases H
theorem lg_rng (x y : Int64) : -1 ≤ (lg_cmp x y).toInt ∧ (lg_cmp x y).toInt ≤ 1 := by
  unfold lg_cmp
  split
  · decide
  · split <;> decide
theorem po_lcmp : PG n0 θ0 h0 C S M hd rs wr Q K (g_lcmp (pc + 1)) (pc, .lcmp, ta, tb) := by
  intro env lv st m c s go call ret θ lv' st' h' hag hn0 he hlv hst hm hh hgo hcall hret H
  unfold g_lcmp at H
  split at H
  · obtain ⟨w, _, rfl, hy, w2, r', rfl, hx, hr⟩ := hst
    split at H
    · rename_i hn
      rw [Bool.and_eq_true] at hn
      obtain ⟨x, rfl⟩ := long_of hn.1 hx
      obtain ⟨y, rfl⟩ := long_of hn.2 hy
      obtain ⟨env2, v2, θ2, H, hx2, he2, hv2⟩ := frs_ok (rs := rs) he (lg_rng x y).1 (lg_rng x y).2 H
      obtain ⟨a1, a2⟩ := ag_ext hag hn0 hx2
      exact hgo _ _ _ _ _ _ _ H _ _ _ _ a1 a2 he2 (hlv.ext hx2) ⟨_, _, rfl, hv2, hr.gext hx2⟩ (hm.ext hx2) hh
    · cases H
  · cases H
theorem po_dup : PG n0 θ0 h0 C S M hd rs wr Q K (g_dup (pc + 1)) (pc, .dup, ta, tb) := by
  intro env lv st m c s go call ret θ lv' st' h' hag hn0 he hlv hst hm hh hgo hcall hret H
  unfold g_dup at H
  split at H
  · obtain ⟨w, r', rfl, hx, hr⟩ := hst
    split at H
    · rename_i hn
      exact ⟨w, r', rfl, g1_ok hn hx, hgo _ _ _ _ _ _ _ H _ _ _ _ hag hn0 he hlv ⟨_, _, rfl, hx, _, _, rfl, hx, hr⟩ hm hh⟩
    · cases H
  · cases H
theorem po_dup2 : PG n0 θ0 h0 C S M hd rs wr Q K (g_dup2 (pc + 1)) (pc, .dup2, ta, tb) := by
  intro env lv st m c s go call ret θ lv' st' h' hag hn0 he hlv hst hm hh hgo hcall hret H
  unfold g_dup2 at H
  split at H
  · obtain ⟨w, _, rfl, hx, w2, r', rfl, hy, hr⟩ := hst
    split at H
    · rename_i hn
      rw [Bool.and_eq_true] at hn
      exact ⟨w, w2, r', rfl, g1_ok hn.1 hx, g1_ok hn.2 hy, hgo _ _ _ _ _ _ _ H _ _ _ _ hag hn0 he hlv ⟨_, _, rfl, hx, _, _, rfl, hy, _, _, rfl, hx, _, _, rfl, hy, hr⟩ hm hh⟩
    · cases H
  · cases H
theorem po_pop : PG n0 θ0 h0 C S M hd rs wr Q K (g_pop (pc + 1)) (pc, .pop, ta, tb) := by
  intro env lv st m c s go call ret θ lv' st' h' hag hn0 he hlv hst hm hh hgo hcall hret H
  unfold g_pop at H
  split at H
  · obtain ⟨w, r', rfl, hx, hr⟩ := hst
    split at H
    · rename_i hn
      exact ⟨w, r', rfl, g1_ok hn hx, hgo _ _ _ _ _ _ _ H _ _ _ _ hag hn0 he hlv hr hm hh⟩
    · cases H
  · cases H
theorem po_goto {z : Int} (hz0 : 0 ≤ (pc : Int) + z) : PG n0 θ0 h0 C S M hd rs wr Q K (g_goto ((pc : Int) + z).toNat) (pc, .goto z, ta, tb) := by
  intro env lv st m c s go call ret θ lv' st' h' hag hn0 he hlv hst hm hh hgo hcall hret H
  exact ⟨hz0, hgo _ _ _ _ _ _ _ H _ _ _ _ hag hn0 he hlv hst hm hh⟩
theorem po_if {cc : ClassFile.Cond} {z : Int} (hz0 : 0 ≤ (pc : Int) + z) : PG n0 θ0 h0 C S M hd rs wr Q K (g_if cc ((pc : Int) + z).toNat (pc + 3)) (pc, .ifCond cc z, ta, tb) := by
  intro env lv st m c s go call ret θ lv' st' h' hag hn0 he hlv hst hm hh hgo hcall hret H
  unfold g_if at H
  split at H
  · obtain ⟨w, r', rfl, hx, hr⟩ := hst
    obtain ⟨xv, yv, rfl, ey, q⟩ := gBr_ok (y := .inl 0) (wy := .int 0) he hx ⟨0, rfl, by decide⟩ H
    cases ey
    rcases q with ⟨hc, env2, H, e1, he2⟩ | ⟨hc, env2, H, e1, he2⟩
    · exact ⟨hz0, fun _ => hgo _ _ _ _ _ _ _ H _ _ _ _ hag (by rw [e1]; exact hn0) he2 (by rw [e1]; exact hlv) (by rw [e1]; exact hr) (by rw [e1]; exact hm) hh, fun q => absurd hc q⟩
    · exact ⟨hz0, fun q => absurd q hc, fun _ => hgo _ _ _ _ _ _ _ H _ _ _ _ hag (by rw [e1]; exact hn0) he2 (by rw [e1]; exact hlv) (by rw [e1]; exact hr) (by rw [e1]; exact hm) hh⟩
  · cases H
theorem po_icmp {cc : ClassFile.Cond} {z : Int} (hz0 : 0 ≤ (pc : Int) + z) : PG n0 θ0 h0 C S M hd rs wr Q K (g_icmp cc ((pc : Int) + z).toNat (pc + 3)) (pc, .if_icmp cc z, ta, tb) := by
  intro env lv st m c s go call ret θ lv' st' h' hag hn0 he hlv hst hm hh hgo hcall hret H
  unfold g_icmp at H
  split at H
  · obtain ⟨w, _, rfl, hy, w2, r', rfl, hx, hr⟩ := hst
    obtain ⟨xv, yv, rfl, rfl, q⟩ := gBr_ok he hx hy H
    rcases q with ⟨hc, env2, H, e1, he2⟩ | ⟨hc, env2, H, e1, he2⟩
    · exact ⟨hz0, fun _ => hgo _ _ _ _ _ _ _ H _ _ _ _ hag (by rw [e1]; exact hn0) he2 (by rw [e1]; exact hlv) (by rw [e1]; exact hr) (by rw [e1]; exact hm) hh, fun q => absurd hc q⟩
    · exact ⟨hz0, fun q => absurd q hc, fun _ => hgo _ _ _ _ _ _ _ H _ _ _ _ hag (by rw [e1]; exact hn0) he2 (by rw [e1]; exact hlv) (by rw [e1]; exact hr) (by rw [e1]; exact hm) hh⟩
  · cases H
end GOPS
/-! the careful evaluator: rows, objects, ends -/
section GOPH
variable {n0 : Nat} {θ0 : Nat → Int32} {C : Nat → List Value → PH → (Rs → PH → Prop) → Prop} {S : Nat × (Nat → Int32)} {M : PM} {hd : HD4} {rs : RS} {wr : WL} {h0 : PH} {Q : Rs → PH → Prop} {K : Kt} {pc ta tb : Nat}
theorem g_sw1_ok {θ : Nat → Int32} {env : EW} {x : AV} {go : Nat → EW → Bool} {xv : Int32} (he : eG θ env) (hx : vG rs θ env.1 x (.int xv)) : ∀ {ts : List Nat} {j : Int}, g_sw1 env x go ts j = true → ∀ (i t : Nat), ts[i]? = some t → xv.toInt = j + (i : Int) → ∃ env2, go t env2 = true ∧ env2.1 = env.1 ∧ eG θ env2
  | [], j, _, i, t, ht, _ => by simp at ht
  | t0 :: ts, j, h, i, t, ht, hj => by
    have h1 : (match rfn env x j j (go t0) with | true => iF (j + 1) (g_sw1 env x go ts) | false => false) = true := h
    split at h1
    · rename_i hr
      cases i with
      | zero =>
        simp at ht
        subst ht
        exact rfn_ok he hx (by simp at hj; omega) (by simp at hj; omega) hr
      | succ i =>
        have h2 := iF_ok h1
        exact g_sw1_ok he hx h2 i t (by simpa using ht) (by omega)
    · cases h1
theorem po_sw {d lo hi : Int} {offs : Array Int} (h1 : offs.toList.all (fun o => decide (0 ≤ (pc : Int) + o)) = true) (h2 : hi - lo + 1 = offs.size) (hz0 : 0 ≤ (pc : Int) + d) : PG n0 θ0 h0 C S M hd rs wr Q K (g_sw ((pc : Int) + d).toNat lo hi (offs.toList.map fun o => ((pc : Int) + o).toNat)) (pc, .tableswitch d lo hi offs, ta, tb) := by
  intro env lv st m c s go call ret θ lv' st' h' hag hn0 he hlv hst hm hh hgo hcall hret H
  unfold g_sw at H
  split at H
  · obtain ⟨w, r', rfl, hx, hr⟩ := hst
    obtain ⟨xv, a, b, rfl, a1, a2, H⟩ := gK_ok he hx H
    split at H
    · rename_i hgd
      refine ⟨fun _ => ⟨hz0, hgo _ _ _ _ _ _ _ hgd _ _ _ _ hag hn0 he hlv hr hm hh⟩, fun q1 q2 => ?_⟩
      have hlt : (xv.toInt - lo).toNat < offs.size := by omega
      have hoff : 0 ≤ (pc : Int) + offs[(xv.toInt - lo).toNat] := by
        have := List.all_eq_true.mp h1 offs[(xv.toInt - lo).toNat] (by simp)
        simpa using this
      obtain ⟨env2, H2, e1, he2⟩ := g_sw1_ok he hx H (xv.toInt - lo).toNat ((pc : Int) + offs[(xv.toInt - lo).toNat]).toNat (by rw [List.getElem?_map, Array.getElem?_toList, Array.getElem?_eq_getElem hlt]; rfl) (by omega)
      exact ⟨offs[(xv.toInt - lo).toNat], Array.getElem?_eq_getElem hlt, hoff, hgo _ _ _ _ _ _ _ H2 _ _ _ _ hag (by rw [e1]; exact hn0) he2 (by rw [e1]; exact hlv) (by rw [e1]; exact hr) (by rw [e1]; exact hm) hh⟩
    · cases H
  · cases H
theorem gIn_ok {θ : Nat → Int32} {env : EW} {i : AV} {w : Value} {z : Nat} {k : Bool} (he : eG θ env) (hi : vG rs θ env.1 i w) (h : gIn env i z k = true) : k = true ∧ ∃ iv : Int32, w = .int iv ∧ 0 ≤ iv.toInt ∧ iv.toInt < z := by
  unfold gIn at h
  obtain ⟨iv, a, b, rfl, a1, a2, h⟩ := gK_ok he hi h
  split at h
  · rename_i q
    rw [Bool.and_eq_true, bLe_iff, bLt_iff] at q
    have q2 : b < (z : Int) := q.2
    exact ⟨h, iv, rfl, by omega, by omega⟩
  · cases h
theorem gSub2_ok {θ : Nat → Int32} {env : EW} {v : AV} {w : Value} {lo hi : Int} {k : Bool} (he : eG θ env) (hv : vG rs θ env.1 v w) (h : gSub2 env v lo hi k = true) : k = true ∧ ∃ y : Int32, w = .int y ∧ lo ≤ y.toInt ∧ y.toInt ≤ hi := by
  unfold gSub2 at h
  obtain ⟨y, a, b, rfl, a1, a2, h⟩ := gK_ok he hv h
  split at h
  · rename_i q
    rw [Bool.and_eq_true, bLe_iff, bLe_iff] at q
    exact ⟨h, y, rfl, by omega, by omega⟩
  · cases h
theorem vin2 {iv : Int32} {n : Nat} (h1 : 0 ≤ iv.toInt) (h2 : iv.toInt < n) : vp_in iv n := vp_in_iff.mpr ⟨h1, h2⟩
theorem mG.cons {θ : Nat → Int32} {n e A : Nat} {p v : AV} {j : Int32} {w : Value} {m : MW} {h : PH} (H : mG rs θ n m h) (h1 : adR rs θ n e A) (h2 : vG rs θ n p (.int j)) (h3 : 0 ≤ j.toInt) (h4 : cellAt h A j.toInt.toNat w) (h5 : vG rs θ n v w) : mG rs θ n ((e, p, v) :: m) h := by
  intro f hf
  rcases List.mem_cons.mp hf with rfl | hf
  · exact ⟨A, j, w, h1, h2, h3, h4, h5⟩
  · exact H f hf
theorem rsel_ok {θ : Nat → Int32} {n sd : Nat} {rl : List (Int × Int)} {i : AV} {iv : Int32} {k : Int → Int → Bool} (hi : vG rs θ n i (.int iv)) (h0 : 0 ≤ iv.toInt) (H : rsel sd rl i k = true) : ∃ r, rl[iv.toInt.toNat % sd]? = some r ∧ k r.1 r.2 = true := by
  unfold rsel at H
  split at H
  · rename_i q hq
    split at H
    · rename_i r hr
      refine ⟨r, ?_, H⟩
      rw [lget_eq] at hr
      have : iv.toInt.toNat % sd = q := by
        unfold resid at hq
        split at hq
        · rename_i h1
          rw [beq_iff] at h1
          subst h1
          cases hq
          exact Nat.mod_one _
        · split at hq
          · obtain ⟨y, e1, e2⟩ := hi
            cases e1
            cases hq
            rw [e2]; rfl
          · rename_i t a b
            split at hq
            · rename_i ha
              rw [bEq_iff] at ha
              obtain ⟨-, y, e1, e2⟩ := hi
              cases e1
              cases hq
              have ha : a % (sd : Int) = 0 := ha
              have h3 : iv.toInt % (sd : Int) = b % (sd : Int) := by
                rw [e2, Int.add_emod, Int.mul_emod, ha]; simp
              show _ = (b % (sd : Int)).toNat
              rw [← h3, Int.toNat_emod h0 (by omega)]
              rfl
            · cases hq
          · cases hq
      rw [this]; exact hr
    · cases H
  · cases H
theorem rselR_ok {θ : Nat → Int32} {n sd : Nat} {rl : List (Int × Int)} {i : AV} {iv x : Int32} {k : Int → Int → Bool} (hi : vG rs θ n i (.int iv)) (h0 : 0 ≤ iv.toInt) (hx : ∃ r, rl[iv.toInt.toNat % sd]? = some r ∧ r.1 ≤ x.toInt ∧ x.toInt ≤ r.2) (H : rselR sd rl i k = true) : ∃ lo hi, lo ≤ x.toInt ∧ x.toInt ≤ hi ∧ k lo hi = true := by
  unfold rselR at H
  split at H
  · obtain ⟨r1, hr1, H⟩ := rsel_ok hi h0 H
    obtain ⟨r0, hr0, hb⟩ := hx
    cases hr0.symm.trans hr1
    exact ⟨_, _, hb.1, hb.2, H⟩
  · have a := x.le_toInt
    have b := x.toInt_lt
    exact ⟨iLo, iHi, by show (-2147483648 : Int) ≤ _; omega, by show _ ≤ (2147483647 : Int); omega, H⟩
theorem one_r {lo hi v : Int} {j : Nat} : (∃ r, [(lo, hi)][j % 1]? = some r ∧ r.1 ≤ v ∧ v ≤ r.2) ↔ lo ≤ v ∧ v ≤ hi := by
  rw [Nat.mod_one]
  constructor
  · rintro ⟨r, h1, h2⟩
    cases h1
    exact h2
  · intro h
    exact ⟨_, rfl, h⟩
theorem po_iald : PG n0 θ0 h0 C S M hd rs wr Q K (g_iald (pc + 1)) (pc, .iaload, ta, tb) := by
  intro env lv st m c s go call ret θ lv' st' h' hag hn0 he hlv hst hm hh hgo hcall hret H
  unfold g_iald at H
  split at H
  · rename_i i e r
    obtain ⟨w, _, rfl, hi, w2, r', rfl, hx, hr⟩ := hst
    obtain ⟨A, hA, rfl⟩ := hx
    split at H
    · rename_i l z sd rl hq
      obtain ⟨i0, y, g1, g2, g, rfl, g3⟩ := hA.cell hh.1 hq
      obtain ⟨H, iv, rfl, i1, i2⟩ := gIn_ok he hi H
      have hj : iv.toNatClampNeg = iv.toInt.toNat := rfl
      refine iald_mk (S := S) (k := fun st => K (pc + 1) lv' st h' c s) g2 (vin2 i1 i2) ?_
      rw [hj]
      rcases mfind_ok H with H | ⟨f, f1, f2, f3, H⟩
      · obtain ⟨lo, hi2, b1, b2, H⟩ := rselR_ok hi i1 (g3 iv.toInt.toNat (by omega)) H
        obtain ⟨env2, v2, θ2, H, hx2, he2, hv2⟩ := frs_ok (rs := rs) he b1 b2 H
        obtain ⟨a1, a2⟩ := ag_ext hag hn0 hx2
        exact hgo _ _ _ _ _ _ _ H _ _ _ _ a1 a2 he2 (hlv.ext hx2) ⟨_, _, rfl, hv2, hr.gext hx2⟩ ((hm.ext hx2).cons (hA.ext hx2) (hi.ext hx2) i1 (Or.inl ⟨_, _, g2, rfl⟩) hv2) hh
      · obtain ⟨B, j2, w3, m1, m2, m3, m4, m5⟩ := hm f f1
        rw [f2] at m1
        cases m1.one hA
        cases aEq_one f3 m2 hi
        have hw3 : w3 = .int (g iv.toInt.toNat) := by
          rcases m4 with ⟨z2, g4, b1, b2⟩ | ⟨ci, gs, b1, b2⟩
          · cases g2.symm.trans b1; exact b2
          · cases g2.symm.trans b1
        rw [hw3] at m5
        exact hgo _ _ _ _ _ _ _ H _ _ _ _ hag hn0 he hlv ⟨_, _, rfl, m5, hr⟩ hm hh
    · cases H
  · cases H
theorem po_iast (hdj : DJ rs) : PG n0 θ0 h0 C S M hd rs wr Q K (g_iast (pc + 1)) (pc, .iastore, ta, tb) := by
  intro env lv st m c s go call ret θ lv' st' h' hag hn0 he hlv hst hm hh hgo hcall hret H
  unfold g_iast at H
  split at H
  · rename_i v i e r
    obtain ⟨w0, _, rfl, hv, w, _, rfl, hi, w2, r', rfl, hx, hr⟩ := hst
    obtain ⟨A, hA, rfl⟩ := hx
    split at H
    · rename_i l z sd rl hq
      obtain ⟨i0, y, g1, g2, g, rfl, g3⟩ := hA.cell hh.1 hq
      obtain ⟨H, iv, rfl, i1, i2⟩ := gIn_ok he hi H
      obtain ⟨r0, hr0, H⟩ := rsel_ok hi i1 H
      obtain ⟨H, xv, rfl, x1, x2⟩ := gSub2_ok he hv H
      obtain ⟨H, hwr⟩ := wAll_ok H
      obtain ⟨m2, H, hm2⟩ := mdrop_ok H
      have hk : rs[e / 65536]? = some (l, .inl (z, sd, rl)) := by unfold kspec at hq; rw [lget_eq] at hq; exact hq
      have hl : A < h'.length := (List.getElem?_eq_some_iff.mp g2).1
      refine iast_mk (k := fun st h => K (pc + 1) lv' st h c s) g2 (vin2 i1 i2) ?_
      have hj : iv.toNatClampNeg = iv.toInt.toNat := rfl
      rw [hj]
      have hcell : cellAt (h'.set A (.inl (0, z, .inl (upd g iv.toInt.toNat xv)))) A iv.toInt.toNat (.int xv) := Or.inl ⟨_, _, List.getElem?_set_self hl, by rw [show upd g iv.toInt.toNat xv iv.toInt.toNat = xv from if_pos rfl]⟩
      refine hgo _ _ _ _ _ _ _ H _ _ _ _ hag hn0 he hlv hr ((hm.keep hdj hk g1 hi i1 hm2 ?_).cons hA hi i1 hcell hv) (hh.set hdj hk g1 ⟨_, rfl, fun j hj => ?_⟩ (fun f hf => absurd (wIn_all hwr f) hf))
      · intro j2 w3 hne hc
        rcases hc with ⟨z2, g4, b1, b2⟩ | ⟨ci, gs, b1, b2⟩
        · cases g2.symm.trans b1
          exact Or.inl ⟨_, _, List.getElem?_set_self hl, by rw [b2, show upd g iv.toInt.toNat xv j2 = g j2 from if_neg hne]⟩
        · cases g2.symm.trans b1
      · unfold upd
        split
        · rename_i hjj
          exact ⟨r0, by rw [hjj]; exact hr0, x1, x2⟩
        · exact g3 j hj
    · cases H
  · cases H
theorem po_last (hdj : DJ rs) : PG n0 θ0 h0 C S M hd rs wr Q K (g_last (pc + 1)) (pc, .lastore, ta, tb) := by
  intro env lv st m c s go call ret θ lv' st' h' hag hn0 he hlv hst hm hh hgo hcall hret H
  unfold g_last at H
  split at H
  · rename_i x i e r
    obtain ⟨w0, _, rfl, ⟨xv, rfl⟩, w, _, rfl, hi, w2, r', rfl, hx, hr⟩ := hst
    obtain ⟨A, hA, rfl⟩ := hx
    split at H
    · rename_i l z hq
      obtain ⟨i0, y, g1, g2, g, rfl⟩ := hA.cell hh.1 hq
      obtain ⟨H, iv, rfl, i1, i2⟩ := gIn_ok he hi H
      have hk : rs[e / 65536]? = some (l, .inr (.inl z)) := by unfold kspec at hq; rw [lget_eq] at hq; exact hq
      refine last_mk (k := fun st h => K (pc + 1) lv' st h c s) g2 (vin2 i1 i2) ?_
      refine hgo _ _ _ _ _ _ _ H _ _ _ _ hag hn0 he hlv hr ?_ (hh.set hdj hk g1 ⟨_, rfl⟩ (fun f hf w hc => by rcases hc with ⟨z2, g4, b1, b2⟩ | ⟨ci, gs, b1, b2⟩ <;> cases g2.symm.trans b1))
      intro f hf
      obtain ⟨B, j2, w3, m1, m2, m3, m4, m5⟩ := hm f hf
      refine ⟨B, j2, w3, m1, m2, m3, ?_, m5⟩
      have hAB : ¬ A = B := fun q => by
        subst q
        rcases m4 with ⟨z2, g4, b1, b2⟩ | ⟨ci, gs, b1, b2⟩ <;> cases g2.symm.trans b1
      rcases m4 with ⟨z2, g4, b1, b2⟩ | ⟨ci, gs, b1, b2⟩
      · exact Or.inl ⟨_, _, by rw [List.getElem?_set_ne hAB]; exact b1, b2⟩
      · exact Or.inr ⟨_, _, by rw [List.getElem?_set_ne hAB]; exact b1, b2⟩
    · cases H
  · cases H
theorem po_alen : PG n0 θ0 h0 C S M hd rs wr Q K (g_alen (pc + 1)) (pc, .arraylength, ta, tb) := by
  intro env lv st m c s go call ret θ lv' st' h' hag hn0 he hlv hst hm hh hgo hcall hret H
  unfold g_alen at H
  split at H
  · rename_i e r
    obtain ⟨w, r', rfl, hx, hr⟩ := hst
    obtain ⟨A, hA, rfl⟩ := hx
    split at H
    · rename_i l z lo hi2 hq
      split at H
      · rename_i hz
        rw [blt_iff] at hz
        obtain ⟨i0, y, g1, g2, g, rfl, g3⟩ := hA.cell hh.1 hq
        exact alen_mk (S := S) (k := fun st => K (pc + 1) lv' st h' c s) g2 (by omega) (hgo _ _ _ _ _ _ _ H _ _ _ _ hag hn0 he hlv ⟨_, _, rfl, ⟨_, rfl, Int32.toInt_ofNat_of_lt (by omega)⟩, hr⟩ hm hh)
      · cases H
    · cases H
  · cases H
theorem kto_ok {θ : Nat → Int32} {n e A i k : Nat} {c : Nat → Bool} {w : Value} (hA : adR rs θ n e A) {q : List Nat × CS} (hq : kspec rs e = some q) (hi : q.1[i]? = some A) (hnd : DJ rs) (hw : asR rs i (.inr k) w) (h : kto rs e k c = true) : ∃ e2, c e2 = true ∧ vG rs θ n (aC e2) w := by
  obtain ⟨q2, B, b1, b2, rfl⟩ := hw
  unfold kto at h
  rw [lget_eq, b1] at h
  dsimp only at h
  split at h
  · rename_i ho
    rw [if_pos ho] at b2
    refine ⟨_, natF_ok h, B, ⟨q2, ?_, Or.inl ⟨ho, b2⟩⟩, rfl⟩
    rw [show (k * 65536 + 65535) / 65536 = k by omega]; exact b1
  · rename_i ho
    rw [hq] at h
    dsimp only at h
    rw [if_neg (by rw [ho]; simp)] at b2
    split at h
    · rename_i hlen
      rw [beq_iff] at hlen
      have hk : rs[e / 65536]? = some q := by unfold kspec at hq; rw [lget_eq] at hq; exact hq
      obtain ⟨q3, a1, a2⟩ := hA
      cases hk.symm.trans a1
      rcases a2 with ⟨a2, a3⟩ | ⟨a2, a3, a4, a5⟩
      · exfalso
        have h1 : q.1.length = 1 := by
          unfold isOne at a2
          split at a2
          · rename_i hl; rw [hl]; rfl
          · cases a2
        have h2 : q2.1.length = 1 := by rw [← hlen]; exact h1
        unfold isOne at ho
        split at ho
        · cases ho
        · rename_i hno
          cases hl : q2.1 with
          | nil => rw [hl] at h2; cases h2
          | cons x xs =>
            cases xs with
            | nil => exact hno x hl
            | cons y ys => rw [hl] at h2; simp at h2
      · obtain ⟨-, ei⟩ := hnd _ _ _ _ _ _ _ hk hi hk a5
        refine ⟨_, natF_ok h, B, ⟨q2, ?_, Or.inr ⟨ho, ?_, ?_, ?_⟩⟩, rfl⟩
        · rw [show (k * 65536 + Nat.mod e 65536) / 65536 = k by have := Nat.mod_lt e (show 0 < 65536 by omega); show (k * 65536 + e % 65536) / 65536 = k; omega]; exact b1
        all_goals rw [show (k * 65536 + Nat.mod e 65536) % 65536 = e % 65536 by show (k * 65536 + e % 65536) % 65536 = _; omega]
        · exact a3
        · exact a4
        · rw [← ei]; exact b2
    · cases h
theorem fnum_lt (ci : Nat) : fnum ci < 100 := by
  unfold fnum
  split
  · rename_i r2 hr2
    have := List.all_eq_true.mp (show vwCl.all (fun r => decide (r.2.2 < 100)) = true by decide) r2 (List.mem_of_getElem? hr2)
    simpa using this
  · omega
theorem po_get (hdj : DJ rs) {i : Nat} (hf : tb < fnum ta) : PG n0 θ0 h0 C S M hd rs wr Q K (g_get ta tb (pc + 3)) (pc, .getfield i, ta, tb) := by
  intro env lv st m c s go call ret θ lv' st' h' hag hn0 he hlv hst hm hh hgo hcall hret H
  unfold g_get at H
  split at H
  · rename_i e r
    obtain ⟨w, r', rfl, hx, hr⟩ := hst
    obtain ⟨A, hA, rfl⟩ := hx
    split at H
    · rename_i l cj fs hq
      split at H
      · rename_i hn
        rw [beq_iff] at hn
        subst hn
        obtain ⟨i0, y, g1, g2, gs, rfl, g3, g4⟩ := hA.cell hh.1 hq
        rw [lget_eq] at H
        split at H
        · rename_i lo hi2 hfs
          obtain ⟨w2, hw2, hw3⟩ := g4 _ _ hfs
          refine get_mk (k := fun st => K (pc + 3) lv' st h' c s) g2 hf hw2 ?_
          rcases mfind_ok H with H | ⟨f, f1, f2, f3, H⟩
          · obtain ⟨yv, rfl, y1, y2⟩ := hw3
            obtain ⟨env2, v2, θ2, H, hx2, he2, hv2⟩ := frs_ok (rs := rs) he y1 y2 H
            obtain ⟨a1, a2⟩ := ag_ext hag hn0 hx2
            have hb : tb < 2147483648 := by have := fnum_lt cj; omega
            exact hgo _ _ _ _ _ _ _ H _ _ _ _ a1 a2 he2 (hlv.ext hx2) ⟨_, _, rfl, hv2, hr.gext hx2⟩ ((hm.ext hx2).cons (hA.ext hx2) (j := Int32.ofNat tb) ⟨_, rfl, Int32.toInt_ofNat_of_lt (by omega)⟩ (by rw [Int32.toInt_ofNat_of_lt (by omega)]; omega) (Or.inr ⟨_, _, g2, by rw [Int32.toInt_ofNat_of_lt (by omega)]; exact hw2⟩) hv2) hh
          · obtain ⟨B, j2, w4, m1, m2, m3, m4, m5⟩ := hm f f1
            rw [f2] at m1
            cases m1.one hA
            have ef := aEq_ok f3
            rw [ef] at m2
            obtain ⟨j3, e3, e4⟩ := m2
            cases e3
            have e4 : j2.toInt = (tb : Int) := e4
            have hw4 : w4 = w2 := by
              rcases m4 with ⟨z2, g5, b1, b2⟩ | ⟨ci, gs2, b1, b2⟩
              · cases g2.symm.trans b1
              · cases g2.symm.trans b1
                rw [e4] at b2
                exact Option.some.inj (b2.symm.trans hw2)
            rw [hw4] at m5
            exact hgo _ _ _ _ _ _ _ H _ _ _ _ hag hn0 he hlv ⟨_, _, rfl, m5, hr⟩ hm hh
        · rename_i k hfs
          obtain ⟨w2, hw2, hw3⟩ := g4 _ _ hfs
          obtain ⟨e2, H, hv2⟩ := kto_ok hA hq g1 hdj hw3 H
          exact get_mk (k := fun st => K (pc + 3) lv' st h' c s) g2 hf hw2 (hgo _ _ _ _ _ _ _ H _ _ _ _ hag hn0 he hlv ⟨_, _, rfl, hv2, hr⟩ hm hh)
        · cases H
      · cases H
    · cases H
  · cases H
theorem bit01 {y : Int32} (h1 : 0 ≤ y.toInt) (h2 : y.toInt ≤ 1) : y = 0 ∨ y = 1 := by
  rcases (show y.toInt = 0 ∨ y.toInt = 1 by omega) with q | q
  · exact Or.inl (toInt_inj (by rw [q]; decide))
  · exact Or.inr (toInt_inj (by rw [q]; decide))
theorem put_core (hdj : DJ rs) {i : Nat} (hf : tb < fnum ta) {env : EW} {lv st : LW} {m : MW} {c s : Nat} {go : GG} {call : Nat → Bool → Bool} {ret : AQ → Bool} {θ : Nat → Int32} {lv' : LV} {st' : List Value} {h' : PH} (hag : ∀ t, t < n0 → θ t = θ0 t) (hn0 : n0 ≤ env.1) (he : eG θ env) (hlv : lG rs θ env.1 lv lv') (hst : A2 (vG rs θ env.1) st st') (hm : mG rs θ env.1 m h') (hh : HW rs wr h0 h') (hgo : ∀ pc2 env2 lv2 st2 m2 c2 s2, go pc2 env2 lv2 st2 m2 c2 s2 = true → ∀ θ2 lv2' st2' h2', (∀ t, t < n0 → θ2 t = θ0 t) → n0 ≤ env2.1 → eG θ2 env2 → lG rs θ2 env2.1 lv2 lv2' → A2 (vG rs θ2 env2.1) st2 st2' → mG rs θ2 env2.1 m2 h2' → HW rs wr h0 h2' → K pc2 lv2' st2' h2' c2 s2) (hty : ∀ (y : Int32) (r : List Value), st' = .int y :: r → narrow (ftyX ta tb) (.int y) = .int y ∧ fits (ftyX ta tb) (.int y) = true) (H : g_put ta tb (pc + 3) (M, hd, rs, wr) env lv st m c s go call ret = true) : pmI C S M hd Q K (pc, .putfield i, ta, tb) lv' st' h' c s := by
  unfold g_put at H
  split at H
  · rename_i v e r
    obtain ⟨w0, _, rfl, hv, w, r', rfl, hx, hr⟩ := hst
    obtain ⟨A, hA, rfl⟩ := hx
    split at H
    · rename_i l cj fs hq
      split at H
      · rename_i hn
        rw [beq_iff] at hn
        subst hn
        obtain ⟨i0, y, g1, g2, gs, rfl, g3, g4⟩ := hA.cell hh.1 hq
        rw [lget_eq] at H
        split at H
        · rename_i lo hi2 hfs
          obtain ⟨H, xv, rfl, x1, x2⟩ := gSub2_ok he hv H
          obtain ⟨H, hwr⟩ := wHas_ok H
          obtain ⟨m2, H, hm2⟩ := mdrop_ok H
          obtain ⟨t1, t2⟩ := hty xv _ rfl
          have hk : rs[e / 65536]? = some (l, .inr (.inr (.inr (cj, fs)))) := by unfold kspec at hq; rw [lget_eq] at hq; exact hq
          have hl : A < h'.length := (List.getElem?_eq_some_iff.mp g2).1
          have hfl : tb < gs.length := by rw [g3]; exact (List.getElem?_eq_some_iff.mp hfs).1
          have hb : tb < 2147483648 := by have := fnum_lt cj; omega
          have htb : (Int32.ofNat tb).toInt = (tb : Int) := Int32.toInt_ofNat_of_lt (by omega)
          have hpl : vG rs θ env.1 (.inl (.ofNat tb)) (.int (Int32.ofNat tb)) := ⟨_, rfl, htb⟩
          have hoth : ∀ (j2 : Nat) (w3 : Value), ¬ j2 = tb → cellAt h' A j2 w3 → cellAt (h'.set A (.inr (cj, gs.set tb (.int xv)))) A j2 w3 := by
            intro j2 w3 hne hc
            rcases hc with ⟨z2, g5, b1, b2⟩ | ⟨ci, gs2, b1, b2⟩
            · cases g2.symm.trans b1
            · cases g2.symm.trans b1
              exact Or.inr ⟨_, _, List.getElem?_set_self hl, by rw [List.getElem?_set_ne (fun q => hne q.symm)]; exact b2⟩
          refine put_mk (k := fun st h => K (pc + 3) lv' st h c s) g2 hf hfl t1 t2 ?_
          refine hgo _ _ _ _ _ _ _ H _ _ _ _ hag hn0 he hlv hr ((hm.keep hdj hk g1 hpl (by omega) hm2 ?_).cons hA hpl (by omega) (Or.inr ⟨_, _, List.getElem?_set_self hl, by rw [htb]; exact List.getElem?_set_self hfl⟩) hv) (hh.set hdj hk g1 ⟨_, rfl, by rw [List.length_set]; exact g3, fun f a hfa => ?_⟩ (fun f hf w hc => hoth f w (fun q => hf (by rw [q]; exact hwr)) hc))
          · intro j2 w3 hne hc
            rw [htb] at hne
            exact hoth j2 w3 hne hc
          · by_cases hft : tb = f
            · subst hft
              cases hfs.symm.trans hfa
              exact ⟨.int xv, List.getElem?_set_self hfl, xv, rfl, x1, x2⟩
            · obtain ⟨w5, h5, h6⟩ := g4 f a hfa
              exact ⟨w5, by rw [List.getElem?_set_ne hft]; exact h5, h6⟩
        · cases H
      · cases H
    · cases H
  · cases H
theorem po_puti (hdj : DJ rs) {i : Nat} (hf : tb < fnum ta) (hty : ftyX ta tb = .int) : PG n0 θ0 h0 C S M hd rs wr Q K (g_put ta tb (pc + 3)) (pc, .putfield i, ta, tb) := by
  intro env lv st m c s go call ret θ lv' st' h' hag hn0 he hlv hst hm hh hgo hcall hret H
  exact put_core hdj hf hag hn0 he hlv hst hm hh hgo (fun y r _ => by rw [hty]; exact ⟨rfl, rfl⟩) H
theorem po_putb (hdj : DJ rs) {i : Nat} (hf : tb < fnum ta) (hty : ftyX ta tb = .boolean) : PG n0 θ0 h0 C S M hd rs wr Q K (g_putb ta tb (pc + 3)) (pc, .putfield i, ta, tb) := by
  intro env lv st m c s go call ret θ lv' st' h' hag hn0 he hlv hst hm hh hgo hcall hret H
  unfold g_putb at H
  split at H
  · have hst0 := hst
    obtain ⟨w, r', rfl, hx, hr⟩ := hst
    obtain ⟨H, yv, rfl, y1, y2⟩ := gSub2_ok he hx H
    refine put_core hdj hf hag hn0 he hlv hst0 hm hh hgo (fun y r hy => ?_) H
    cases hy
    rw [hty]
    rcases bit01 y1 y2 with rfl | rfl <;> exact ⟨rfl, rfl⟩
  · cases H
theorem frs_x {θ : Nat → Int32} {env : EW} (he : eG θ env) {lo hi : Int} {k : EW → AV → Bool} {v : Int32} (h1 : lo ≤ v.toInt) (h2 : v.toInt ≤ hi) (h : frs env lo hi k = true) : k (env.1 + 1, (lo, hi) :: env.2) (aY env.1 1 0) = true ∧ Ext θ env.1 (th θ env.1 v) (env.1 + 1) ∧ eG (th θ env.1 v) (env.1 + 1, (lo, hi) :: env.2) := by
  have h := natF_ok (iF_ok (iF_ok h))
  refine ⟨h, ⟨Nat.le_succ _, fun t ht => if_neg (by omega)⟩, ⟨by show (_ :: env.2).length = _; rw [List.length_cons, he.1], fun i r hi => ?_⟩⟩
  cases i with
  | zero =>
    cases hi
    show lo ≤ (th θ env.1 v (env.1 + 1 - 1 - 0)).toInt ∧ (th θ env.1 v (env.1 + 1 - 1 - 0)).toInt ≤ hi
    rw [show th θ env.1 v (env.1 + 1 - 1 - 0) = v from if_pos (by omega)]
    exact ⟨h1, h2⟩
  | succ i =>
    have hi2 : env.2[i]? = some r := by simpa using hi
    have hl : i < env.2.length := (List.getElem?_eq_some_iff.mp hi2).1
    rw [he.1] at hl
    have h3 := he.2 i r hi2
    show r.1 ≤ (th θ env.1 v (env.1 + 1 - 1 - (i + 1))).toInt ∧ (th θ env.1 v (env.1 + 1 - 1 - (i + 1))).toInt ≤ r.2
    rw [show th θ env.1 v (env.1 + 1 - 1 - (i + 1)) = θ (env.1 - 1 - i) from by
      unfold th; rw [if_neg (by omega)]; congr 1; omega]
    exact h3
theorem ad_mk {θ : Nat → Int32} {n k u A : Nat} {q : List Nat × CS} (hu : u < 65536) (hq : rs[k]? = some q) (h0 : isOne q.1 = false) (hun : u < n) (h1 : 0 ≤ (θ u).toInt) (h2 : q.1[(θ u).toInt.toNat]? = some A) : adR rs θ n (k * 65536 + u) A := by
  refine ⟨q, ?_, Or.inr ⟨h0, ?_, ?_, ?_⟩⟩
  · rw [show (k * 65536 + u) / 65536 = k by omega]; exact hq
  all_goals rw [show (k * 65536 + u) % 65536 = u by omega]
  · exact hun
  · exact h1
  · exact h2
theorem po_aald : PG n0 θ0 h0 C S M hd rs wr Q K (g_aald (pc + 1)) (pc, .aaload, ta, tb) := by
  intro env lv st m c s go call ret θ lv' st' h' hag hn0 he hlv hst hm hh hgo hcall hret H
  unfold g_aald at H
  split at H
  · rename_i i e r
    obtain ⟨w, _, rfl, hi, w2, r', rfl, hx, hr⟩ := hst
    obtain ⟨A, hA, rfl⟩ := hx
    split at H
    · rename_i l t k hq
      obtain ⟨i0, y, g1, g2, ht, q, g, b1, b0, rfl, b2⟩ := hA.cell hh.1 hq
      rw [lget_eq, b1] at H
      dsimp only at H
      split at H
      · rename_i u
        split at H
        · rename_i hu
          rw [blt_iff] at hu
          obtain ⟨H, iv, rfl, i1, i2⟩ := gIn_ok he hi H
          have H := natF_ok H
          have hlt : iv.toInt.toNat < q.1.length := by omega
          have hg := b2 iv.toInt.toNat q.1[iv.toInt.toNat] (List.getElem?_eq_getElem hlt)
          obtain ⟨hun, iv2, e1, e2⟩ := hi
          cases e1
          have e2 : iv.toInt = 1 * (θ u).toInt + 0 := e2
          have e3 : (θ u).toInt = iv.toInt := by omega
          refine aald_mk (k := fun st => K (pc + 1) lv' st h' c s) g2 ht (vin2 i1 i2) hg ?_
          exact hgo _ _ _ _ _ _ _ H _ _ _ _ hag hn0 he hlv ⟨_, _, rfl, ⟨q.1[iv.toInt.toNat], ad_mk hu b1 b0 hun (by omega) (by rw [e3]; exact List.getElem?_eq_getElem hlt), rfl⟩, hr⟩ hm hh
        · cases H
      · split at H
        · rename_i hu
          rw [blt_iff] at hu
          obtain ⟨H, iv, rfl, i1, i2⟩ := gIn_ok he hi H
          have hlt : iv.toInt.toNat < q.1.length := by omega
          have hg := b2 iv.toInt.toNat q.1[iv.toInt.toNat] (List.getElem?_eq_getElem hlt)
          obtain ⟨iv2, lo, hi2, e1, a1, a2, H⟩ := gK_ok he hi H
          cases e1
          obtain ⟨H, hx2, he2⟩ := frs_x he a1 a2 H
          have H := natF_ok H
          obtain ⟨c1, c2⟩ := ag_ext hag hn0 hx2
          have e3 : th θ env.1 iv env.1 = iv := if_pos rfl
          refine aald_mk (k := fun st => K (pc + 1) lv' st h' c s) g2 ht (vin2 i1 i2) hg ?_
          exact hgo _ _ _ _ _ _ _ H _ _ _ _ c1 c2 he2 (hlv.ext hx2) ⟨_, _, rfl, ⟨q.1[iv.toInt.toNat], ad_mk hu b1 b0 (Nat.lt_succ_self _) (by rw [e3]; exact i1) (by rw [e3]; exact List.getElem?_eq_getElem hlt), rfl⟩, hr.gext hx2⟩ (hm.ext hx2) hh
        · cases H
    · cases H
  · cases H
theorem po_throw {i : Nat} {x : Nat × Nat × Nat × Nat × Nat × Nat} (h1 : tb = 1) (hx : XLs[ta]? = some x) : PG n0 θ0 h0 C S M hd rs wr Q K (g_throw x.2.2.1) (pc, .new i, ta, tb) := by
  intro env lv st m c s go call ret θ lv' st' h' hag hn0 he hlv hst hm hh hgo hcall hret H
  unfold g_throw at H
  split at H
  · rename_i hhd
    split at H
    · rename_i hn
      rw [Bool.and_eq_true, Bool.and_eq_true, Nat.ble_eq, Nat.ble_eq, Nat.ble_eq] at hn
      exact Or.inr ⟨h1, hhd, hn.1, hn.2.1, by rw [gcats_ok hst]; exact hn.2.2, x, hx, hret _ H _ rfl⟩
    · cases H
  · cases H
theorem po_iret : PG n0 θ0 h0 C S M hd rs wr Q K g_iret (pc, .ireturn, ta, tb) := by
  intro env lv st m c s go call ret θ lv' st' h' hag hn0 he hlv hst hm hh hgo hcall hret H
  unfold g_iret at H
  split at H
  · obtain ⟨w, r', rfl, hx, hr⟩ := hst
    cases (show r' = [] from hr)
    split at H
    · rename_i hR
      split at H
      · rename_i hn
        obtain ⟨xv, rfl⟩ := gnum hn hx
        exact ⟨xv, rfl, ⟨_, hR, rfl⟩, hret _ H _ (A2.one hx)⟩
      · cases H
    · rename_i hR
      obtain ⟨H, yv, rfl, y1, y2⟩ := gSub2_ok he hx H
      exact ⟨yv, rfl, ⟨_, hR, by rcases bit01 y1 y2 with rfl | rfl <;> rfl⟩, hret _ H _ (A2.one hx)⟩
    · cases H
  · cases H
theorem po_lret : PG n0 θ0 h0 C S M hd rs wr Q K g_lret (pc, .lreturn, ta, tb) := by
  intro env lv st m c s go call ret θ lv' st' h' hag hn0 he hlv hst hm hh hgo hcall hret H
  unfold g_lret at H
  split at H
  · obtain ⟨w, r', rfl, hx, hr⟩ := hst
    cases (show r' = [] from hr)
    split at H
    · rename_i hR
      split at H
      · rename_i hn
        obtain ⟨x, rfl⟩ := long_of hn hx
        exact ⟨x, rfl, hR, hret _ H _ (A2.one hx)⟩
      · cases H
    · cases H
  · cases H
theorem po_aret : PG n0 θ0 h0 C S M hd rs wr Q K g_aret (pc, .areturn, ta, tb) := by
  intro env lv st m c s go call ret θ lv' st' h' hag hn0 he hlv hst hm hh hgo hcall hret H
  unfold g_aret at H
  split at H
  · obtain ⟨w, r', rfl, hx, hr⟩ := hst
    have hx0 := hx
    obtain ⟨A, hA, rfl⟩ := hx
    cases (show r' = [] from hr)
    split at H
    · rename_i hR
      exact ⟨_, rfl, ⟨_, hR⟩, hret _ H _ (A2.one hx0)⟩
    · cases H
  · cases H
theorem po_ret : PG n0 θ0 h0 C S M hd rs wr Q K g_ret (pc, .return_, ta, tb) := by
  intro env lv st m c s go call ret θ lv' st' h' hag hn0 he hlv hst hm hh hgo hcall hret H
  unfold g_ret at H
  split at H
  · cases (show st' = [] from hst)
    split at H
    · rename_i hR
      exact ⟨rfl, hR, hret _ H _ rfl⟩
    · cases H
  · cases H
theorem po_copy (hdj : DJ rs) {i : Nat} (h7 : tb = 7) : PG n0 θ0 h0 C S M hd rs wr Q K (g_copy (pc + 3)) (pc, .invokestatic i, ta, tb) := by
  intro env lv st m c s go call ret θ lv' st' h' hag hn0 he hlv hst hm hh hgo hcall hret H
  unfold g_copy at H
  split at H
  · rename_i z dp e1 sp e0 r
    obtain ⟨wz, _, rfl, hz, wd, _, rfl, hdp, w1, _, rfl, hx1, ws, _, rfl, hsp, w0, r', rfl, hx0, hr⟩ := hst
    obtain ⟨A1, hA1, rfl⟩ := hx1
    obtain ⟨A0, hA0, rfl⟩ := hx0
    split at H
    · rename_i l0 n0' lo0 hi0 hq0
      split at H
      · rename_i l1 n1' lo1 hi1 hq1
        obtain ⟨j0, y0, a1, a2, f, rfl, a3⟩ := hA0.cell hh.1 hq0
        obtain ⟨j1, y1, b1, b2, g, rfl, b3⟩ := hA1.cell hh.1 hq1
        obtain ⟨zv, za, zb, rfl, z1, z2, H⟩ := gK_ok he hz H
        obtain ⟨dv, da, db, rfl, d1, d2, H⟩ := gK_ok he hdp H
        obtain ⟨sv, sa, sb, rfl, s1, s2, H⟩ := gK_ok he hsp H
        split at H
        · rename_i hb
          simp only [Bool.and_eq_true, bLe_iff, Nat.ble_eq] at hb
          obtain ⟨⟨c1, c2, c3⟩, ⟨c4, c5⟩, ⟨c6, c7⟩, c8⟩ := hb
          have c4 : sb + zb ≤ (n0' : Int) := c4
          have c5 : db + zb ≤ (n1' : Int) := c5
          obtain ⟨H, hwr⟩ := wAll_ok H
          obtain ⟨m2, H, hm2⟩ := mdrop_ok H
          have hk : rs[e1 / 65536]? = some (l1, .inl (n1', 1, [(lo1, hi1)])) := by unfold kspec at hq1; rw [lget_eq] at hq1; exact hq1
          have ng : ∀ {x : Int32}, 0 ≤ x.toInt → ¬ x < 0 := fun h q => by
            rw [Int32.lt_iff_toInt_lt] at q
            have : (0 : Int32).toInt = 0 := by decide
            omega
          have tn : ∀ x : Int32, x.toNatClampNeg = x.toInt.toNat := fun _ => rfl
          refine Or.inl ⟨h7, copy_mk (k := fun st h => (st.map Value.category).sum ≤ 8 ∧ K (pc + 3) lv' st h c s) a2 b2 (ng (by omega)) (ng (by omega)) (ng (by omega)) (by rw [tn, tn]; omega) (by rw [tn, tn]; omega) ⟨by rw [gcats_ok hr]; exact c8, ?_⟩⟩
          refine hgo _ _ _ _ _ _ _ H _ _ _ _ hag hn0 he hlv hr ?_ (hh.set hdj hk b1 ⟨_, rfl, fun j hj => ?_⟩ (fun f hf => absurd (wIn_all hwr f) hf))
          · intro f2 hf2
            obtain ⟨k1, k2⟩ := hm2 f2 hf2
            obtain ⟨B, j2, w3, m1, m3, m4, m5, m6⟩ := hm f2 k1
            refine ⟨B, j2, w3, m1, m3, m4, ?_, m6⟩
            have hAB : ¬ A1 = B := fun q => by
              subst q
              obtain ⟨q2, i2, e1', e2', -⟩ := m1.get
              obtain ⟨e3', -⟩ := hdj _ _ _ _ _ _ _ e1' e2' hk b1
              exact absurd (k2 e3').2.1 (by decide)
            rcases m5 with ⟨z2, g4, q1, q2⟩ | ⟨ci, gs, q1, q2⟩
            · exact Or.inl ⟨_, _, by rw [List.getElem?_set_ne hAB]; exact q1, q2⟩
            · exact Or.inr ⟨_, _, by rw [List.getElem?_set_ne hAB]; exact q1, q2⟩
          · unfold va_cpy
            split
            · rename_i hin
              have := one_r.mp (a3 (sv.toNatClampNeg + (j - dv.toNatClampNeg)) (by rw [tn, tn] at hin; rw [tn, tn]; omega))
              exact one_r.mpr (by omega)
            · exact b3 j hj
        · cases H
      · cases H
    · cases H
  · cases H
set_option maxHeartbeats 1000000 in
theorem mkG_ok (hdj : DJ rs) (te : TE) : PG n0 θ0 h0 C S M hd rs wr Q K (mkG te) te := by
  obtain ⟨pc, ins, ta, tb⟩ := te
  have kk : ∀ (x : Int32) θ k, vG rs θ k (.inl x.toInt) (.int x) := fun x _ _ => ⟨x, rfl, rfl⟩
  unfold mkG
  dsimp only
  split
  · exact po_push (kk _) (fun _ _ _ _ _ q => q)
  · exact po_push (kk _) (fun _ _ _ _ _ q => q)
  · exact po_push (kk _) (fun _ _ _ _ _ q => q)
  · rename_i n
    exact po_push (w := .long (Int64.ofNat n)) (fun _ _ => ⟨_, rfl⟩) (fun _ _ _ _ _ q => q)
  · split
    · rename_i q hq
      split
      · rename_i h0
        exact po_push (kk q.2.2) (fun _ _ _ _ _ w => ⟨q, hq, h0, w⟩)
      · exact po_no
    · exact po_no
  · split
    · rename_i q hq
      split
      · rename_i h0
        exact po_push (kk q.2.2) (fun _ _ _ _ _ w => ⟨q, hq, h0, w⟩)
      · exact po_no
    · exact po_no
  · exact po_iload (fun _ _ _ _ _ q => q)
  · exact po_iload (fun _ _ _ _ _ q => q)
  · exact po_lload
  · exact po_aload (fun _ _ _ _ _ q => q)
  · exact po_aload (fun _ _ _ _ _ q => q)
  · exact po_istore (fun _ _ _ _ _ q => q)
  · exact po_istore (fun _ _ _ _ _ q => q)
  · exact po_lstore
  · exact po_astore (fun _ _ _ _ _ q => q)
  · exact po_astore (fun _ _ _ _ _ q => q)
  · split
    · rename_i hz; exact po_iinc hz
    · exact po_no
  · exact po_bin (op := (· + ·)) (P := fun _ => True) (fun a b d e => tr5 (op := (· + ·)) (gAdd_ok a b d e)) (fun _ _ _ _ _ _ _ _ q => q)
  · exact po_bin (op := (· - ·)) (P := fun _ => True) (fun a b d e => tr5 (op := (· - ·)) (gSub_ok a b d e)) (fun _ _ _ _ _ _ _ _ q => q)
  · exact po_bin (op := (· * ·)) (P := fun _ => True) (fun a b d e => tr5 (op := (· * ·)) (gMul_ok a b d e)) (fun _ _ _ _ _ _ _ _ q => q)
  · exact po_bin (op := (· / ·)) (P := fun y => ¬ y = 0) (fun a b d e => gDiv_ok a b d e) (fun _ _ _ _ _ _ _ p q => ⟨p, q⟩)
  · exact po_bin (op := fun x y => x - x / y * y) (P := fun y => ¬ y = 0) (fun a b d e => gRem_ok a b d e) (fun _ _ _ _ _ _ _ p q => ⟨p, q⟩)
  · exact po_neg
  · exact po_bin (op := fun x y => x <<< (y &&& 31)) (P := fun _ => True) (fun a b d e => tr5 (op := fun x y => x <<< (y &&& 31)) (gAny_ok a b d e)) (fun _ _ _ _ _ _ _ _ q => q)
  · exact po_bin (op := fun x y => x >>> (y &&& 31)) (P := fun _ => True) (fun a b d e => tr5 (op := fun x y => x >>> (y &&& 31)) (gAny_ok a b d e)) (fun _ _ _ _ _ _ _ _ q => q)
  · exact po_bin (op := fun x y => (x.toUInt32 >>> (y.toUInt32 &&& Int32.toUInt32 31)).toInt32) (P := fun _ => True) (fun a b d e => tr5 (op := fun x y => (x.toUInt32 >>> (y.toUInt32 &&& Int32.toUInt32 31)).toInt32) (gAny_ok a b d e)) (fun _ _ _ _ _ _ _ _ q => q)
  · exact po_bin (op := (· &&& ·)) (P := fun _ => True) (fun a b d e => tr5 (op := (· &&& ·)) (gAny_ok a b d e)) (fun _ _ _ _ _ _ _ _ q => q)
  · exact po_bin (op := (· ||| ·)) (P := fun _ => True) (fun a b d e => tr5 (op := (· ||| ·)) (gAny_ok a b d e)) (fun _ _ _ _ _ _ _ _ q => q)
  · exact po_bin (op := (· ^^^ ·)) (P := fun _ => True) (fun a b d e => tr5 (op := (· ^^^ ·)) (gAny_ok a b d e)) (fun _ _ _ _ _ _ _ _ q => q)
  · exact po_i2l
  · exact po_lcmp
  · exact po_lshl
  · exact po_lbin (fun _ _ _ _ _ _ _ q => q _)
  · exact po_lbin (fun _ _ _ _ _ _ _ q => q _)
  · exact po_dup
  · exact po_dup2
  · exact po_pop
  · unfold jG
    split
    · rename_i h0; exact po_goto h0
    · exact po_no
  · unfold jG
    split
    · rename_i h0; exact po_if h0
    · exact po_no
  · unfold jG
    split
    · rename_i h0; exact po_icmp h0
    · exact po_no
  · split
    · rename_i h1
      unfold jG
      split
      · rename_i h0; exact po_sw h1.1 h1.2 h0
      · exact po_no
    · exact po_no
  · exact po_iald
  · exact po_iast hdj
  · exact po_last hdj
  · exact po_aald
  · exact po_alen
  · split
    · rename_i hf; exact po_get hdj hf
    · exact po_no
  · split
    · rename_i hf
      split
      · rename_i hty; exact po_puti hdj hf hty
      · rename_i hty; exact po_putb hdj hf hty
      · exact po_no
    · exact po_no
  · split
    · rename_i h1
      split
      · rename_i x hx; exact po_throw h1 hx
      · exact po_no
    · exact po_no
  · intro env lv st m c s go call ret θ lv' st' h' hag hn0 he hlv hst hm hh hgo hcall hret H
    exact hcall _ _ H
  · split
    · rename_i h7; exact po_copy hdj h7
    · rename_i h7
      intro env lv st m c s go call ret θ lv' st' h' hag hn0 he hlv hst hm hh hgo hcall hret H
      exact Or.inr ⟨h7, hcall _ _ H⟩
  · exact po_iret
  · exact po_lret
  · exact po_aret
  · exact po_ret
  · exact po_no
end GOPH
/-! the careful evaluator: what holds at a place, and how a state is seen to keep it -/
/-- number of symbols and their ranges (newest first); locals; facts; where each symbol is found (newest first): 0 a local, 1 a local's place in its region, 2 a cell's field; measure: a number, and a factor for symbols -/
abbrev GA : Type := EW × LW × MW × List (Nat × Nat × Nat) × (Int × List (Nat × Int))
noncomputable def sget (n : Nat) (σ : LW) (t : Nat) : Option AV := match Nat.blt t n with
  | true => lget σ (Nat.sub (Nat.sub n 1) t)
  | false => none
noncomputable def sg1 (lv : LW) (m : MW) (x : Nat × Nat × Nat) (k : AV → Bool) : Bool := match x.1 with
  | 0 => (match lget lv x.2.1 with
    | some v => (match isNum v with
      | true => k v
      | false => false)
    | none => false)
  | 1 => (match lget lv x.2.1 with
    | some (.inr (.inr (.retAddr e))) => natF (Nat.mod e 65536) fun u => k (aY u 1 0)
    | _ => false)
  | _ => mfind m x.2.1 (.inl (.ofNat x.2.2)) (fun v => match isNum v with
      | true => k v
      | false => false) false
noncomputable def sgS (env : EW) (lv : LW) (m : MW) (l : List (Nat × Nat × Nat)) : List (Int × Int) → (LW → Bool) → Bool := List.rec (fun R k => match R with
    | [] => k []
    | _ => false) (fun x _ ih R k => match R with
    | r :: R => sg1 lv m x fun v => gSub2 env v r.1 r.2 (ih R fun σ => k (v :: σ))
    | [] => false) l
noncomputable def sgk (n : Nat) (σ : LW) (e : Nat) (k : Nat → Bool) : Bool := match Nat.beq (Nat.mod e 65536) 65535 with
  | true => k e
  | false => (match sget n σ (Nat.mod e 65536) with
    | some (.inr (.inl (u + 1, 1, 0))) => natF (Nat.div e 65536 * 65536 + u) k
    | _ => false)
noncomputable def sgv (env : EW) (n : Nat) (σ : LW) (a v : AV) : Bool := match a with
  | .inl x => gSub2 env v x x true
  | .inr (.inl (t + 1, 1, 0)) => (match sget n σ t with
    | some u => aEq u v
    | none => false)
  | .inr (.inr .null) => true
  | .inr (.inr (.double _)) => isL v
  | .inr (.inr (.retAddr e)) => (match v with
    | .inr (.inr (.retAddr e2)) => sgk n σ e fun e3 => Nat.beq e3 e2
    | _ => false)
  | _ => false
noncomputable def sgl (env : EW) (n : Nat) (σ : LW) (ls : LW) : LW → Bool := List.rec (fun _ => true) (fun a _ ih cur => match cur with
    | v :: r => (match sgv env n σ a v with
      | true => ih r
      | false => false)
    | [] => (match sgv env n σ a aU with
      | true => ih []
      | false => false)) ls
noncomputable def sgm (env : EW) (n : Nat) (σ : LW) (m fs : MW) : Bool := List.rec true (fun f _ ih => match f.2.1 with
    | .inl x => sgk n σ f.1 fun e => mfind m e (.inl x) (fun v => match isNum f.2.2 && sgv env n σ f.2.2 v with
      | true => ih
      | false => false) false
    | _ => false) fs
noncomputable def sgA (A : GA) (env : EW) (lv : LW) (m : MW) (k : LW → Bool) : Bool := match Nat.ble env.1 65535 && Nat.beq A.1.2.length A.1.1 with
  | true => sgS env lv m A.2.2.2.1 A.1.2 fun σ => (match sgl env A.1.1 σ A.2.1 lv && sgm env A.1.1 σ m A.2.2.1 with
    | true => k σ
    | false => false)
  | false => false
/-! sums -/
def lval (θ : Nat → Int32) : List (Nat × Int) → Int
  | [] => 0
  | x :: l => x.2 * (θ x.1).toInt + lval θ l
noncomputable def ladd (u : Nat) (c : Int) (l : List (Nat × Int)) : (List (Nat × Int) → Bool) → Bool := List.rec (fun k => k [(u, c)]) (fun x r ih k => match Nat.beq x.1 u with
    | true => iF (x.2 + c) fun z => k ((x.1, z) :: r)
    | false => ih fun r2 => k (x :: r2)) l
noncomputable def lmin (env : EW) (l : List (Nat × Int)) : Int → (Int → Bool) → Bool := List.rec (fun z k => k z) (fun x _ ih z k => gK env (aY x.1 x.2 0) fun lo _ => iF (z + lo) fun z => ih z k) l
noncomputable def msub (n : Nat) (σ : LW) (bs : List (Nat × Int)) : Int → List (Nat × Int) → (Int → List (Nat × Int) → Bool) → Bool := List.rec (fun z l k => k z l) (fun x _ ih z l k => match sget n σ x.1 with
    | some (.inl y) => iF (z - x.2 * y) fun z => ih z l k
    | some (.inr (.inl (u + 1, a, b))) => iF (z - x.2 * b) fun z => iF (0 - x.2 * a) fun d => ladd u d l fun l => ih z l k
    | _ => false) bs
/-- a state keeps B; k is told what ma is above B's measure, at least -/
noncomputable def sgB (ma : Int × List (Nat × Int)) (B : GA) (env : EW) (lv : LW) (m : MW) (k : Int → Bool) : Bool := sgA B env lv m fun σ => iF (ma.1 - B.2.2.2.2.1) fun z => msub B.1.1 σ B.2.2.2.2.2 z ma.2 fun z l => lmin env l z k
/-- the measure -/
def gms (A : GA) (θ : Nat → Int32) : Int := A.2.2.2.2.1 + lval θ A.2.2.2.2.2
section GHEAD
variable {rs : RS} {θ θ0 : Nat → Int32} {env : EW} {n : Nat} {σ : LW}
def SGM (rs : RS) (θ : Nat → Int32) (k : Nat) (θ0 : Nat → Int32) (n : Nat) (σ : LW) : Prop := ∀ t v, sget n σ t = some v → t < n ∧ vG rs θ k v (.int (θ0 t))
theorem lG.look {lv : LW} {lv' : LV} (h : lG rs θ n lv lv') {i : Nat} {v : AV} (hv : lv[i]? = some v) (hn : isNum v = true) : ∃ y : Int32, px_g lv' i = some (.int y) ∧ vG rs θ n v (.int y) := by
  rcases (h i v hv).2 with rfl | ⟨w, h1, h2⟩
  · cases hn
  · obtain ⟨y, rfl⟩ := gnum hn h2
    exact ⟨y, h1, h2⟩
theorem sg1_ok {lv : LW} {lv' : LV} {m : MW} {h : PH} (hlv : lG rs θ env.1 lv lv') (hm : mG rs θ env.1 m h) {x : Nat × Nat × Nat} {k : AV → Bool} (H : sg1 lv m x k = true) : ∃ v, k v = true ∧ ((∃ y : Int32, vG rs θ env.1 v (.int y)) ∨ ∃ u, v = aY u 1 0) := by
  unfold sg1 at H
  split at H
  · split at H
    · rename_i v hv
      rw [lget_eq] at hv
      split at H
      · rename_i hn
        obtain ⟨y, -, q⟩ := hlv.look hv hn
        exact ⟨v, H, Or.inl ⟨y, q⟩⟩
      · cases H
    · cases H
  · split at H
    · exact ⟨_, natF_ok H, Or.inr ⟨_, rfl⟩⟩
    · cases H
  · rcases mfind_ok H with q | ⟨f, hf, -, -, q⟩
    · cases q
    · split at q
      · rename_i hn
        obtain ⟨A, j, w, -, -, -, -, g⟩ := hm f hf
        obtain ⟨y, rfl⟩ := gnum hn g
        exact ⟨_, q, Or.inl ⟨y, g⟩⟩
      · cases q
theorem gSub2_Y {u : Nat} {lo hi : Int} {k : Bool} (he : eG θ env) (h : gSub2 env (aY u 1 0) lo hi k = true) : vG rs θ env.1 (aY u 1 0) (.int (θ u)) := by
  unfold gSub2 at h
  obtain ⟨h1, -⟩ := gKY he h
  exact ⟨h1, _, rfl, by omega⟩
theorem sgS_ok {lv : LW} {lv' : LV} {m : MW} {h : PH} (he : eG θ env) (hlv : lG rs θ env.1 lv lv') (hm : mG rs θ env.1 m h) : ∀ {l : List (Nat × Nat × Nat)} {R : List (Int × Int)} {k : LW → Bool}, sgS env lv m l R k = true → ∃ σ ys, k σ = true ∧ A2 (fun (v : AV) (y : Int32) => vG rs θ env.1 v (.int y)) σ ys ∧ A2 (fun (r : Int × Int) (y : Int32) => r.1 ≤ y.toInt ∧ y.toInt ≤ r.2) R ys
  | [], [], k, H => ⟨[], [], H, rfl, rfl⟩
  | [], r :: R, k, H => by cases (show false = true from H)
  | x :: l, [], k, H => by cases (show false = true from H)
  | x :: l, r :: R, k, H => by
    have H : sg1 lv m x (fun v => gSub2 env v r.1 r.2 (sgS env lv m l R fun σ => k (v :: σ))) = true := H
    obtain ⟨v, H, hv⟩ := sg1_ok hlv hm H
    have hv2 : ∃ y : Int32, vG rs θ env.1 v (.int y) := by
      rcases hv with q | ⟨u, rfl⟩
      · exact q
      · exact ⟨_, gSub2_Y he H⟩
    obtain ⟨y, hy⟩ := hv2
    obtain ⟨H, y2, e, h1, h2⟩ := gSub2_ok he hy H
    cases e
    obtain ⟨σ, ys, g1, g2, g3⟩ := sgS_ok he hlv hm H
    exact ⟨v :: σ, y :: ys, g1, ⟨y, ys, rfl, hy, g2⟩, ⟨y, ys, rfl, ⟨h1, h2⟩, g3⟩⟩
theorem sgk_ok (hb : env.1 ≤ 65535) (hs : SGM rs θ env.1 θ0 n σ) {e : Nat} {k : Nat → Bool} (H : sgk n σ e k = true) : ∃ e2, k e2 = true ∧ ∀ A, adR rs θ env.1 e2 A → adR rs θ0 n e A := by
  unfold sgk at H
  split at H
  · rename_i q
    have q : e % 65536 = 65535 := beq_iff.mp q
    refine ⟨e, H, fun A ⟨p, h1, h2⟩ => ⟨p, h1, h2.imp id (fun w => ?_)⟩⟩
    exfalso
    have := w.2.1
    omega
  · split at H
    · rename_i u hu
      obtain ⟨h1, h2, y, h3, h4⟩ := hs _ _ hu
      have h3 : y = θ0 (e % 65536) := by cases h3; rfl
      subst h3
      have e1 : (e / 65536 * 65536 + u) / 65536 = e / 65536 := by omega
      have e2 : (e / 65536 * 65536 + u) % 65536 = u := by omega
      refine ⟨_, natF_ok H, fun A ⟨p, g1, g2⟩ => ?_⟩
      rw [show Nat.div e 65536 = e / 65536 from rfl, e1] at g1
      rw [show Nat.div e 65536 = e / 65536 from rfl, e2] at g2
      have h5 : (θ0 (e % 65536)).toInt = (θ u).toInt := by omega
      refine ⟨p, g1, g2.imp id (fun w => ⟨w.1, h1, ?_, ?_⟩)⟩
      · rw [h5]; exact w.2.2.1
      · rw [h5]; exact w.2.2.2
    · cases H
theorem sgv_ok (he : eG θ env) (hb : env.1 ≤ 65535) (hs : SGM rs θ env.1 θ0 n σ) {a v : AV} {w : Value} (hv : vG rs θ env.1 v w) (H : sgv env n σ a v = true) : a = aU ∨ vG rs θ0 n a w := by
  unfold sgv at H
  split at H
  · rename_i x
    obtain ⟨-, y, rfl, h1, h2⟩ := gSub2_ok he hv H
    exact Or.inr ⟨y, rfl, by omega⟩
  · rename_i t
    split at H
    · rename_i u hu
      obtain ⟨h1, h2⟩ := hs _ _ hu
      have := aEq_one H h2 hv
      subst this
      exact Or.inr ⟨h1, _, rfl, by omega⟩
    · cases H
  · exact Or.inl rfl
  · unfold isL at H
    split at H
    · exact Or.inr hv
    · cases H
  · split at H
    · rename_i e2
      obtain ⟨A, h1, rfl⟩ := hv
      obtain ⟨e3, h2, h3⟩ := sgk_ok hb hs H
      rw [beq_iff] at h2
      subst h2
      exact Or.inr ⟨A, h3 A h1, rfl⟩
    · cases H
  · cases H
theorem sgv_plain {a v : AV} (H : sgv env n σ a v = true) : plain1 a = true := by
  unfold sgv at H
  split at H <;> first | rfl | cases H
theorem sgv_null {a : AV} (H : sgv env n σ a aU = true) : a = aU := by
  unfold sgv at H
  split at H
  · cases (show false = true from H)
  · split at H
    · rename_i u hu
      exfalso
      rcases u with x | ⟨t, a, b⟩ | u <;> cases (show false = true from H)
    · cases H
  · rfl
  · cases (show false = true from H)
  · cases (show false = true from H)
  · cases H
theorem sgl_at : ∀ {ls cur : LW} {i : Nat} {a : AV}, sgl env n σ ls cur = true → ls[i]? = some a → sgv env n σ a (cur[i]?.getD aU) = true
  | [], cur, i, a, _, h => by simp at h
  | b :: ls, [], i, a, H, h => by
    have H : (match sgv env n σ b aU with | true => sgl env n σ ls [] | false => false) = true := H
    split at H
    · rename_i q
      cases i with
      | zero => simp at h; subst h; simpa using q
      | succ i =>
        have := sgl_at (i := i) H (by simpa using h)
        simpa using this
    · cases H
  | b :: ls, v :: r, i, a, H, h => by
    have H : (match sgv env n σ b v with | true => sgl env n σ ls r | false => false) = true := H
    split at H
    · rename_i q
      cases i with
      | zero => simp at h; subst h; simpa using q
      | succ i =>
        have := sgl_at (i := i) H (by simpa using h)
        simpa using this
    · cases H
theorem sgl_ok (he : eG θ env) (hb : env.1 ≤ 65535) (hs : SGM rs θ env.1 θ0 n σ) {ls cur : LW} {lv' : LV} (hlv : lG rs θ env.1 cur lv') (H : sgl env n σ ls cur = true) : lG rs θ0 n ls lv' := by
  intro i a ha
  have h1 := sgl_at H ha
  refine ⟨sgv_plain h1, ?_⟩
  cases hc : cur[i]? with
  | none => rw [hc] at h1; exact Or.inl (sgv_null h1)
  | some v =>
    rw [hc] at h1
    have h1 : sgv env n σ a v = true := h1
    rcases (hlv i v hc).2 with rfl | ⟨w, g1, g2⟩
    · exact Or.inl (sgv_null h1)
    · exact (sgv_ok he hb hs g2 h1).imp id (fun q => ⟨w, g1, q⟩)
theorem sgm_ok (he : eG θ env) (hb : env.1 ≤ 65535) (hs : SGM rs θ env.1 θ0 n σ) {m : MW} {h : PH} (hm : mG rs θ env.1 m h) : ∀ {fs : MW}, sgm env n σ m fs = true → mG rs θ0 n fs h
  | [], _ => fun f hf => by cases hf
  | g :: fs, H => by
    have H : (match g.2.1 with | .inl x => sgk n σ g.1 fun e => mfind m e (.inl x) (fun v => match isNum g.2.2 && sgv env n σ g.2.2 v with | true => sgm env n σ m fs | false => false) false | _ => false) = true := H
    split at H
    · rename_i x hx
      obtain ⟨e, H, hk⟩ := sgk_ok hb hs H
      rcases mfind_ok H with q | ⟨f, hf, e1, e2, q⟩
      · cases q
      · split at q
        · rename_i q2
          rw [Bool.and_eq_true] at q2
          obtain ⟨A, j, w, g1, g2, g3, g4, g5⟩ := hm f hf
          rw [e1] at g1
          rw [aEq_ok e2] at g2
          intro f2 hf2
          rcases List.mem_cons.mp hf2 with rfl | hf2
          · refine ⟨A, j, w, hk A g1, by rw [hx]; exact g2, g3, g4, ?_⟩
            rcases sgv_ok he hb hs g5 q2.2 with q3 | q3
            · rw [q3] at q2; cases q2.1
            · exact q3
          · exact sgm_ok he hb hs hm q f2 hf2
        · cases q
    · cases H
theorem sgA_ok {A : GA} {lv : LW} {lv' : LV} {m : MW} {h : PH} {k : LW → Bool} (he : eG θ env) (hlv : lG rs θ env.1 lv lv') (hm : mG rs θ env.1 m h) (H : sgA A env lv m k = true) : ∃ σ θ0, k σ = true ∧ SGM rs θ env.1 θ0 A.1.1 σ ∧ eG θ0 A.1 ∧ lG rs θ0 A.1.1 A.2.1 lv' ∧ mG rs θ0 A.1.1 A.2.2.1 h := by
  unfold sgA at H
  split at H
  · rename_i q
    rw [Bool.and_eq_true, Nat.ble_eq, beq_iff] at q
    obtain ⟨σ, ys, H, g1, g2⟩ := sgS_ok he hlv hm H
    have l1 : ys.length = A.1.1 := by rw [g2.len]; exact q.2
    have hs : SGM rs θ env.1 (fun t => (ys[A.1.1 - 1 - t]?).getD 0) A.1.1 σ := by
      intro t v hv
      unfold sget at hv
      split at hv
      · rename_i ht
        rw [blt_iff] at ht
        rw [lget_eq] at hv
        obtain ⟨y, h1, h2⟩ := g1.get hv
        refine ⟨ht, ?_⟩
        have h1 : ys[A.1.1 - 1 - t]? = some y := h1
        show vG rs θ env.1 v (.int ((ys[A.1.1 - 1 - t]?).getD 0))
        rw [h1]
        exact h2
      · cases hv
    split at H
    · rename_i q2
      rw [Bool.and_eq_true] at q2
      refine ⟨σ, _, H, hs, ⟨q.2, ?_⟩, sgl_ok he q.1 hs hlv q2.1, sgm_ok he q.1 hs hm q2.2⟩
      intro i r hr
      obtain ⟨y, h1, h2⟩ := g2.get hr
      have hi : i < ys.length := (List.getElem?_eq_some_iff.mp h1).1
      have e : A.1.1 - 1 - (A.1.1 - 1 - i) = i := by omega
      simp only [e, h1]
      exact h2
    · cases H
  · cases H
theorem ladd_ok {u : Nat} {c : Int} : ∀ {l : List (Nat × Int)} {k : List (Nat × Int) → Bool}, ladd u c l k = true → ∃ l2, k l2 = true ∧ lval θ l2 = lval θ l + c * (θ u).toInt
  | [], k, h => ⟨[(u, c)], h, by simp [lval]⟩
  | x :: l, k, h => by
    have h : (match Nat.beq x.1 u with | true => iF (x.2 + c) fun z => k ((x.1, z) :: l) | false => ladd u c l fun r2 => k (x :: r2)) = true := h
    split at h
    · rename_i q
      rw [beq_iff] at q
      refine ⟨_, iF_ok h, ?_⟩
      simp only [lval]
      rw [q, Int.add_mul]
      omega
    · obtain ⟨l2, g1, g2⟩ := ladd_ok h
      exact ⟨_, g1, by simp only [lval]; omega⟩
theorem lmin_ok (he : eG θ env) : ∀ {l : List (Nat × Int)} {z : Int} {k : Int → Bool}, lmin env l z k = true → (∀ x ∈ l, x.1 < env.1) ∧ ∃ y, y ≤ z + lval θ l ∧ k y = true
  | [], z, k, h => ⟨fun x hx => (by cases hx), z, (by simp [lval]), h⟩
  | x :: l, z, k, h => by
    have h : (gK env (aY x.1 x.2 0) fun lo _ => iF (z + lo) fun z => lmin env l z k) = true := h
    obtain ⟨h1, lo, hi, h2, -, h⟩ := gKY he h
    obtain ⟨g1, y, g2, g3⟩ := lmin_ok he (iF_ok h)
    refine ⟨fun x2 hx => ?_, y, by simp only [lval]; omega, g3⟩
    rcases List.mem_cons.mp hx with rfl | hx
    · exact h1
    · exact g1 x2 hx
theorem msub_ok {k0 : Nat} (hs : SGM rs θ k0 θ0 n σ) : ∀ {bs l : List (Nat × Int)} {z : Int} {k : Int → List (Nat × Int) → Bool}, msub n σ bs z l k = true → ∃ z2 l2, k z2 l2 = true ∧ z2 + lval θ l2 = z + lval θ l - lval θ0 bs
  | [], l, z, k, h => ⟨z, l, h, by simp [lval]⟩
  | x :: bs, l, z, k, h => by
    have h : (match sget n σ x.1 with | some (.inl y) => iF (z - x.2 * y) fun z => msub n σ bs z l k | some (.inr (.inl (u + 1, a, b))) => iF (z - x.2 * b) fun z => iF (0 - x.2 * a) fun d => ladd u d l fun l => msub n σ bs z l k | _ => false) = true := h
    split at h
    · rename_i y hy
      obtain ⟨-, w, e1, e2⟩ := hs _ _ hy
      cases e1
      obtain ⟨z2, l2, g1, g2⟩ := msub_ok hs (iF_ok h)
      exact ⟨z2, l2, g1, by simp only [lval]; rw [e2]; omega⟩
    · rename_i u a b hy
      obtain ⟨-, -, w, e1, e2⟩ := hs _ _ hy
      cases e1
      obtain ⟨l3, h3, h4⟩ := ladd_ok (θ := θ) (iF_ok (iF_ok h))
      obtain ⟨z2, l2, g1, g2⟩ := msub_ok hs h3
      refine ⟨z2, l2, g1, ?_⟩
      simp only [lval]
      rw [e2, Int.mul_add, ← Int.mul_assoc]
      rw [Int.sub_mul, Int.zero_mul] at h4
      omega
    · cases h
theorem lval_ag {θ2 : Nat → Int32} : ∀ {l : List (Nat × Int)}, (∀ x ∈ l, θ x.1 = θ2 x.1) → lval θ l = lval θ2 l
  | [], _ => rfl
  | x :: l, h => by simp only [lval]; rw [h x List.mem_cons_self, lval_ag (fun y hy => h y (List.mem_cons_of_mem _ hy))]
theorem sgB_ok {ma : Int × List (Nat × Int)} {B : GA} {lv : LW} {lv' : LV} {m : MW} {h : PH} {k : Int → Bool} (he : eG θ env) (hlv : lG rs θ env.1 lv lv') (hm : mG rs θ env.1 m h) (H : sgB ma B env lv m k = true) : ∃ θ0 y, eG θ0 B.1 ∧ lG rs θ0 B.1.1 B.2.1 lv' ∧ mG rs θ0 B.1.1 B.2.2.1 h ∧ y ≤ ma.1 + lval θ ma.2 - gms B θ0 ∧ k y = true := by
  unfold sgB at H
  obtain ⟨σ, θ0, H, hs, h1, h2, h3⟩ := sgA_ok he hlv hm H
  obtain ⟨z, l, H, g1⟩ := msub_ok hs (iF_ok H)
  obtain ⟨-, y, g2, g3⟩ := lmin_ok he H
  exact ⟨θ0, y, h1, h2, h3, by unfold gms; omega, g3⟩
end GHEAD
/-! the careful evaluator: calls, by what methods keep -/
/-- what a method keeps: its row; what holds at its start; what comes back: kind (0 nothing, 1 a number in a range, 2 a reference into a region, 3 a long) and two numbers; what it throws; what it may write; what holds when it comes back: key of an only cell, field, range -/
abbrev GC : Type := PM × GA × (Nat × Int × Int) × List Nat × WL × List (Nat × Nat × Int × Int)
def RxOK (rs : RS) (x : Nat × Int × Int) (v : Option Value) : Prop := match x.1 with
  | 0 => v = none
  | 1 => ∃ y : Int32, v = some (.int y) ∧ x.2.1 ≤ y.toInt ∧ y.toInt ≤ x.2.2
  | 2 => ∃ (q : List Nat × CS) (i A : Nat), rs[x.2.1.toNat]? = some q ∧ q.1[i]? = some A ∧ v = some (.ref A)
  | _ => ∃ y, v = some (.long y)
def PoOK (rs : RS) (l : List (Nat × Nat × Int × Int)) (h : PH) : Prop := ∀ x ∈ l, ∃ (q : List Nat × CS) (A : Nat) (y : Int32), rs[x.1 / 65536]? = some q ∧ isOne q.1 = true ∧ q.1[0]? = some A ∧ x.2.1 < 65536 ∧ cellAt h A x.2.1 (.int y) ∧ x.2.2.1 ≤ y.toInt ∧ y.toInt ≤ x.2.2.2
def CQ (rs : RS) (G : GC) (h : PH) : Rs → PH → Prop := fun r h2 => HW rs G.2.2.2.2.1 h h2 ∧ match r with
  | .inl v => RxOK rs G.2.2.1 v ∧ PoOK rs G.2.2.2.2.2 h2
  | .inr e => e ∈ G.2.2.2.1
/-- Iv: what is so of the heap whenever the method is called -/
def CtOK (Iv : PH → Prop) (rs : RS) (C : Nat → List Value → PH → (Rs → PH → Prop) → Prop) (μ : Nat) (G : GC) : Prop := MT[μ]? = some G.1 ∧ ∀ (θ : Nat → Int32) (args : List Value) (h : PH), eG θ G.2.1.1 → lG rs θ G.2.1.1.1 G.2.1.2.1 (lv_args 0 args) → (args.map Value.category).sum = pN G.1 → mG rs θ G.2.1.1.1 G.2.1.2.2.1 h → HOK rs h → Iv h → C μ args h (CQ rs G h)
noncomputable def gRecv (rs : RS) (virt : Bool) (o : Nat) (args : LW) : Bool := match virt with
  | false => true
  | true => (match args with
    | .inr (.inr (.retAddr e)) :: _ => (match kspec rs e with
      | some (_, .inr (.inr (.inr (cj, _)))) => Nat.beq cj o
      | _ => false)
    | _ => false)
def wKeep (wr : WL) (f : Nat × AV × AV) : Bool := wr.all fun x => !(Nat.beq x.1 (Nat.div f.1 65536)) || (!(Nat.beq x.2 0) && (match f.2.1 with
  | .inl j => !(bEq (j + 1) (.ofNat x.2))
  | _ => false))
noncomputable def mkeep (wr : WL) (m : MW) : (MW → Bool) → Bool := List.rec (fun k => k []) (fun f _ ih k => match wKeep wr f with
  | true => ih fun m => k (f :: m)
  | false => ih k) m
def wLe (wr2 wr : WL) : Bool := wr2.all fun x => wr.any fun y => Nat.beq y.1 x.1 && (Nat.beq y.2 0 || Nat.beq y.2 x.2)
noncomputable def gPost (l : List (Nat × Nat × Int × Int)) : EW → MW → (EW → MW → Bool) → Bool := List.rec (fun env m k => k env m) (fun x _ ih env m k => frs env x.2.2.1 x.2.2.2 fun env v => ih env ((x.1, .inl (.ofNat x.2.1), v) :: m) k) l
noncomputable def gRes (rs : RS) (x : Nat × Int × Int) (env : EW) (rst : LW) (k : EW → LW → Bool) : Bool := match x.1 with
  | 0 => k env rst
  | 1 => frs env x.2.1 x.2.2 fun env v => k env (v :: rst)
  | 2 => (match lget rs x.2.1.toNat with
    | some q => (match isOne q.1 with
      | true => natF (x.2.1.toNat * 65536 + 65535) fun e => k env (aC e :: rst)
      | false => (match Nat.blt env.1 65535 && Nat.blt q.1.length 2147483648 with
        | true => frs env 0 (.ofNat q.1.length) fun env2 _ => natF (x.2.1.toNat * 65536 + env.1) fun e => k env2 (aC e :: rst)
        | false => false))
    | none => false)
  | _ => k env (.inr (.inr (.double 0)) :: rst)
noncomputable def gFit (X : GX) (G : GC) (env : EW) (st : LW) (m : MW) (c s : Nat) (virt : Bool) : Bool := tkr (pN G.1) st [] fun args rst => match (args.all plain1 && Nat.ble (cats rst) 8) && ((Nat.ble (c + pC G.1) (pC X.1) && Nat.ble (s + pS G.1) (pS X.1)) && (wLe G.2.2.2.2.1 X.2.2.2 && gRecv X.2.2.1 virt (pO G.1) args)) with
  | true => sgA G.2.1 env args m fun _ => true
  | false => false
noncomputable def gDo (X : GX) (G : GC) (ret : GR) (pc : Nat) (env : EW) (st : LW) (m : MW) (c s : Nat) (go : EW → LW → MW → Nat → Nat → Bool) : Bool := tkr (pN G.1) st [] fun _ rst => mkeep G.2.2.2.2.1 m fun m => match G.2.2.2.1.all fun e => ret env (wBack X.2.1 pc e) m with
  | true => natF (c + pC G.1) fun c1 => natF (s + pS G.1) fun s1 => gPost G.2.2.2.2.2 env m fun env m => gRes X.2.2.1 G.2.2.1 env rst fun env st => go env st m c1 s1
  | false => false
noncomputable def gCall (X : GX) (cs : List (Nat × GC)) (ret : GR) (pc : Nat) (env : EW) (st : LW) (m : MW) (c s μ : Nat) (virt : Bool) (go : EW → LW → MW → Nat → Nat → Bool) : Bool := List.rec false (fun G _ ih => match Nat.beq G.1 μ && gFit X G.2 env st m c s virt with
  | true => gDo X G.2 ret pc env st m c s go
  | false => ih) cs
section GCALL
variable {rs : RS} {θ : Nat → Int32} {env : EW} {n : Nat} {wr wr2 : WL} {h0 h h2 : PH}
theorem wLe_ok (H : wLe wr2 wr = true) {k f : Nat} (h : wIn wr2 k f) : wIn wr k f := by
  obtain ⟨x, hx, h1, h2⟩ := h
  unfold wLe at H
  rw [List.all_eq_true] at H
  have := H x hx
  rw [List.any_eq_true] at this
  obtain ⟨y, hy, q⟩ := this
  rw [Bool.and_eq_true, Bool.or_eq_true, beq_iff, beq_iff, beq_iff] at q
  exact ⟨y, hy, q.1.trans h1, by omega⟩
theorem HW.tr (H : wLe wr2 wr = true) (a : HW rs wr h0 h) (b : HW rs wr2 h h2) : HW rs wr h0 h2 :=
  ⟨b.1, fun k q i A h1 h2 f w hw hc => b.2 k q i A h1 h2 f w (fun p => hw (wLe_ok H p)) (a.2 k q i A h1 h2 f w hw hc)⟩
theorem wKeep_ok {f : Nat × AV × AV} {j : Int32} (H : wKeep wr f = true) (hv : vG rs θ n f.2.1 (.int j)) (hj : 0 ≤ j.toInt) : ¬ wIn wr (f.1 / 65536) j.toInt.toNat := by
  rintro ⟨x, hx, h1, h2⟩
  unfold wKeep at H
  rw [List.all_eq_true] at H
  have q := H x hx
  rw [Bool.or_eq_true, Bool.and_eq_true, Bool.not_eq_true', Bool.not_eq_true'] at q
  rcases q with q | ⟨q1, q2⟩
  · rw [show Nat.beq x.1 (Nat.div f.1 65536) = true from beq_iff.mpr h1] at q; cases q
  · split at q2
    · rename_i z hz
      rw [hz] at hv
      obtain ⟨y, e1, e2⟩ := hv
      cases e1
      rcases h2 with h2 | h2
      · rw [show Nat.beq x.2 0 = true from beq_iff.mpr h2] at q1; cases q1
      · rw [Bool.not_eq_true'] at q2
        have : bEq (z + 1) (.ofNat x.2) = true := by
          rw [bEq_iff]
          show z + 1 = (x.2 : Int)
          omega
        rw [this] at q2; cases q2
    · cases q2
theorem mkeep_ok : ∀ {m : MW} {k : MW → Bool}, mkeep wr m k = true → ∃ m2, k m2 = true ∧ ∀ f ∈ m2, f ∈ m ∧ wKeep wr f = true
  | [], k, H => ⟨[], H, fun f hf => by cases hf⟩
  | g :: m, k, H => by
    have H : (match wKeep wr g with | true => mkeep wr m fun m => k (g :: m) | false => mkeep wr m k) = true := H
    split at H
    · rename_i q
      obtain ⟨m2, g1, g2⟩ := mkeep_ok H
      refine ⟨_, g1, fun f hf => ?_⟩
      rcases List.mem_cons.mp hf with rfl | hf
      · exact ⟨List.mem_cons_self, q⟩
      · exact ⟨List.mem_cons_of_mem _ (g2 f hf).1, (g2 f hf).2⟩
    · obtain ⟨m2, g1, g2⟩ := mkeep_ok H
      exact ⟨m2, g1, fun f hf => ⟨List.mem_cons_of_mem _ (g2 f hf).1, (g2 f hf).2⟩⟩
theorem mG.kept {m m2 : MW} (H : mG rs θ n m h) (hm : ∀ f ∈ m2, f ∈ m ∧ wKeep wr f = true) (hw : wrR rs wr h h2) : mG rs θ n m2 h2 := by
  intro f hf
  obtain ⟨A, j, w, g1, g2, g3, g4, g5⟩ := H f (hm f hf).1
  obtain ⟨q, i, e1, e2, -⟩ := g1.get
  exact ⟨A, j, w, g1, g2, g3, hw _ q i A e1 e2 _ w (wKeep_ok (hm f hf).2 g2 g3) g4, g5⟩
theorem i32nat {f : Nat} (hf : f < 65536) : (Int32.ofNat f).toInt = (f : Int) := Int32.toInt_ofNat_of_lt (by omega)
theorem gPost_ok : ∀ {l : List (Nat × Nat × Int × Int)} {env : EW} {θ : Nat → Int32} {m : MW} {k : EW → MW → Bool}, eG θ env → mG rs θ env.1 m h → PoOK rs l h → gPost l env m k = true → ∃ env2 m2 θ2, k env2 m2 = true ∧ Ext θ env.1 θ2 env2.1 ∧ eG θ2 env2 ∧ mG rs θ2 env2.1 m2 h
  | [], env, θ, m, k, he, hm, _, H => ⟨env, m, θ, H, Ext.rf, he, hm⟩
  | x :: l, env, θ, m, k, he, hm, hp, H => by
    have H : (frs env x.2.2.1 x.2.2.2 fun env v => gPost l env ((x.1, .inl (.ofNat x.2.1), v) :: m) k) = true := H
    obtain ⟨q, A, y, p1, p2, p3, p4, p5, p6, p7⟩ := hp x List.mem_cons_self
    obtain ⟨env2, a, θ2, H, hx, he2, hv⟩ := frs_ok (rs := rs) he p6 p7 H
    have hm2 : mG rs θ2 env2.1 ((x.1, .inl (.ofNat x.2.1), a) :: m) h := by
      refine mG.cons (hm.ext hx) (A := A) (j := Int32.ofNat x.2.1) (w := .int y) ⟨q, p1, Or.inl ⟨p2, p3⟩⟩ ⟨_, rfl, i32nat p4⟩ (by rw [i32nat p4]; omega) ?_ hv
      rw [i32nat p4]
      exact p5
    obtain ⟨env3, m3, θ3, H, hx3, he3, hm3⟩ := gPost_ok he2 hm2 (fun x hx => hp x (List.mem_cons_of_mem _ hx)) H
    exact ⟨env3, m3, θ3, H, ⟨Nat.le_trans hx.1 hx3.1, fun t ht => (hx3.2 t (Nat.lt_of_lt_of_le ht hx.1)).trans (hx.2 t ht)⟩, he3, hm3⟩
theorem gRes_ok {x : Nat × Int × Int} {rst : LW} {rst' : List Value} {v : Option Value} {k : EW → LW → Bool} (he : eG θ env) (hr : A2 (vG rs θ env.1) rst rst') (hv : RxOK rs x v) (H : gRes rs x env rst k = true) : ∃ env2 st2 θ2, k env2 st2 = true ∧ Ext θ env.1 θ2 env2.1 ∧ eG θ2 env2 ∧ A2 (vG rs θ2 env2.1) st2 (v.toList ++ rst') := by
  unfold gRes at H
  unfold RxOK at hv
  split at H
  · rename_i e; rw [e] at hv
    have hv : v = none := hv
    subst hv
    exact ⟨env, rst, θ, H, Ext.rf, he, hr⟩
  · rename_i e; rw [e] at hv
    obtain ⟨y, rfl, h1, h2⟩ := hv
    obtain ⟨env2, a, θ2, H, hx, he2, hv⟩ := frs_ok (rs := rs) he h1 h2 H
    exact ⟨env2, _, θ2, H, hx, he2, ⟨_, _, rfl, hv, hr.gext hx⟩⟩
  · rename_i e; rw [e] at hv
    obtain ⟨q, i, A, h1, h2, rfl⟩ := hv
    rw [lget_eq, h1] at H
    simp only at H
    split at H
    · rename_i ho
      have hi : i = 0 := by
        unfold isOne at ho
        split at ho
        · rename_i z hz
          have := (List.getElem?_eq_some_iff.mp h2).1
          rw [hz] at this
          simp at this
          exact this
        · cases ho
      subst hi
      refine ⟨env, _, θ, natF_ok H, Ext.rf, he, ⟨_, _, rfl, ⟨A, ⟨q, ?_, Or.inl ⟨ho, h2⟩⟩, rfl⟩, hr⟩⟩
      rw [show (x.2.1.toNat * 65536 + 65535) / 65536 = x.2.1.toNat by omega]; exact h1
    · rename_i ho
      split at H
      · rename_i hb
        rw [Bool.and_eq_true, blt_iff, blt_iff] at hb
        have hil := (List.getElem?_eq_some_iff.mp h2).1
        have hti : (Int32.ofNat i).toInt = (i : Int) := Int32.toInt_ofNat_of_lt (by omega)
        have H := natF_ok (iF_ok (iF_ok H))
        have hx : Ext θ env.1 (th θ env.1 (Int32.ofNat i)) (env.1 + 1) := ⟨by omega, fun t ht => by unfold th; rw [if_neg (by omega)]⟩
        obtain ⟨env2, a, θ2, H2, hx2, he2, hv2⟩ := frs_ok (rs := rs) (k := fun e _ => decide (e = (env.1 + 1, (0, Int.ofNat q.1.length) :: env.2))) he (v := Int32.ofNat i) (lo := 0) (hi := Int.ofNat q.1.length) (by omega) (by show _ ≤ (q.1.length : Int); omega) (by unfold frs; cases hl : q.1.length <;> simp [iF, natF])
        have H2 := of_decide_eq_true H2
        subst H2
        refine ⟨_, _, th θ env.1 (Int32.ofNat i), natF_ok H, hx, ?_, ⟨_, _, rfl, ⟨A, ?_, rfl⟩, hr.gext hx⟩⟩
        · refine ⟨by simp [he.1], fun j r hj => ?_⟩
          cases j with
          | zero =>
            simp at hj
            subst hj
            have : (th θ env.1 (Int32.ofNat i) (env.1 + 1 - 1 - 0)) = Int32.ofNat i := by unfold th; rw [if_pos (by omega)]
            simp only
            rw [this, hti]
            exact ⟨by omega, by show _ ≤ (q.1.length : Int); omega⟩
          | succ j =>
            have hj : env.2[j]? = some r := by simpa using hj
            have hl := (List.getElem?_eq_some_iff.mp hj).1
            have := he.2 j r hj
            have e3 : th θ env.1 (Int32.ofNat i) (env.1 + 1 - 1 - (j + 1)) = θ (env.1 - 1 - j) := by
              have : env.2.length = env.1 := he.1
              unfold th; rw [if_neg (by omega)]; congr 1; omega
            simp only
            rw [e3]; exact this
        · have e1 : (x.2.1.toNat * 65536 + env.1) / 65536 = x.2.1.toNat := by omega
          have e2 : (x.2.1.toNat * 65536 + env.1) % 65536 = env.1 := by omega
          refine ⟨q, by rw [e1]; exact h1, Or.inr ⟨ho, by rw [e2]; simp, ?_, ?_⟩⟩
          · rw [e2]; unfold th; rw [if_pos rfl, hti]; omega
          · rw [e2]; unfold th; rw [if_pos rfl, hti]; simpa using h2
      · cases H
  · rename_i e1 e2 e3
    split at hv
    · rename_i e; exact absurd e e1
    · rename_i e; exact absurd e e2
    · rename_i e; exact absurd e e3
    · obtain ⟨y, rfl⟩ := hv
      exact ⟨env, _, θ, H, Ext.rf, he, ⟨_, _, rfl, ⟨y, rfl⟩, hr⟩⟩
theorem lG_args {l : LW} {l' : List Value} (h : A2 (vG rs θ n) l l') (hw : ∀ x ∈ l, w1 x = true) (hp : l.all plain1 = true) : lG rs θ n l (lv_args 0 l') := by
  have hc : ∀ v ∈ l', v.category = 1 := by
    intro v hv
    obtain ⟨i, hi⟩ := List.mem_iff_getElem?.mp hv
    have hl : i < l.length := by rw [← h.len]; exact (List.getElem?_eq_some_iff.mp hi).1
    obtain ⟨w, g1, g2⟩ := h.get (List.getElem?_eq_getElem hl)
    rw [g1] at hi
    cases hi
    exact g1_ok (hw _ (List.getElem_mem hl)) g2
  intro i v hv
  obtain ⟨w, h1, h2⟩ := h.get hv
  refine ⟨List.all_eq_true.mp hp v (List.mem_of_getElem? hv), Or.inr ⟨w, ?_, h2⟩⟩
  have := pg_args (k := 0) hc h1
  rwa [Nat.zero_add] at this
end GCALL
/-! the careful evaluator: the run, whole -/
theorem p_call.shift {C : Nat → List Value → PH → (Rs → PH → Prop) → Prop} (hC : Cmono C) {M : PM} {hd : List (Nat × Nat × Nat × Int)} {Q : Rs → PH → Prop} {K K' : Kt} {D E : Nat} (hK : ∀ pc lv st h c s, K pc lv st h (c + D) (s + E) → K' pc lv st h c s) {pc μ : Nat} {virt : Bool} {lv : LV} {st : List Value} {h : PH} {c s : Nat} (H : p_call C M hd Q K pc μ virt lv st h (c + D) (s + E)) : p_call C M hd Q K' pc μ virt lv st h c s := by
  unfold p_call at H ⊢
  split at H
  · exact H.elim
  · rename_i N hN
    obtain ⟨h1, h2, h3, h4, h5, h6⟩ := H
    refine ⟨h1, h2, by omega, by omega, h5, hC _ _ _ _ _ (fun r h q => ?_) h6⟩
    unfold p_back at q ⊢
    cases r with
    | inl v => exact hK _ _ _ _ _ _ (by rw [show c + pC N + D = c + D + pC N by omega, show s + pS N + E = s + E + pS N by omega]; exact q)
    | inr e => exact q
set_option maxHeartbeats 1000000 in
theorem pmI.shift {C : Nat → List Value → PH → (Rs → PH → Prop) → Prop} (hC : Cmono C) {S : Nat × (Nat → Int32)} {M : PM} {hd : List (Nat × Nat × Nat × Int)} {Q : Rs → PH → Prop} {K K' : Kt} {D E : Nat} (hK : ∀ pc lv st h c s, K pc lv st h (c + D) (s + E) → K' pc lv st h c s) {te : TE} {lv : LV} {st : List Value} {h : PH} {c s : Nat} (H : pmI C S M hd Q K te lv st h (c + D) (s + E)) : pmI C S M hd Q K' te lv st h c s := by
  obtain ⟨pc, ins, ta, tb⟩ := te
  cases ins
  case ldc i => obtain ⟨q, h1, h2, H⟩ := H; exact ⟨q, h1, h2, hK _ _ _ _ _ _ H⟩
  case ldc_w i => obtain ⟨q, h1, h2, H⟩ := H; exact ⟨q, h1, h2, hK _ _ _ _ _ _ H⟩
  case iload i => obtain ⟨q, h1, H⟩ := H; exact ⟨q, h1, hK _ _ _ _ _ _ H⟩
  case iload_n i => obtain ⟨q, h1, H⟩ := H; exact ⟨q, h1, hK _ _ _ _ _ _ H⟩
  case lload i => obtain ⟨q, h1, H⟩ := H; exact ⟨q, h1, hK _ _ _ _ _ _ H⟩
  case aload i => obtain ⟨q, h1, h2, H⟩ := H; exact ⟨q, h1, h2, hK _ _ _ _ _ _ H⟩
  case aload_n i => obtain ⟨q, h1, h2, H⟩ := H; exact ⟨q, h1, h2, hK _ _ _ _ _ _ H⟩
  case istore i => exact ⟨H.1, on1.mono (fun _ _ => hK _ _ _ _ _ _) H.2⟩
  case istore_n i => exact ⟨H.1, on1.mono (fun _ _ => hK _ _ _ _ _ _) H.2⟩
  case lstore i => obtain ⟨h1, x, r, h2, H⟩ := H; exact ⟨h1, x, r, h2, hK _ _ _ _ _ _ H⟩
  case astore i => exact ⟨H.1, onR.mono (fun _ _ => hK _ _ _ _ _ _) H.2⟩
  case astore_n i => exact ⟨H.1, onR.mono (fun _ _ => hK _ _ _ _ _ _) H.2⟩
  case iinc i z => obtain ⟨h1, x, h2, H⟩ := H; exact ⟨h1, x, h2, hK _ _ _ _ _ _ H⟩
  case idiv => exact on2.mono (fun _ _ _ q => ⟨q.1, hK _ _ _ _ _ _ q.2⟩) H
  case irem => exact on2.mono (fun _ _ _ q => ⟨q.1, hK _ _ _ _ _ _ q.2⟩) H
  case dup => obtain ⟨v, r, h1, h2, H⟩ := H; exact ⟨v, r, h1, h2, hK _ _ _ _ _ _ H⟩
  case dup2 => obtain ⟨v, w, r, h1, h2, h3, H⟩ := H; exact ⟨v, w, r, h1, h2, h3, hK _ _ _ _ _ _ H⟩
  case pop => obtain ⟨v, r, h1, h2, H⟩ := H; exact ⟨v, r, h1, h2, hK _ _ _ _ _ _ H⟩
  case goto z => exact jmp.mono (fun _ => hK _ _ _ _ _ _) H
  case ifCond cc z => exact on1.mono (fun _ _ q => jmp.mono (fun _ => brn.mono (hK _ _ _ _ _ _) (hK _ _ _ _ _ _)) q) H
  case if_icmp cc z => exact on2.mono (fun _ _ _ q => jmp.mono (fun _ => brn.mono (hK _ _ _ _ _ _) (hK _ _ _ _ _ _)) q) H
  case tableswitch d lo hi offs => exact on1.mono (fun _ _ q => ⟨fun a => jmp.mono (fun _ => hK _ _ _ _ _ _) (q.1 a), fun a b => by obtain ⟨off, h1, h2⟩ := q.2 a b; exact ⟨off, h1, jmp.mono (fun _ => hK _ _ _ _ _ _) h2⟩⟩) H
  case iaload => exact p_iald.mono (f := fun st => K (pc + 1) lv st h (c + D) (s + E)) (g := fun st => K' (pc + 1) lv st h c s) (fun _ => hK _ _ _ _ _ _) H
  case iastore => exact p_iast.mono (f := fun st h => K (pc + 1) lv st h (c + D) (s + E)) (g := fun st h => K' (pc + 1) lv st h c s) (fun _ _ => hK _ _ _ _ _ _) H
  case laload => exact p_lald.mono (f := fun st => K (pc + 1) lv st h (c + D) (s + E)) (g := fun st => K' (pc + 1) lv st h c s) (fun _ => hK _ _ _ _ _ _) H
  case lastore => exact p_last.mono (f := fun st h => K (pc + 1) lv st h (c + D) (s + E)) (g := fun st h => K' (pc + 1) lv st h c s) (fun _ _ => hK _ _ _ _ _ _) H
  case aaload => exact p_aald.mono (f := fun st => K (pc + 1) lv st h (c + D) (s + E)) (g := fun st => K' (pc + 1) lv st h c s) (fun _ => hK _ _ _ _ _ _) H
  case aastore => exact p_aast.mono (f := fun st h => K (pc + 1) lv st h (c + D) (s + E)) (g := fun st h => K' (pc + 1) lv st h c s) (fun _ _ => hK _ _ _ _ _ _) H
  case arraylength => exact p_alen.mono (f := fun st => K (pc + 1) lv st h (c + D) (s + E)) (g := fun st => K' (pc + 1) lv st h c s) (fun _ => hK _ _ _ _ _ _) H
  case getfield i => exact p_get.mono (f := fun st => K (pc + 3) lv st h (c + D) (s + E)) (g := fun st => K' (pc + 3) lv st h c s) (fun _ => hK _ _ _ _ _ _) H
  case putfield i => exact p_put.mono (f := fun st h => K (pc + 3) lv st h (c + D) (s + E)) (g := fun st h => K' (pc + 3) lv st h c s) (fun _ _ => hK _ _ _ _ _ _) H
  case newarray t => exact on1.mono (fun x _ q => ⟨q.1, q.2.1, by have := q.2.2.1; omega, by have := q.2.2.2.1; omega, q.2.2.2.2.imp (fun w => ⟨w.1, hK _ _ _ _ _ _ (by rw [show c + 1 + D = c + D + 1 by omega, show s + x.toNatClampNeg + E = s + E + x.toNatClampNeg by omega]; exact w.2)⟩) (fun w => ⟨w.1, hK _ _ _ _ _ _ (by rw [show c + 1 + D = c + D + 1 by omega, show s + x.toNatClampNeg + E = s + E + x.toNatClampNeg by omega]; exact w.2)⟩)⟩) H
  case anewarray i => exact on1.mono (fun x _ q => ⟨q.1, q.2.1, by have := q.2.2.1; omega, by have := q.2.2.2.1; omega, hK _ _ _ _ _ _ (by rw [show c + 1 + D = c + D + 1 by omega, show s + x.toNatClampNeg + E = s + E + x.toNatClampNeg by omega]; exact q.2.2.2.2)⟩) H
  case multianewarray i d => exact p_new2.mono (f := fun st h dc ds => c + D + dc ≤ pC M ∧ s + E + ds ≤ pS M ∧ K (pc + 4) lv st h (c + D + dc) (s + E + ds)) (g := fun st h dc ds => c + dc ≤ pC M ∧ s + ds ≤ pS M ∧ K' (pc + 4) lv st h (c + dc) (s + ds)) (fun _ _ dc ds q => ⟨by have := q.1; omega, by have := q.2.1; omega, hK _ _ _ _ _ _ (by rw [show c + dc + D = c + D + dc by omega, show s + ds + E = s + E + ds by omega]; exact q.2.2)⟩) H
  case new i =>
    rcases H with ⟨h1, h2, h3, H⟩ | ⟨h1, h2, h3, h4, h5, x, h6, H⟩
    · refine Or.inl ⟨h1, by omega, ?_, hK _ _ _ _ _ _ ?_⟩
      · have h3 : s + E + fnum ta ≤ pS M := h3
        show s + fnum ta ≤ pS M
        omega
      · rw [show c + 1 + D = c + D + 1 by omega]
        show K _ _ _ _ _ (s + fnum ta + E)
        rw [show s + fnum ta + E = s + E + fnum ta by omega]; exact H
    · exact Or.inr ⟨h1, h2, by omega, by omega, h5, x, h6, H⟩
  case invokevirtual i => exact p_call.shift hC hK H
  case invokestatic i =>
    rcases H with ⟨h1, H⟩ | ⟨h1, H⟩
    · exact Or.inl ⟨h1, p_copy.mono (fun _ _ q => ⟨q.1, hK _ _ _ _ _ _ q.2⟩) H⟩
    · exact Or.inr ⟨h1, p_call.shift hC hK H⟩
  case invokespecial i =>
    rcases H with ⟨h1, H⟩ | ⟨h1, H⟩
    · exact Or.inl ⟨h1, onR.mono (fun _ _ q => ⟨q.1, hK _ _ _ _ _ _ q.2⟩) H⟩
    · exact Or.inr ⟨h1, p_call.shift hC hK H⟩
  case ireturn => exact H
  case lreturn => exact H
  case areturn => exact H
  case return_ => exact H
  all_goals first | exact hK _ _ _ _ _ _ H | exact on1.mono (fun _ _ => hK _ _ _ _ _ _) H | exact on2.mono (fun _ _ _ => hK _ _ _ _ _ _) H | exact onL2.mono (fun _ _ _ => hK _ _ _ _ _ _) H | exact onLI.mono (fun _ _ _ => hK _ _ _ _ _ _) H | exact (show False from H).elim
/-- what comes back is told to ret -/
def RG (n0 : Nat) (θ0 : Nat → Int32) (rs : RS) (wr : WL) (h0 : PH) (ret : GR) (Q : Rs → PH → Prop) : Prop := ∀ env q m, ret env q m = true → ∀ (θ : Nat → Int32) (h' : PH) (r : Rs), (∀ t, t < n0 → θ t = θ0 t) → n0 ≤ env.1 → eG θ env → mG rs θ env.1 m h' → HW rs wr h0 h' → resG rs θ env.1 q r → Q r h'
section GRUN
variable {n0 : Nat} {θ0 : Nat → Int32} {C : Nat → List Value → PH → (Rs → PH → Prop) → Prop} {S : Nat × (Nat → Int32)} {M : PM} {hd : HD4} {rs : RS} {wr : WL} {h0 : PH} {Q : Rs → PH → Prop} {K : Kt} {cs : List (Nat × GC)} {ret : GR}
theorem gDo_ok {Iv : PH → Prop} (hiv : ∀ h', HW rs wr h0 h' → Iv h') (hC : Cmono C) {G : GC} {μ pc : Nat} {virt : Bool} {env : EW} {st : LW} {m : MW} {c s : Nat} {go : EW → LW → MW → Nat → Nat → Bool} {θ : Nat → Int32} {lv' : LV} {st' : List Value} {h' : PH} (hct : CtOK Iv rs C μ G) (hret : RG n0 θ0 rs wr h0 ret Q) (hag : ∀ t, t < n0 → θ t = θ0 t) (hn : n0 ≤ env.1) (he : eG θ env) (hst : A2 (vG rs θ env.1) st st') (hm : mG rs θ env.1 m h') (hh : HW rs wr h0 h')
    (hgo : ∀ env2 st2 m2 c2 s2, go env2 st2 m2 c2 s2 = true → ∀ θ2 st2' h2', Ext θ env.1 θ2 env2.1 → eG θ2 env2 → A2 (vG rs θ2 env2.1) st2 st2' → mG rs θ2 env2.1 m2 h2' → HW rs wr h0 h2' → K (pc + 3) lv' st2' h2' c2 s2)
    (H1 : gFit (M, hd, rs, wr) G env st m c s virt = true) (H2 : gDo (M, hd, rs, wr) G ret pc env st m c s go = true) : p_call C M hd Q K pc μ virt lv' st' h' c s := by
  unfold gFit at H1
  obtain ⟨g1, g2, g3⟩ := tkr_ok H1
  split at g3
  · rename_i hb
    rw [Bool.and_eq_true, Bool.and_eq_true, Bool.and_eq_true, Bool.and_eq_true, Bool.and_eq_true, Nat.ble_eq, Nat.ble_eq, Nat.ble_eq] at hb
    obtain ⟨⟨b0, b1⟩, ⟨b2, b3⟩, b4, b5⟩ := hb
    rw [List.append_nil] at b0 b5 g3
    have hA := (hst.take (pN G.1)).rev
    have hw : ∀ x ∈ (st.take (pN G.1)).reverse, w1 x = true := fun x hx => g2 x (List.mem_reverse.mp hx)
    have hlv := lG_args hA hw b0
    obtain ⟨σ, θ0, -, -, k1, k2, k3⟩ := sgA_ok he hlv hm g3
    obtain ⟨hM, hcall⟩ := hct
    have hc1 : ∀ v ∈ (st'.take (pN G.1)).reverse, v.category = 1 := by
      intro v hv
      obtain ⟨i, hi⟩ := List.mem_iff_getElem?.mp hv
      have hl : i < ((st.take (pN G.1)).reverse).length := by rw [← hA.len]; exact (List.getElem?_eq_some_iff.mp hi).1
      obtain ⟨w, e1, e2⟩ := hA.get (List.getElem?_eq_getElem hl)
      rw [e1] at hi
      cases hi
      exact g1_ok (hw _ (List.getElem_mem hl)) e2
    unfold p_call
    rw [hM]
    refine ⟨by rw [hst.len]; exact g1, by rw [gcats_ok (hst.drop (pN G.1))]; exact b1, b2, b3, ?_, ?_⟩
    · intro hv
      subst hv
      unfold gRecv at b5
      simp only at b5
      split at b5
      · rename_i e r hargs
        split at b5
        · rename_i q0 cj fs hk
          rw [beq_iff] at b5
          subst b5
          rw [hargs] at hA
          obtain ⟨w, ws, e3, ⟨A, e4, rfl⟩, -⟩ := hA
          obtain ⟨i, y, e5, e6, gs, rfl, -⟩ := e4.cell hh.1 hk
          refine ⟨A, gs, ?_, e6⟩
          rw [List.getLast?_eq_head?_reverse, e3]
          rfl
        · cases b5
      · cases b5
    · refine hC _ _ _ _ _ ?_ (hcall θ0 _ h' k1 k2 ?_ k3 hh.1 (hiv h' hh))
      · intro r h2 ⟨hw2, hr⟩
        unfold gDo at H2
        obtain ⟨-, -, H3⟩ := tkr_ok H2
        obtain ⟨m2, H3, hm2⟩ := mkeep_ok H3
        have hm3 := hm.kept hm2 hw2.2
        have hh2 := HW.tr b4 hh hw2
        split at H3
        · rename_i hex
          unfold p_back
          cases r with
          | inl v =>
            obtain ⟨hrx, hpo⟩ := hr
            have H3 := natF_ok (natF_ok H3)
            obtain ⟨env2, m4, θ2, H3, x2, he2, hm4⟩ := gPost_ok he hm3 hpo H3
            obtain ⟨env3, st3, θ3, H3, x3, he3, hst3⟩ := gRes_ok he2 ((hst.drop (pN G.1)).gext x2) hrx H3
            exact hgo _ _ _ _ _ H3 θ3 _ _ ⟨Nat.le_trans x2.1 x3.1, fun t ht => (x3.2 t (Nat.lt_of_lt_of_le ht x2.1)).trans (x2.2 t ht)⟩ he3 hst3 (hm4.ext x3) hh2
          | inr e =>
            have hr : e ∈ G.2.2.2.1 := hr
            have H4 := List.all_eq_true.mp hex e hr
            have H4 : ret env (wBack hd pc e) m2 = true := H4
            unfold wBack at H4
            simp only
            split at H4
            · rename_i z hz
              rw [hz]
              exact hret _ _ _ H4 θ h2 _ hag hn he hm3 hh2 (A2.one ⟨_, rfl, rfl⟩)
            · rename_i hz
              rw [hz]
              exact hret _ _ _ H4 θ h2 _ hag hn he hm3 hh2 rfl
        · cases H3
      · rw [sum1 hc1, List.length_reverse, List.length_take, hst.len]; omega
  · cases g3
theorem gCall_ok {Iv : PH → Prop} (hiv : ∀ h', HW rs wr h0 h' → Iv h') (hC : Cmono C) {μ pc : Nat} {virt : Bool} {env : EW} {st : LW} {m : MW} {c s : Nat} {go : EW → LW → MW → Nat → Nat → Bool} {θ : Nat → Int32} {lv' : LV} {st' : List Value} {h' : PH} (hret : RG n0 θ0 rs wr h0 ret Q) (hag : ∀ t, t < n0 → θ t = θ0 t) (hn : n0 ≤ env.1) (he : eG θ env) (hst : A2 (vG rs θ env.1) st st') (hm : mG rs θ env.1 m h') (hh : HW rs wr h0 h')
    (hgo : ∀ env2 st2 m2 c2 s2, go env2 st2 m2 c2 s2 = true → ∀ θ2 st2' h2', Ext θ env.1 θ2 env2.1 → eG θ2 env2 → A2 (vG rs θ2 env2.1) st2 st2' → mG rs θ2 env2.1 m2 h2' → HW rs wr h0 h2' → K (pc + 3) lv' st2' h2' c2 s2) : ∀ {cs : List (Nat × GC)}, (∀ x ∈ cs, CtOK Iv rs C x.1 x.2) → gCall (M, hd, rs, wr) cs ret pc env st m c s μ virt go = true → p_call C M hd Q K pc μ virt lv' st' h' c s
  | [], _, H => by cases (show false = true from H)
  | G :: cs, hcs, H => by
    have H : (match Nat.beq G.1 μ && gFit (M, hd, rs, wr) G.2 env st m c s virt with | true => gDo (M, hd, rs, wr) G.2 ret pc env st m c s go | false => gCall (M, hd, rs, wr) cs ret pc env st m c s μ virt go) = true := H
    split at H
    · rename_i q
      rw [Bool.and_eq_true, beq_iff] at q
      have := hcs G List.mem_cons_self
      rw [q.1] at this
      exact gDo_ok hiv hC this hret hag hn he hst hm hh hgo q.2 H
    · exact gCall_ok hiv hC hret hag hn he hst hm hh hgo (fun x hx => hcs x (List.mem_cons_of_mem _ hx)) H
end GRUN
/-- a way to make calls -/
abbrev CALF : Type := GX → GR → Nat → EW → LW → MW → Nat → Nat → Nat → Bool → (EW → LW → MW → Nat → Nat → Bool) → Bool
def CFOK (rs : RS) (wr : WL) (h0 : PH) (C : Nat → List Value → PH → (Rs → PH → Prop) → Prop) (cf : CALF) : Prop :=
  ∀ (M : PM) (hd : HD4) (Q : Rs → PH → Prop) (K : Kt) (ret : GR) (n0 : Nat) (θ0 : Nat → Int32) (pc : Nat) (env : EW) (st : LW) (m : MW) (c s μ : Nat) (virt : Bool) (go : EW → LW → MW → Nat → Nat → Bool) (θ : Nat → Int32) (lv' : LV) (st' : List Value) (h' : PH),
    cf (M, hd, rs, wr) ret pc env st m c s μ virt go = true → (∀ t, t < n0 → θ t = θ0 t) → n0 ≤ env.1 → RG n0 θ0 rs wr h0 ret Q → eG θ env → A2 (vG rs θ env.1) st st' → mG rs θ env.1 m h' → HW rs wr h0 h' →
    (∀ env2 st2 m2 c2 s2, go env2 st2 m2 c2 s2 = true → ∀ θ2 st2' h2', Ext θ env.1 θ2 env2.1 → eG θ2 env2 → A2 (vG rs θ2 env2.1) st2 st2' → mG rs θ2 env2.1 m2 h2' → HW rs wr h0 h2' → K (pc + 3) lv' st2' h2' c2 s2) → p_call C M hd Q K pc μ virt lv' st' h' c s
/-- a row of instructions: what it does, or what holds there -/
abbrev GT : Type := List (Nat × (GPF ⊕ List GA))
noncomputable def gfnd (pc : Nat) (l : GT) (k : GPF ⊕ List GA → GT → Bool) (no : Bool) : Bool := List.rec no (fun e r ih => Bool.rec ih (k e.2 r) (Nat.beq e.1 pc)) l
noncomputable def gfch (pc : Nat) (T rest : GT) (k : GPF ⊕ List GA → GT → Bool) : Bool := gfnd pc rest k (gfnd pc T k false)
noncomputable def gB (X : GX) (T : GT) (cf : CALF) (arr : GA → EW → LW → LW → MW → Nat → Nat → Bool) (ret : GR) : Nat → Nat → GT → EW → LW → LW → MW → Nat → Nat → Bool := fun k => Nat.rec (fun _ _ _ _ _ _ _ _ => false) (fun _ ih pc rest env lv st m c s =>
  gfch pc T rest fun f r => match f with
    | .inl f => f X env lv st m c s (fun pc env lv st m c s => ih pc r env lv st m c s) (fun μ virt => cf X ret pc env st m c s μ virt fun env st m c s => ih (pc + 3) r env lv st m c s) (fun q => ret env q m)
    | .inr l => l.any fun A => arr A env lv st m c s) k
/-- the instruction f at pc, and on -/
noncomputable def gStep (X : GX) (T : GT) (cf : CALF) (arr : GA → EW → LW → LW → MW → Nat → Nat → Bool) (ret : GR) (k : Nat) (f : GPF) (pc : Nat) (r : GT) (env : EW) (lv st : LW) (m : MW) (c s : Nat) : Bool := f X env lv st m c s (fun pc env lv st m c s => gB X T cf arr ret k pc r env lv st m c s) (fun μ virt => cf X ret pc env st m c s μ virt fun env st m c s => gB X T cf arr ret k (pc + 3) r env lv st m c s) (fun q => ret env q m)
theorem gfnd_ok {pc : Nat} {k : GPF ⊕ List GA → GT → Bool} {no : Bool} : ∀ {l : GT}, gfnd pc l k no = true → (∃ f r, (pc, f) ∈ l ∧ (∀ x ∈ r, x ∈ l) ∧ k f r = true) ∨ no = true
  | [], h => Or.inr h
  | e :: l, h => by
    have h1 : (Bool.rec (gfnd pc l k no) (k e.2 l) (Nat.beq e.1 pc) : Bool) = true := h
    cases hb : Nat.beq e.1 pc with
    | true =>
      rw [hb] at h1
      refine Or.inl ⟨e.2, l, ?_, fun x hx => List.mem_cons_of_mem _ hx, h1⟩
      rw [← beq_iff.mp hb]; exact List.mem_cons_self
    | false =>
      rw [hb] at h1
      rcases gfnd_ok (show gfnd pc l k no = true from h1) with ⟨f, r, q1, q2, q3⟩ | q
      · exact Or.inl ⟨f, r, List.mem_cons_of_mem _ q1, fun x hx => List.mem_cons_of_mem _ (q2 x hx), q3⟩
      · exact Or.inr q
theorem gB_succ (X : GX) (T : GT) (cf : CALF) (arr : GA → EW → LW → LW → MW → Nat → Nat → Bool) (ret : GR) (k pc : Nat) (rest : GT) (env : EW) (lv st : LW) (m : MW) (c s : Nat) : gB X T cf arr ret (k + 1) pc rest env lv st m c s = gfch pc T rest fun f r => match f with
    | .inl f => gStep X T cf arr ret k f pc r env lv st m c s
    | .inr l => l.any fun A => arr A env lv st m c s := rfl
section GRUN2
variable {n0 : Nat} {θ0 : Nat → Int32} {C : Nat → List Value → PH → (Rs → PH → Prop) → Prop} {S : Nat × (Nat → Int32)} {M : PM} {hd : HD4} {rs : RS} {wr : WL} {h0 : PH} {Q : Rs → PH → Prop} {K : Kt} {cf : CALF} {ret : GR} {T : GT} {arr : GA → EW → LW → LW → MW → Nat → Nat → Bool}
def TOK (M : PM) (T : GT) : Prop := ∀ e ∈ T, ∀ f, e.2 = .inl f → ∃ te, te.1 = e.1 ∧ (pT M).find? (fun x => x.1 == te.1) = some te ∧ f = mkG te
def ARR (n0 : Nat) (θ0 : Nat → Int32) (rs : RS) (wr : WL) (h0 : PH) (T : GT) (K : Kt) (arr : GA → EW → LW → LW → MW → Nat → Nat → Bool) : Prop := ∀ pc l, (pc, .inr l) ∈ T → ∀ A ∈ l, ∀ env lv st m c s, arr A env lv st m c s = true → ∀ (θ : Nat → Int32) lv' st' h', (∀ t, t < n0 → θ t = θ0 t) → n0 ≤ env.1 → eG θ env → lG rs θ env.1 lv lv' → A2 (vG rs θ env.1) st st' → mG rs θ env.1 m h' → HW rs wr h0 h' → K pc lv' st' h' c s
def KST (C : Nat → List Value → PH → (Rs → PH → Prop) → Prop) (S : Nat × (Nat → Int32)) (M : PM) (hd : HD4) (Q : Rs → PH → Prop) (K : Kt) : Prop := ∀ te, (pT M).find? (fun x => x.1 == te.1) = some te → ∀ lv st h c s, pmI C S M hd Q K te lv st h c s → K te.1 lv st h c s
theorem gB_ok (hdj : DJ rs) (hC : Cmono C) (hT : TOK M T) (hcf : CFOK rs wr h0 C cf) (hret : RG n0 θ0 rs wr h0 ret Q) (harr : ARR n0 θ0 rs wr h0 T K arr) (hK : KST C S M hd Q K) : ∀ (k pc : Nat) (rest : GT) (env : EW) (lv st : LW) (m : MW) (c s : Nat), gB (M, hd, rs, wr) T cf arr ret k pc rest env lv st m c s = true → (∀ e ∈ rest, e ∈ T) → ∀ (θ : Nat → Int32) (lv' : LV) (st' : List Value) (h' : PH), (∀ t, t < n0 → θ t = θ0 t) → n0 ≤ env.1 → eG θ env → lG rs θ env.1 lv lv' → A2 (vG rs θ env.1) st st' → mG rs θ env.1 m h' → HW rs wr h0 h' → K pc lv' st' h' c s := by
  intro k
  induction k with
  | zero => intro pc rest env lv st m c s H; cases (show false = true from H)
  | succ k ih =>
    intro pc rest env lv st m c s H hrest θ lv' st' h' hag hn he hlv hst hm hh
    rw [gB_succ] at H
    have key : ∃ f r, (pc, f) ∈ T ∧ (∀ e ∈ r, e ∈ T) ∧ (match f with | .inl f => gStep (M, hd, rs, wr) T cf arr ret k f pc r env lv st m c s | .inr l => l.any fun A => arr A env lv st m c s) = true := by
      unfold gfch at H
      rcases gfnd_ok H with ⟨f, r, q1, q2, q3⟩ | q
      · refine ⟨f, r, hrest _ q1, fun e he => hrest e (q2 e he), ?_⟩
        cases f <;> exact q3
      · rcases gfnd_ok q with ⟨f, r, q1, q2, q3⟩ | q
        · refine ⟨f, r, q1, q2, ?_⟩
          cases f <;> exact q3
        · cases q
    obtain ⟨f, r, hf, hr, H⟩ := key
    cases f with
    | inr l =>
      obtain ⟨A, hA, H⟩ := List.any_eq_true.mp H
      exact harr pc l hf A hA env lv st m c s H θ lv' st' h' hag hn he hlv hst hm hh
    | inl f =>
      obtain ⟨te, e1, e2, rfl⟩ := hT _ hf f rfl
      have e1 : te.1 = pc := e1
      subst e1
      refine hK te e2 lv' st' h' c s (mkG_ok (n0 := n0) (θ0 := θ0) hdj te env lv st m c s _ _ _ θ lv' st' h' hag hn he hlv hst hm hh ?_ ?_ ?_ H)
      · intro pc2 env2 lv2 st2 m2 c2 s2 H2 θ2 lv2' st2' h2' a1 a2 a3 a4 a5 a6 a7
        exact ih pc2 r env2 lv2 st2 m2 c2 s2 H2 hr θ2 lv2' st2' h2' a1 a2 a3 a4 a5 a6 a7
      · intro μ virt H2
        refine hcf M hd Q K ret n0 θ0 te.1 env st m c s μ virt _ θ lv' st' h' H2 hag hn hret he hst hm hh ?_
        intro env2 st2 m2 c2 s2 H3 θ2 st2' h2' x2 he2 hst2 hm2 hh2
        obtain ⟨a1, a2⟩ := ag_ext hag hn x2
        exact ih _ r env2 lv st2 m2 c2 s2 H3 hr θ2 lv' st2' h2' a1 a2 he2 (hlv.ext x2) hst2 hm2 hh2
      · intro q H2 r2 hres
        exact hret _ _ _ H2 θ h' r2 hag hn he hm hh hres
/-- a method that is gone through at its call: its row, rows of exceptions, empty places, its instructions -/
abbrev GI : Type := PM × HD4 × LW × GT
noncomputable def ifnd (μ : Nat) (l : List (Nat × GI)) (k : GI → Bool) (no : Bool) : Bool := List.rec no (fun e _ ih => Bool.rec ih (k e.2) (Nat.beq e.1 μ)) l
noncomputable def gInl (fuel : Nat) (cf : CALF) (N : GI) : CALF := fun X ret pc env st m c s _ virt go => tkr (pN N.1) st N.2.2.1 fun args rst => match (args.all plain1 && Nat.ble (cats rst) 8) && ((Nat.ble (c + pC N.1) (pC X.1) && Nat.ble (s + pS N.1) (pS X.1)) && gRecv X.2.2.1 virt (pO N.1) args) with
  | true => natF (c + pC N.1) fun c1 => natF (s + pS N.1) fun s1 => gB (N.1, N.2.1, X.2.2.1, X.2.2.2) N.2.2.2 cf (fun _ _ _ _ _ _ _ => false) (fun env q m => match q with
      | .inl (some x) => go env (x :: rst) m c1 s1
      | .inl none => go env rst m c1 s1
      | .inr e => ret env (wBack X.2.1 pc e) m) fuel 0 N.2.2.2 env args [] m 0 0
  | false => false
/-- calls: d deep gone through where the table says so, else by what is kept -/
noncomputable def gCl (fuel : Nat) (cs : List (Nat × GC)) (IT : List (Nat × GI)) : Nat → CALF := fun d => Nat.rec (fun X ret pc env st m c s μ virt go => gCall X cs ret pc env st m c s μ virt go) (fun _ ih X ret pc env st m c s μ virt go => ifnd μ IT (fun N => gInl fuel ih N X ret pc env st m c s μ virt go) (gCall X cs ret pc env st m c s μ virt go)) d
theorem gCl_succ (fuel : Nat) (cs : List (Nat × GC)) (IT : List (Nat × GI)) (d : Nat) (X : GX) (ret : GR) (pc : Nat) (env : EW) (st : LW) (m : MW) (c s μ : Nat) (virt : Bool) (go : EW → LW → MW → Nat → Nat → Bool) : gCl fuel cs IT (d + 1) X ret pc env st m c s μ virt go = ifnd μ IT (fun N => gInl fuel (gCl fuel cs IT d) N X ret pc env st m c s μ virt go) (gCall X cs ret pc env st m c s μ virt go) := rfl
theorem ifnd_ok {μ : Nat} {k : GI → Bool} {no : Bool} : ∀ {l : List (Nat × GI)}, ifnd μ l k no = true → (∃ N, (μ, N) ∈ l ∧ k N = true) ∨ no = true
  | [], h => Or.inr h
  | e :: l, h => by
    have h1 : (Bool.rec (ifnd μ l k no) (k e.2) (Nat.beq e.1 μ) : Bool) = true := h
    cases hb : Nat.beq e.1 μ with
    | true =>
      rw [hb] at h1
      refine Or.inl ⟨e.2, ?_, h1⟩
      rw [← beq_iff.mp hb]; exact List.mem_cons_self
    | false =>
      rw [hb] at h1
      rcases ifnd_ok (show ifnd μ l k no = true from h1) with ⟨N, q1, q2⟩ | q
      · exact Or.inl ⟨N, List.mem_cons_of_mem _ q1, q2⟩
      · exact Or.inr q
def ITOK (IT : List (Nat × GI)) : Prop := ∀ x ∈ IT, MT[x.1]? = some x.2.1 ∧ x.2.2.1 = (if pK x.2.1 = 3 then hdOf x.1 else []) ∧ (∀ v ∈ x.2.2.2.1, v = aU) ∧ pN x.2.1 ≤ pL x.2.1 ∧ TOK x.2.1 x.2.2.2.2 ∧ ∀ pc l, ¬ (pc, .inr l) ∈ x.2.2.2.2
theorem gCf_ok {Iv : PH → Prop} (hiv : ∀ h', HW rs wr h0 h' → Iv h') (hC : Cmono C) {cs : List (Nat × GC)} (hcs : ∀ x ∈ cs, CtOK Iv rs C x.1 x.2) : CFOK rs wr h0 C (fun X ret pc env st m c s μ virt go => gCall X cs ret pc env st m c s μ virt go) := by
  intro M hd Q K ret n0 θ0 pc env st m c s μ virt go θ lv' st' h' H hag hn hret he hst hm hh hgo
  exact gCall_ok hiv hC hret hag hn he hst hm hh hgo hcs H
theorem gInl_ok (hdj : DJ rs) {fuel n μ : Nat} {cf : CALF} {N : GI} (hcf : CFOK rs wr h0 (Ex S n) cf) (hN : MT[μ]? = some N.1 ∧ N.2.1 = (if pK N.1 = 3 then hdOf μ else []) ∧ (∀ v ∈ N.2.2.1, v = aU) ∧ pN N.1 ≤ pL N.1 ∧ TOK N.1 N.2.2.2 ∧ ∀ pc l, ¬ (pc, .inr l) ∈ N.2.2.2)
    {M : PM} {hd : HD4} {Q : Rs → PH → Prop} {K : Kt} {ret : GR} {n0 : Nat} {θ0 : Nat → Int32} {pc : Nat} {env : EW} {st : LW} {m : MW} {c s : Nat} {virt : Bool} {go : EW → LW → MW → Nat → Nat → Bool} {θ : Nat → Int32} {lv' : LV} {st' : List Value} {h' : PH}
    (H : gInl fuel cf N (M, hd, rs, wr) ret pc env st m c s μ virt go = true) (hag : ∀ t, t < n0 → θ t = θ0 t) (hn : n0 ≤ env.1) (hret : RG n0 θ0 rs wr h0 ret Q) (he : eG θ env) (hst : A2 (vG rs θ env.1) st st') (hm : mG rs θ env.1 m h') (hh : HW rs wr h0 h')
    (hgo : ∀ env2 st2 m2 c2 s2, go env2 st2 m2 c2 s2 = true → ∀ θ2 st2' h2', Ext θ env.1 θ2 env2.1 → eG θ2 env2 → A2 (vG rs θ2 env2.1) st2 st2' → mG rs θ2 env2.1 m2 h2' → HW rs wr h0 h2' → K (pc + 3) lv' st2' h2' c2 s2) : p_call (Ex S (n + 1)) M hd Q K pc μ virt lv' st' h' c s := by
  obtain ⟨hM, hhd, hpad, hL, hT, hno⟩ := hN
  unfold gInl at H
  obtain ⟨g1, g2, g3⟩ := tkr_ok H
  split at g3
  · rename_i hb
    rw [Bool.and_eq_true, Bool.and_eq_true, Bool.and_eq_true, Bool.and_eq_true, Nat.ble_eq, Nat.ble_eq, Nat.ble_eq] at hb
    obtain ⟨⟨b0, b1⟩, ⟨b2, b3⟩, b5⟩ := hb
    have H3 := natF_ok (natF_ok g3)
    have hA := (hst.take (pN N.1)).rev
    have hw : ∀ x ∈ (st.take (pN N.1)).reverse, w1 x = true := fun x hx => g2 x (List.mem_reverse.mp hx)
    have b0' : ((st.take (pN N.1)).reverse).all plain1 = true := by
      rw [List.all_append, Bool.and_eq_true] at b0
      exact b0.1
    have hlv0 := lG_args hA hw b0'
    have hlv : lG rs θ env.1 ((st.take (pN N.1)).reverse ++ N.2.2.1) (lv_args 0 (st'.take (pN N.1)).reverse) := by
      intro i v hv
      rw [List.getElem?_append] at hv
      split at hv
      · exact hlv0 i v hv
      · have := hpad v (List.mem_of_getElem? hv)
        subst this
        exact ⟨rfl, Or.inl rfl⟩
    have hc1 : ∀ v ∈ (st'.take (pN N.1)).reverse, v.category = 1 := by
      intro v hv
      obtain ⟨i, hi⟩ := List.mem_iff_getElem?.mp hv
      have hl : i < ((st.take (pN N.1)).reverse).length := by rw [← hA.len]; exact (List.getElem?_eq_some_iff.mp hi).1
      obtain ⟨w, e1, e2⟩ := hA.get (List.getElem?_eq_getElem hl)
      rw [e1] at hi
      cases hi
      exact g1_ok (hw _ (List.getElem_mem hl)) e2
    unfold p_call
    rw [hM]
    refine ⟨by rw [hst.len]; exact g1, by rw [gcats_ok (hst.drop (pN N.1))]; exact b1, b2, b3, ?_, ?_⟩
    · intro hv
      subst hv
      unfold gRecv at b5
      simp only at b5
      split at b5
      · rename_i e r hargs
        split at b5
        · rename_i q0 cj fs hk
          rw [beq_iff] at b5
          subst b5
          cases hrev : (st.take (pN N.1)).reverse with
          | nil =>
            rw [hrev, List.nil_append] at hargs
            have := hpad _ (by rw [hargs]; exact List.mem_cons_self)
            cases this
          | cons x xs =>
            rw [hrev] at hargs hA
            cases hargs
            obtain ⟨w, ws, e3, ⟨A, e4, rfl⟩, -⟩ := hA
            obtain ⟨i, y, e5, e6, gs, rfl, -⟩ := e4.cell hh.1 hk
            refine ⟨A, gs, ?_, e6⟩
            rw [List.getLast?_eq_head?_reverse, e3]
            rfl
        · cases b5
      · cases b5
    · refine ⟨N.1, hM, ?_, ?_⟩
      · rw [sum1 hc1, List.length_reverse, List.length_take, hst.len]; omega
      · rw [← hhd]
        refine gB_ok (n0 := env.1) (θ0 := θ) hdj (Ex.mono S n) hT hcf ?_ (fun pc l hl => absurd hl (hno pc l)) (fun te h1 lv st h c s H => Vx.go (Ex.mono S n) h1 H) _ _ _ _ _ _ _ _ _ H3 (fun e he => he) θ _ _ _ (fun _ _ => rfl) (Nat.le_refl _) he hlv rfl hm hh
        intro env2 q m2 H4 θ2 h2 r hag2 hn2 he2 hm2 hh2 hres
        have hx : Ext θ env.1 θ2 env2.1 := ⟨hn2, hag2⟩
        unfold p_back
        rcases q with (_ | x) | e
        · rcases r with w | e2
          · have hnil : w.toList = [] := hres
            cases w with
            | some w => cases hnil
            | none => exact hgo _ _ _ _ _ H4 θ2 _ _ hx he2 ((hst.drop (pN N.1)).gext hx) hm2 hh2
          · exact hres.elim
        · rcases r with w | e2
          · exact hgo _ _ _ _ _ H4 θ2 _ _ hx he2 (A2.app ((hst.drop (pN N.1)).gext hx) hres) hm2 hh2
          · exact hres.elim
        · rcases r with w | e2
          · exact hres.elim
          · obtain rfl : e2 = e := hres
            obtain ⟨a1, a2⟩ := ag_ext hag hn hx
            have H5 : ret env2 (wBack hd pc e2) m2 = true := H4
            unfold wBack at H5
            simp only
            split at H5
            · rename_i z hz
              rw [hz]
              exact hret _ _ _ H5 θ2 h2 _ a1 a2 he2 hm2 hh2 (A2.one ⟨_, rfl, rfl⟩)
            · rename_i hz
              rw [hz]
              exact hret _ _ _ H5 θ2 h2 _ a1 a2 he2 hm2 hh2 rfl
  · cases g3
theorem gCl_ok {Iv : PH → Prop} (hiv : ∀ h', HW rs wr h0 h' → Iv h') (hdj : DJ rs) {fuel k0 : Nat} {cs : List (Nat × GC)} {IT : List (Nat × GI)} (hIT : ITOK IT) (hcs : ∀ n, ∀ x ∈ cs, CtOK Iv rs (Ex S (n + k0)) x.1 x.2) : ∀ d n, CFOK rs wr h0 (Ex S (n + k0 + d)) (gCl fuel cs IT d)
  | 0, n => gCf_ok hiv (Ex.mono S _) (hcs n)
  | d + 1, n => by
    intro M hd Q K ret n0 θ0 pc env st m c s μ virt go θ lv' st' h' H hag hn hret he hst hm hh hgo
    rw [gCl_succ] at H
    rcases ifnd_ok H with ⟨N, hN, H⟩ | H
    · exact gInl_ok hdj (gCl_ok hiv hdj hIT hcs d n) (hIT _ hN) H hag hn hret he hst hm hh hgo
    · have := hcs (n + d + 1)
      rw [show n + d + 1 + k0 = n + k0 + (d + 1) by omega] at this
      exact gCall_ok hiv (Ex.mono S _) hret hag hn he hst hm hh hgo this H
end GRUN2
/-! the careful evaluator: a method keeps what is said of it -/
/-- cells and slots at heads at most, less a number a step of the measure -/
noncomputable def gArr (hp : Nat × Nat × Nat × Nat) (lb : Int) (ma : Int × List (Nat × Int)) : GA → EW → LW → LW → MW → Nat → Nat → Bool := fun B env lv st m c s => match st with
  | [] => sgB ma B env lv m fun y => bLe lb y && (bLe (.ofNat c - .ofNat hp.1) (.ofNat hp.2.2.1 * y) && bLe (.ofNat s - .ofNat hp.2.1) (.ofNat hp.2.2.2 * y))
  | _ => false
noncomputable def gPo (rs : RS) (env : EW) (m : MW) (l : List (Nat × Nat × Int × Int)) : Bool := List.rec true (fun x _ ih => match kspec rs x.1 with
  | some q => (match (isOne q.1 && Nat.beq (Nat.mod x.1 65536) 65535) && Nat.blt x.2.1 65536 with
    | true => mfind m x.1 (.inl (.ofNat x.2.1)) (fun v => gSub2 env v x.2.2.1 x.2.2.2 ih) false
    | false => false)
  | none => false) l
noncomputable def gRx (x : Nat × Int × Int) (env : EW) (v : Option AV) : Bool := match x.1 with
  | 0 => (match v with
    | none => true
    | some _ => false)
  | 1 => (match v with
    | some v => gSub2 env v x.2.1 x.2.2 true
    | none => false)
  | 2 => (match v with
    | some (.inr (.inr (.retAddr e))) => Nat.beq (Nat.div e 65536) x.2.1.toNat
    | _ => false)
  | _ => (match v with
    | some v => isL v
    | none => false)
noncomputable def gRet (rs : RS) (G : GC) : GR := fun env q m => match q with
  | .inl v => (match gRx G.2.2.1 env v with
    | true => gPo rs env m G.2.2.2.2.2
    | false => false)
  | .inr e => G.2.2.2.1.any fun x => Nat.beq x e
section GMETH
variable {rs : RS} {θ : Nat → Int32} {env : EW}
theorem gPo_ok {m : MW} {h : PH} (he : eG θ env) (hm : mG rs θ env.1 m h) (hh : HOK rs h) : ∀ {l : List (Nat × Nat × Int × Int)}, gPo rs env m l = true → PoOK rs l h
  | [], _ => fun x hx => by cases hx
  | y :: l, H => by
    have H : (match kspec rs y.1 with | some q => (match (isOne q.1 && Nat.beq (Nat.mod y.1 65536) 65535) && Nat.blt y.2.1 65536 with | true => mfind m y.1 (.inl (.ofNat y.2.1)) (fun v => gSub2 env v y.2.2.1 y.2.2.2 (gPo rs env m l)) false | false => false) | none => false) = true := H
    split at H
    · rename_i q hq
      split at H
      · rename_i hb
        rw [Bool.and_eq_true, Bool.and_eq_true, blt_iff] at hb
        rcases mfind_ok H with p | ⟨f, hf, e1, e2, H⟩
        · cases p
        · obtain ⟨A, j, w, g1, g2, g3, g4, g5⟩ := hm f hf
          obtain ⟨H, z, rfl, z1, z2⟩ := gSub2_ok he g5 H
          rw [aEq_ok e2] at g2
          obtain ⟨j2, e3, e4⟩ := g2
          cases e3
          have e4 : j.toInt = (y.2.1 : Int) := e4
          rw [e1] at g1
          intro x hx
          rcases List.mem_cons.mp hx with rfl | hx
          · have hk : rs[x.1 / 65536]? = some q := by
              unfold kspec at hq
              rw [lget_eq] at hq
              exact hq
            obtain ⟨q2, k1, k2⟩ := g1
            rw [hk] at k1
            cases k1
            refine ⟨q, A, z, hk, hb.1.1, ?_, hb.2, ?_, z1, z2⟩
            · rcases k2 with k2 | k2
              · exact k2.2
              · rw [hb.1.1] at k2; cases k2.1
            · rw [e4] at g4
              exact g4
          · exact gPo_ok he hm hh H x hx
      · cases H
    · cases H
theorem gRx_ok {x : Nat × Int × Int} {v : Option AV} {w : Option Value} (he : eG θ env) (hv : A2 (vG rs θ env.1) v.toList w.toList) (H : gRx x env v = true) : RxOK rs x w := by
  unfold gRx at H
  unfold RxOK
  split at H
  · rename_i e; rw [e]
    split at H
    · cases w with
      | none => rfl
      | some w => cases (show [w] = [] from hv)
    · cases H
  · rename_i e; rw [e]
    split at H
    · obtain ⟨u, us, e1, e2, e3⟩ := hv
      cases w with
      | none => cases e1
      | some w =>
        cases e1
        obtain ⟨-, y, rfl, h1, h2⟩ := gSub2_ok he e2 H
        exact ⟨y, rfl, h1, h2⟩
    · cases H
  · rename_i e; rw [e]
    split at H
    · rename_i e5
      obtain ⟨u, us, e1, ⟨A, e2, rfl⟩, e3⟩ := hv
      cases w with
      | none => cases e1
      | some w =>
        cases e1
        obtain ⟨q, i, a1, a2, -⟩ := e2.get
        have H : e5 / 65536 = x.2.1.toNat := beq_iff.mp H
        exact ⟨q, i, A, by rw [← H]; exact a1, a2, rfl⟩
    · cases H
  · rename_i e1 e2 e3
    split
    · rename_i e; exact absurd e e1
    · rename_i e; exact absurd e e2
    · rename_i e; exact absurd e e3
    · split at H
      · obtain ⟨u, us, a1, a2, a3⟩ := hv
        cases w with
        | none => cases a1
        | some w =>
          cases a1
          unfold isL at H
          split at H
          · obtain ⟨y, rfl⟩ := a2
            exact ⟨y, rfl⟩
          · cases H
      · cases H
theorem gRet_ok {G : GC} {h0 : PH} {n0 : Nat} {θ0 : Nat → Int32} : RG n0 θ0 rs G.2.2.2.2.1 h0 (gRet rs G) (CQ rs G h0) := by
  intro env q m H θ h' r _ _ he hm hh hres
  refine ⟨hh, ?_⟩
  unfold gRet at H
  split at H
  · rename_i v
    split at H
    · rename_i hx
      cases r with
      | inl w => exact ⟨gRx_ok he hres hx, gPo_ok he hm hh.1 H⟩
      | inr e => exact hres.elim
    · cases H
  · rename_i e
    cases r with
    | inl w => exact hres.elim
    | inr e2 =>
      have hres : e2 = e := hres
      subst hres
      rw [List.any_eq_true] at H
      obtain ⟨x, h1, h2⟩ := H
      rw [beq_iff] at h2
      subst h2
      exact h1
end GMETH
/-- what must come out true of a method: from its start, from each head, and no measure below 0 -/
noncomputable def gMeth (rs : RS) (cf : CALF) (G : GC) (hd : HD4) (hp : Nat × Nat × Nat × Nat) (T : GT) (HL : List (Nat × GA × GPF)) (fuel : Nat) : Bool :=
  match gB (G.1, hd, rs, G.2.2.2.2.1) T cf (gArr hp (-1000000000000) (0, [])) (gRet rs G) fuel 0 T G.2.1.1 G.2.1.2.1 [] G.2.1.2.2.1 0 0 with
  | true => HL.all fun x => (match lmin x.2.1.1 x.2.1.2.2.2.2.2 x.2.1.2.2.2.2.1 (bLe 0) with
    | true => gStep (G.1, hd, rs, G.2.2.2.2.1) T cf (gArr hp 1 x.2.1.2.2.2.2) (gRet rs G) fuel x.2.2 x.1 T x.2.1.1 x.2.1.2.1 [] x.2.1.2.2.1 hp.1 hp.2.1
    | false => false)
  | false => false
section GMETH2
variable {C : Nat → List Value → PH → (Rs → PH → Prop) → Prop} {S : Nat × (Nat → Int32)} {M : PM} {hd : HD4} {rs : RS} {wr : WL} {h0 : PH} {Q : Rs → PH → Prop} {cf : CALF} {ret : GR} {T : GT}
theorem KST.vx (hC : Cmono C) : KST C S M hd Q (Vx C S M hd Q) := fun te h1 lv st h c s H => Vx.go hC h1 H
theorem KST.sh (hC : Cmono C) (D E : Nat) : KST C S M hd Q (fun pc lv st h c s => ∀ c' s', c' + D = c → s' + E = s → Vx C S M hd Q pc lv st h c' s') := by
  intro te h1 lv st h c s H c' s' e1 e2
  subst e1
  subst e2
  exact Vx.go hC h1 (pmI.shift hC (fun pc lv st h c s q => q c s rfl rfl) H)
def HLOK (M : PM) (T : GT) (HL : List (Nat × GA × GPF)) : Prop := (∀ pc l, (pc, .inr l) ∈ T → ∀ A ∈ l, ∃ f, (pc, A, f) ∈ HL) ∧ ∀ x ∈ HL, ∃ te, te.1 = x.1 ∧ (pT M).find? (fun y => y.1 == te.1) = some te ∧ x.2.2 = mkG te
theorem heads_ok (hdj : DJ rs) (hC : Cmono C) (hT : TOK M T) (hcf : CFOK rs wr h0 C cf) (hret : ∀ n0 θ0, RG n0 θ0 rs wr h0 ret Q) {hp : Nat × Nat × Nat × Nat} {HL : List (Nat × GA × GPF)} {fuel : Nat} (hHL : HLOK M T HL)
    (hall : ∀ x ∈ HL, lmin x.2.1.1 x.2.1.2.2.2.2.2 x.2.1.2.2.2.2.1 (bLe 0) = true ∧ gStep (M, hd, rs, wr) T cf (gArr hp 1 x.2.1.2.2.2.2) ret fuel x.2.2 x.1 T x.2.1.1 x.2.1.2.1 [] x.2.1.2.2.1 hp.1 hp.2.1 = true) :
    ∀ (N : Nat), ∀ x ∈ HL, ∀ (θ : Nat → Int32) (lv' : LV) (h' : PH) (c s : Nat), eG θ x.2.1.1 → lG rs θ x.2.1.1.1 x.2.1.2.1 lv' → mG rs θ x.2.1.1.1 x.2.1.2.2.1 h' → HW rs wr h0 h' → gms x.2.1 θ < N → (c : Int) + hp.2.2.1 * gms x.2.1 θ ≤ hp.1 → (s : Int) + hp.2.2.2 * gms x.2.1 θ ≤ hp.2.1 → Vx C S M hd Q x.1 lv' [] h' c s := by
  intro N
  induction N with
  | zero =>
    intro x hx θ lv' h' c s he hlv hm hh hN hc hs
    obtain ⟨-, y, h1, h2⟩ := lmin_ok he (hall x hx).1
    rw [bLe_iff] at h2
    unfold gms at hN
    omega
  | succ N ih =>
    intro x hx θ lv' h' c s he hlv hm hh hN hc hs
    obtain ⟨hsy, y0, h1, h2⟩ := lmin_ok he (hall x hx).1
    rw [bLe_iff] at h2
    have hg0 : 0 ≤ gms x.2.1 θ := by unfold gms; omega
    have hc0 : (0 : Int) ≤ hp.2.2.1 * gms x.2.1 θ := Int.mul_nonneg (by omega) hg0
    have hs0 : (0 : Int) ≤ hp.2.2.2 * gms x.2.1 θ := Int.mul_nonneg (by omega) hg0
    obtain ⟨D, hD⟩ : ∃ D, c + D = hp.1 := ⟨hp.1 - c, by omega⟩
    obtain ⟨E, hE⟩ : ∃ E, s + E = hp.2.1 := ⟨hp.2.1 - s, by omega⟩
    have H := (hall x hx).2
    obtain ⟨te, e1, e2, e3⟩ := hHL.2 x hx
    have harr : ARR x.2.1.1.1 θ rs wr h0 T (fun pc lv st h c s => ∀ c' s', c' + D = c → s' + E = s → Vx C S M hd Q pc lv st h c' s') (gArr hp 1 x.2.1.2.2.2.2) := by
      intro pc l hl B hB env lv st m c2 s2 HA θ2 lv2' st2' h2' hag hn he2 hlv2 hst2 hm2 hh2 c' s' ec es
      unfold gArr at HA
      split at HA
      · have : st2' = [] := hst2
        subst this
        obtain ⟨θB, y, k1, k2, k3, k4, k5⟩ := sgB_ok he2 hlv2 hm2 HA
        rw [Bool.and_eq_true, Bool.and_eq_true, bLe_iff, bLe_iff, bLe_iff] at k5
        obtain ⟨k5, k6, k7⟩ := k5
        have k6 : (c2 : Int) - (hp.1 : Int) ≤ (hp.2.2.1 : Int) * y := k6
        have k7 : (s2 : Int) - (hp.2.1 : Int) ≤ (hp.2.2.2 : Int) * y := k7
        have e5 : lval θ2 x.2.1.2.2.2.2.2 = lval θ x.2.1.2.2.2.2.2 := lval_ag (fun z hz => hag _ (hsy z hz))
        have k8 : y ≤ gms x.2.1 θ - gms B θB := by unfold gms at k4 ⊢; omega
        obtain ⟨f, hf⟩ := hHL.1 pc l hl B hB
        have m1 : (hp.2.2.1 : Int) * y ≤ hp.2.2.1 * (gms x.2.1 θ - gms B θB) := Int.mul_le_mul_of_nonneg_left k8 (by omega)
        have m2 : (hp.2.2.2 : Int) * y ≤ hp.2.2.2 * (gms x.2.1 θ - gms B θB) := Int.mul_le_mul_of_nonneg_left k8 (by omega)
        rw [Int.mul_sub] at m1 m2
        exact ih (pc, B, f) hf θB lv2' h2' c' s' k1 k2 k3 hh2 (by show gms B θB < _; omega) (by show _ + _ * gms B θB ≤ _; omega) (by show _ + _ * gms B θB ≤ _; omega)
      · cases HA
    have hKS := KST.sh (S := S) (M := M) (hd := hd) (Q := Q) hC D E
    have h3 : pmI C S M hd Q (fun pc lv st h c s => ∀ c' s', c' + D = c → s' + E = s → Vx C S M hd Q pc lv st h c' s') te lv' [] h' hp.1 hp.2.1 := by
      unfold gStep at H
      rw [e3] at H
      refine mkG_ok (n0 := x.2.1.1.1) (θ0 := θ) hdj te _ _ _ _ _ _ _ _ _ θ lv' [] h' (fun _ _ => rfl) (Nat.le_refl _) he hlv (show A2 (vG rs θ x.2.1.1.1) [] [] from rfl) hm hh ?_ ?_ ?_ H
      · intro pc2 env2 lv2 st2 m2 c2 s2 H2 θ2 lv2' st2' h2' a1 a2 a3 a4 a5 a6 a7
        exact gB_ok hdj hC hT hcf (hret _ _) harr hKS _ _ _ _ _ _ _ _ _ H2 (fun e he => he) θ2 lv2' st2' h2' a1 a2 a3 a4 a5 a6 a7
      · intro μ virt H2
        rw [← e1] at H2
        refine hcf M hd Q _ ret x.2.1.1.1 θ te.1 _ _ _ _ _ μ virt _ θ lv' [] h' H2 (fun _ _ => rfl) (Nat.le_refl _) (hret _ _) he (show A2 (vG rs θ x.2.1.1.1) [] [] from rfl) hm hh ?_
        intro env2 st2 m2 c2 s2 H3 θ2 st2' h2' x2 he2 hst2 hm2 hh2
        exact gB_ok hdj hC hT hcf (hret _ _) harr hKS _ _ _ _ _ _ _ _ _ H3 (fun e he => he) θ2 lv' st2' h2' x2.2 x2.1 he2 (hlv.ext x2) hst2 hm2 hh2
      · intro q H2 r2 hres
        exact hret x.2.1.1.1 θ _ _ _ H2 θ h' r2 (fun _ _ => rfl) (Nat.le_refl _) he hm hh hres
    have h4 := hKS te e2 lv' [] h' hp.1 hp.2.1 h3 c s hD hE
    rw [e1] at h4
    exact h4
theorem meth_ok {Iv : PH → Prop} (hdj : DJ rs) {μ n : Nat} {G : GC} {hp : Nat × Nat × Nat × Nat} {HL : List (Nat × GA × GPF)} {fuel : Nat} (hM : MT[μ]? = some G.1) (hL : pN G.1 ≤ pL G.1) (hhd : hd = (if pK G.1 = 3 then hdOf μ else [])) (hT : TOK G.1 T) (hHL : HLOK G.1 T HL) (hcf : ∀ h0, Iv h0 → CFOK rs G.2.2.2.2.1 h0 (Ex S n) cf) (H : gMeth rs cf G hd hp T HL fuel = true) : CtOK Iv rs (Ex S (n + 1)) μ G := by
  refine ⟨hM, fun θ args h he hlv hsum hm hh hI => ⟨G.1, hM, by rw [hsum]; exact hL, ?_⟩⟩
  rw [← hhd]
  unfold gMeth at H
  split at H
  · rename_i H1
    have hh0 : HW rs G.2.2.2.2.1 h h := ⟨hh, fun k q i A h1 h2 f w hw hc => hc⟩
    have hhead := heads_ok (S := S) (h0 := h) (Q := CQ rs G h) (hd := hd) (fuel := fuel) (hp := hp) hdj (Ex.mono S n) hT (hcf h hI) (fun _ _ => gRet_ok) hHL (fun x hx => by
      have h1 := List.all_eq_true.mp H x hx
      split at h1
      · rename_i q; exact ⟨q, h1⟩
      · cases h1)
    refine gB_ok (n0 := 0) (θ0 := θ) hdj (Ex.mono S n) hT (hcf h hI) gRet_ok ?_ (KST.vx (Ex.mono S n)) _ _ _ _ _ _ _ _ _ H1 (fun e he => he) θ _ _ _ (fun _ _ => rfl) (Nat.zero_le _) he hlv rfl hm hh0
    intro pc l hl B hB env lv st m c2 s2 HA θ2 lv2' st2' h2' hag hn he2 hlv2 hst2 hm2 hh2
    unfold gArr at HA
    split at HA
    · have : st2' = [] := hst2
      subst this
      obtain ⟨θB, y, k1, k2, k3, k4, k5⟩ := sgB_ok he2 hlv2 hm2 HA
      rw [Bool.and_eq_true, Bool.and_eq_true, bLe_iff, bLe_iff, bLe_iff] at k5
      obtain ⟨k5, k6, k7⟩ := k5
      have k6 : (c2 : Int) - (hp.1 : Int) ≤ (hp.2.2.1 : Int) * y := k6
      have k7 : (s2 : Int) - (hp.2.1 : Int) ≤ (hp.2.2.2 : Int) * y := k7
      have k8 : y ≤ - gms B θB := by simp only [lval] at k4; omega
      obtain ⟨f, hf⟩ := hHL.1 pc l hl B hB
      have m1 : (hp.2.2.1 : Int) * y ≤ hp.2.2.1 * (- gms B θB) := Int.mul_le_mul_of_nonneg_left k8 (by omega)
      have m2 : (hp.2.2.2 : Int) * y ≤ hp.2.2.2 * (- gms B θB) := Int.mul_le_mul_of_nonneg_left k8 (by omega)
      rw [Int.mul_neg] at m1 m2
      exact hhead ((gms B θB).toNat + 1) (pc, B, f) hf θB lv2' h2' c2 s2 k1 k2 k3 hh2 (by show gms B θB < _; omega) (by show _ + _ * gms B θB ≤ _; omega) (by show _ + _ * gms B θB ≤ _; omega)
    · cases HA
  · cases H
end GMETH2
/-! the careful evaluator: tables of functions are those of methods -/
def tInc : List TE → Bool
  | [] => true
  | [_] => true
  | a :: b :: r => Nat.blt a.1 b.1 && tInc (b :: r)
theorem tInc.lt {a : TE} : ∀ {r : List TE}, tInc (a :: r) = true → ∀ e ∈ r, a.1 < e.1
  | [], _, e, h => by cases h
  | b :: r, h, e, he => by
    simp only [tInc, Bool.and_eq_true, blt_iff] at h
    rcases List.mem_cons.mp he with rfl | h2
    · exact h.1
    · exact Nat.lt_trans h.1 (tInc.lt h.2 e h2)
theorem tInc.tail {a : TE} : ∀ {r : List TE}, tInc (a :: r) = true → tInc r = true
  | [], _ => rfl
  | b :: r, h => by simp only [tInc, Bool.and_eq_true] at h; exact h.2
theorem tInc.find : ∀ {l : List TE} {e : TE}, tInc l = true → e ∈ l → l.find? (fun q => q.1 == e.1) = some e
  | a :: r, e, h, he => by
    rcases List.mem_cons.mp he with rfl | h2
    · simp
    · have h3 := tInc.lt h e h2
      rw [List.find?_cons_of_neg (by simp; omega)]
      exact tInc.find (tInc.tail h) h2
noncomputable def mkT (hs : List (Nat × List GA)) (te : TE) : Nat × (GPF ⊕ List GA) := (te.1, match hs.find? (fun q => q.1 == te.1) with
  | some q => .inr q.2
  | none => .inl (mkG te))
noncomputable def mkH (hs : List (Nat × List GA)) (te : TE) : List (Nat × GA × GPF) := match hs.find? (fun q => q.1 == te.1) with
  | some q => q.2.map fun A => (te.1, A, mkG te)
  | none => []
theorem TOK.of {M : PM} {T : GT} {hs : List (Nat × List GA)} (ht : tInc (pT M) = true) (hT : T = (pT M).map (mkT hs)) : TOK M T := by
  intro e he f hf
  rw [hT] at he
  obtain ⟨te, h1, rfl⟩ := List.mem_map.mp he
  refine ⟨te, rfl, tInc.find ht h1, ?_⟩
  unfold mkT at hf
  simp only at hf
  split at hf
  · cases hf
  · cases hf; rfl
theorem HLOK.of {M : PM} {T : GT} {hs : List (Nat × List GA)} {HL : List (Nat × GA × GPF)} (ht : tInc (pT M) = true) (hT : T = (pT M).map (mkT hs)) (hH : HL = (pT M).flatMap (mkH hs)) : HLOK M T HL := by
  refine ⟨fun pc l hl A hA => ?_, fun x hx => ?_⟩
  · rw [hT] at hl
    obtain ⟨te, h1, h2⟩ := List.mem_map.mp hl
    unfold mkT at h2
    split at h2
    · rename_i q hq
      cases h2
      refine ⟨mkG te, ?_⟩
      rw [hH]
      refine List.mem_flatMap.mpr ⟨te, h1, ?_⟩
      unfold mkH
      rw [hq]
      exact List.mem_map.mpr ⟨A, hA, rfl⟩
    · cases h2
  · rw [hH] at hx
    obtain ⟨te, h1, h2⟩ := List.mem_flatMap.mp hx
    unfold mkH at h2
    split at h2
    · obtain ⟨A, -, rfl⟩ := List.mem_map.mp h2
      exact ⟨te, rfl, tInc.find ht h1, rfl⟩
    · cases h2
def isU (v : AV) : Bool := match v with
  | .inr (.inr .null) => true
  | _ => false
theorem isU_ok {v : AV} (h : isU v = true) : v = aU := by
  unfold isU at h
  split at h
  · rfl
  · cases h
theorem ITOK.nil : ITOK [] := fun x hx => by cases hx
theorem ITOK.cons {μ : Nat} {N : GI} {IT : List (Nat × GI)} (h1 : MT[μ]? = some N.1) (h2 : N.2.1 = (if pK N.1 = 3 then hdOf μ else [])) (h3 : N.2.2.1.all isU = true) (h4 : Nat.ble (pN N.1) (pL N.1) = true) (ht : tInc (pT N.1) = true) (hT : N.2.2.2 = (pT N.1).map (mkT [])) (h : ITOK IT) : ITOK ((μ, N) :: IT) := by
  intro x hx
  rcases List.mem_cons.mp hx with rfl | hx
  · refine ⟨h1, h2, fun v hv => isU_ok (List.all_eq_true.mp h3 v hv), Nat.le_of_ble_eq_true h4, TOK.of ht hT, fun pc l hA => ?_⟩
    have hA : (pc, Sum.inr l) ∈ N.2.2.2 := hA
    rw [hT] at hA
    obtain ⟨te, -, h5⟩ := List.mem_map.mp hA
    cases h5
  · exact h x hx
theorem DJ.of : ∀ {rs : RS}, (rs.flatMap (fun q => q.1)).Nodup → DJ rs
  | [], _ => fun k k' q q' i i' A h1 => by simp at h1
  | p :: rs, hn => by
    rw [List.flatMap_cons, List.nodup_append] at hn
    obtain ⟨n1, n2, n3⟩ := hn
    have ih := DJ.of n2
    have inr : ∀ {k i A : Nat} {q : List Nat × CS}, rs[k]? = some q → q.1[i]? = some A → A ∈ rs.flatMap (fun q => q.1) := fun {k i A q} a b => List.mem_flatMap.mpr ⟨q, List.mem_of_getElem? a, List.mem_of_getElem? b⟩
    intro k k' q q' i i' A h1 h2 h3 h4
    cases k with
    | zero =>
      cases k' with
      | zero =>
        simp at h1 h3
        subst h1
        subst h3
        refine ⟨rfl, ?_⟩
        exact (List.getElem?_inj (List.getElem?_eq_some_iff.mp h2).1 n1).mp (h2.trans h4.symm)
      | succ k' =>
        simp at h1
        subst h1
        exact absurd rfl (n3 A (List.mem_of_getElem? h2) A (inr (by simpa using h3) h4))
    | succ k =>
      cases k' with
      | zero =>
        simp at h3
        subst h3
        exact absurd rfl (n3 A (List.mem_of_getElem? h4) A (inr (by simpa using h1) h2))
      | succ k' =>
        obtain ⟨a, b⟩ := ih k k' q q' i i' A (by simpa using h1) h2 (by simpa using h3) h4
        exact ⟨by omega, b⟩
/-- a method of a table keeps what is said of it, if it comes out true -/
theorem meth_of {Iv : PH → Prop} {S : Nat × (Nat → Int32)} {rs : RS} (hdj : DJ rs) {μ k0 d fuel : Nat} {G : GC} {hd : HD4} {hp : Nat × Nat × Nat × Nat} {hs : List (Nat × List GA)} {T : GT} {HL : List (Nat × GA × GPF)} {cs : List (Nat × GC)} {IT : List (Nat × GI)} (hIT : ITOK IT) (hM : MT[μ]? = some G.1) (hL : Nat.ble (pN G.1) (pL G.1) = true) (hhd : hd = (if pK G.1 = 3 then hdOf μ else [])) (ht : tInc (pT G.1) = true) (hT : T = (pT G.1).map (mkT hs)) (hH : HL = (pT G.1).flatMap (mkH hs))
    (hiv : ∀ h h', HW rs G.2.2.2.2.1 h h' → Iv h → Iv h') (hcs : ∀ n, ∀ x ∈ cs, CtOK Iv rs (Ex S (n + k0)) x.1 x.2) (H : gMeth rs (gCl fuel cs IT d) G hd hp T HL fuel = true) : ∀ n, CtOK Iv rs (Ex S (n + (k0 + d + 1))) μ G := by
  intro n
  have := meth_ok (S := S) (n := n + k0 + d) hdj hM (Nat.le_of_ble_eq_true hL) hhd (TOK.of ht hT) (HLOK.of ht hT hH) (fun h0 hI => gCl_ok (fun h' hw => hiv h0 h' hw hI) hdj hIT hcs d n) H
  rw [show n + (k0 + d + 1) = n + k0 + d + 1 by omega]
  exact this

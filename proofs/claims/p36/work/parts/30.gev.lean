/-! the careful evaluator: every state that keeps a heap of ranges; what is read gets a new symbol; both branches where it isn't known; loops by what holds at their heads -/
/-- number of symbols, their ranges, the newest first -/
abbrev EW : Type := Nat × List (Int × Int)
/-- known of the heap now: cell, place, value -/
abbrev MW : Type := List (Nat × AV × AV)
/-- a number in a range, or a reference into a region -/
abbrev AS : Type := (Int × Int) ⊕ Nat
/-- a row of numbers (length, stride, a range for each residue of the place), a row of longs (length), a row of references into a region (tag, region), an object (number of its class, fields) -/
abbrev CS : Type := (Nat × Nat × List (Int × Int)) ⊕ (Nat ⊕ ((Nat × Nat) ⊕ (Nat × List AS)))
/-- regions: addresses, and what each cell of it is; a reference in a cell leads to the same place of its region (to its only cell, if it has one) -/
abbrev RS : Type := List (List Nat × CS)
abbrev GG : Type := Nat → EW → LW → LW → MW → Nat → Nat → Bool
abbrev GR : Type := EW → AQ → MW → Bool
/-- what may be written: region, and 0 for all of it, or a field's number and 1 -/
abbrev WL : Type := List (Nat × Nat)
abbrev GX : Type := PM × HD4 × RS × WL
abbrev GPF : Type := GX → EW → LW → LW → MW → Nat → Nat → GG → (Nat → Bool → Bool) → (AQ → Bool) → Bool
noncomputable def eget (env : EW) (t : Nat) : Option (Int × Int) := match Nat.blt t env.1 with
  | true => lget env.2 (Nat.sub (Nat.sub env.1 1) t)
  | false => none
noncomputable def eset (env : EW) (t : Nat) (r : Int × Int) (k : EW → Bool) : Bool := match Nat.blt t env.1 with
  | true => lset env.2 (Nat.sub (Nat.sub env.1 1) t) r fun l => k (env.1, l)
  | false => false
/-- a new symbol -/
def frs (env : EW) (lo hi : Int) (k : EW → AV → Bool) : Bool := iF lo fun lo => iF hi fun hi => natF (env.1 + 1) fun n => k (n, (lo, hi) :: env.2) (aY env.1 1 0)
noncomputable def gK (env : EW) (v : AV) (k : Int → Int → Bool) : Bool := match v with
  | .inl x => k x x
  | .inr (.inl (0, lo, hi)) => k lo hi
  | .inr (.inl (t + 1, a, b)) => (match eget env t with
    | some r => (match bLt a 0 with
      | false => iF (a * r.1 + b) fun x => iF (a * r.2 + b) fun y => k x y
      | true => iF (a * r.2 + b) fun x => iF (a * r.1 + b) fun y => k x y)
    | none => false)
  | .inr (.inr _) => false
/-- a number is in a range: what that says of its symbol; where it can't be, nothing is owed -/
noncomputable def rfn (env : EW) (v : AV) (lo hi : Int) (k : EW → Bool) : Bool := match v with
  | .inl x => (match bLe lo x && bLe x hi with
    | true => k env
    | false => true)
  | .inr (.inl (t + 1, 1, b)) => (match eget env t with
    | some r => iF (max r.1 (lo - b)) fun x => iF (min r.2 (hi - b)) fun y => (match bLe x y with
      | true => eset env t (x, y) k
      | false => true)
    | none => false)
  | .inr (.inl (t + 1, -1, b)) => (match eget env t with
    | some r => iF (max r.1 (b - hi)) fun x => iF (min r.2 (b - lo)) fun y => (match bLe x y with
      | true => eset env t (x, y) k
      | false => true)
    | none => false)
  | _ => k env
def ngC (c : ClassFile.Cond) : ClassFile.Cond := match c with
  | .eq => .ne
  | .ne => .eq
  | .lt => .ge
  | .ge => .lt
  | .gt => .le
  | .le => .gt
/-- what c of x and y says of their symbols; [a, b] and [a', b'] are their ranges -/
noncomputable def rfC (env : EW) (c : ClassFile.Cond) (x y : AV) (a b a' b' : Int) (k : EW → Bool) : Bool := match c with
  | .lt => rfn env x iLo (b' - 1) fun env => rfn env y (a + 1) iHi k
  | .ge => rfn env x a' iHi fun env => rfn env y iLo b k
  | .gt => rfn env x (a' + 1) iHi fun env => rfn env y iLo (b - 1) k
  | .le => rfn env x iLo b' fun env => rfn env y a iHi k
  | .eq => rfn env x a' b' fun env => rfn env y a b k
  | .ne => (match bEq a' b' with
    | true => (match bEq a a' with
      | true => rfn env x (a + 1) iHi k
      | false => (match bEq b a' with
        | true => rfn env x iLo (b - 1) k
        | false => k env))
    | false => k env)
/-- both ways, each with what it says -/
noncomputable def gBr (env : EW) (c : ClassFile.Cond) (x y : AV) (t f : EW → Bool) : Bool := gK env x fun a b => gK env y fun a' b' => match cmpR c a b a' b' with
  | some true => t env
  | some false => f env
  | none => (match rfC env c x y a b a' b' t with
    | true => rfC env (ngC c) x y a b a' b' f
    | false => false)
noncomputable def gRng (env : EW) (lo hi : Int) (k : EW → AV → Bool) : Bool := match bEq lo hi && inI lo hi with
  | true => iF lo fun x => k env (.inl x)
  | false => (match inI lo hi with
    | true => frs env lo hi k
    | false => frs env iLo iHi k)
/-- a times a symbol and b, if that stays in the numbers; else by its range -/
noncomputable def gLin (env : EW) (t : Nat) (a b : Int) (k : EW → AV → Bool) : Bool := gK env (aY t a b) fun lo hi => match inI lo hi with
  | true => iF a fun a => iF b fun b => k env (aY t a b)
  | false => frs env iLo iHi k
noncomputable def gAdd (env : EW) (x y : AV) (k : EW → AV → Bool) : Bool := match x, y with
  | .inl a, .inl b => kInt (a + b) fun v => k env v
  | .inr (.inl (t + 1, a, b)), .inl z => gLin env t a (b + z) k
  | .inl z, .inr (.inl (t + 1, a, b)) => gLin env t a (b + z) k
  | x, y => gK env x fun a b => gK env y fun a' b' => gRng env (a + a') (b + b') k
noncomputable def gSub (env : EW) (x y : AV) (k : EW → AV → Bool) : Bool := match x, y with
  | .inl a, .inl b => kInt (a - b) fun v => k env v
  | .inr (.inl (t + 1, a, b)), .inl z => gLin env t a (b - z) k
  | .inl z, .inr (.inl (t + 1, a, b)) => gLin env t (-a) (z - b) k
  | x, y => gK env x fun a b => gK env y fun a' b' => gRng env (a - b') (b - a') k
def mn4 (a b c d : Int) : Int := min (min a b) (min c d)
def mx4 (a b c d : Int) : Int := max (max a b) (max c d)
noncomputable def gMul (env : EW) (x y : AV) (k : EW → AV → Bool) : Bool := match x, y with
  | .inl a, .inl b => kInt (a * b) fun v => k env v
  | .inr (.inl (t + 1, a, b)), .inl z => gLin env t (a * z) (b * z) k
  | .inl z, .inr (.inl (t + 1, a, b)) => gLin env t (a * z) (b * z) k
  | x, y => gK env x fun a b => gK env y fun a' b' => gRng env (mn4 (a * a') (a * b') (b * a') (b * b')) (mx4 (a * a') (a * b') (b * a') (b * b')) k
/-- a divisor above 0 -/
noncomputable def gPos (env : EW) (y : AV) (k : Int → Bool) : Bool := gK env y fun a b => match bLt 0 a with
  | true => k b
  | false => false
noncomputable def gDiv (env : EW) (x y : AV) (k : EW → AV → Bool) : Bool := match x, y with
  | .inl a, .inl b => (match bEq b 0 with
    | true => false
    | false => iF (bin (· / ·) a b) fun z => k env (.inl z))
  | x, y => gPos env y fun _ => gK env x fun a b => gRng env (min a 0) (max b 0) k
noncomputable def gRem (env : EW) (x y : AV) (k : EW → AV → Bool) : Bool := match x, y with
  | .inl a, .inl b => (match bEq b 0 with
    | true => false
    | false => iF (bin (fun x y => x - x / y * y) a b) fun z => k env (.inl z))
  | x, y => gPos env y fun m => gK env x fun a b => (match bLt a 0 with
    | true => gRng env (1 - m) (m - 1) k
    | false => gRng env 0 (min (m - 1) b) k)
/-- and: below a mask that isn't below 0 -/
noncomputable def gAny (env : EW) (x y : AV) (f : Int32 → Int32 → Int32) (k : EW → AV → Bool) : Bool := gK env x fun a b => gK env y fun a' b' => match bEq a b && bEq a' b' with
  | true => iF (bin f a a') fun z => k env (.inl z)
  | false => frs env iLo iHi k
/-- a cell's key: region * 65536 + symbol of its place there (65535: its only cell) -/
abbrev aC (e : Nat) : AV := .inr (.inr (.retAddr e))
noncomputable def kspec (rs : RS) (e : Nat) : Option (List Nat × CS) := lget rs (Nat.div e 65536)
def isOne (l : List Nat) : Bool := match l with
  | [_] => true
  | _ => false
/-- from a cell into region k -/
noncomputable def kto (rs : RS) (e k : Nat) (c : Nat → Bool) : Bool := match lget rs k with
  | some q => (match isOne q.1 with
    | true => natF (k * 65536 + 65535) c
    | false => (match kspec rs e with
      | some p => (match Nat.beq p.1.length q.1.length with
        | true => natF (k * 65536 + Nat.mod e 65536) c
        | false => false)
      | none => false))
  | none => false
def aEq (x y : AV) : Bool := match x, y with
  | .inl a, .inl b => bEq a b
  | .inr (.inl (t, a, b)), .inr (.inl (u, c, d)) => Nat.beq t u && (!(Nat.beq t 0) && (bEq a c && bEq b d))
  | _, _ => false
noncomputable def mfind (m : MW) (e : Nat) (p : AV) (k : AV → Bool) (no : Bool) : Bool := List.rec no (fun f _ ih => match Nat.beq f.1 e && aEq f.2.1 p with
  | true => k f.2.2
  | false => ih) m
def isK (x : AV) : Bool := match x with
  | .inl _ => true
  | _ => false
/-- a write at a place of a cell of the region: what is no longer known goes -/
noncomputable def mdrop (m : MW) (r : Nat) (p : AV) : (MW → Bool) → Bool := List.rec (fun k => k []) (fun f _ ih k => match Nat.beq (Nat.div f.1 65536) r && !(isK f.2.1 && (isK p && !(aEq f.2.1 p))) with
  | true => ih k
  | false => ih fun m => k (f :: m)) m
def wAllB (wr : WL) (k : Nat) : Bool := wr.any fun x => Nat.beq x.1 k && Nat.beq x.2 0
def wAll (wr : WL) (k : Nat) (b : Bool) : Bool := match wAllB wr k with
  | true => b
  | false => false
def wHas (wr : WL) (k f : Nat) (b : Bool) : Bool := match wr.any fun x => Nat.beq x.1 k && (Nat.beq x.2 0 || Nat.beq x.2 (f + 1)) with
  | true => b
  | false => false
/-- instructions -/
def g_no : GPF := fun _ _ _ _ _ _ _ _ _ _ => false
def g_push (v : AV) (n : Nat) : GPF := fun _ env lv st m c s go _ _ => go n env lv (v :: st) m c s
noncomputable def g_iload (i n : Nat) : GPF := fun _ env lv st m c s go _ _ => match lget lv i with
  | some v => (match isNum v with
    | true => go n env lv (v :: st) m c s
    | false => false)
  | none => false
noncomputable def g_aload (i n : Nat) : GPF := fun _ env lv st m c s go _ _ => match lget lv i with
  | some (.inr (.inr (.retAddr e))) => go n env lv (aC e :: st) m c s
  | _ => false
noncomputable def g_istore (i n : Nat) : GPF := fun X env lv st m c s go _ _ => match st with
  | v :: r => (match isNum v && Nat.blt i (pL X.1) with
    | true => lset lv i v fun lv => go n env lv r m c s
    | false => false)
  | _ => false
noncomputable def g_astore (i n : Nat) : GPF := fun X env lv st m c s go _ _ => match st with
  | .inr (.inr (.retAddr e)) :: r => (match Nat.blt i (pL X.1) with
    | true => lset lv i (aC e) fun lv => go n env lv r m c s
    | false => false)
  | _ => false
noncomputable def g_iinc (i : Nat) (z : Int) (n : Nat) : GPF := fun X env lv st m c s go _ _ => match lget lv i with
  | some x => (match isNum x && Nat.blt i (pL X.1) with
    | true => gAdd env x (.inl z) fun env v => lset lv i v fun lv => go n env lv st m c s
    | false => false)
  | none => false
noncomputable def g_bin (f : EW → AV → AV → (EW → AV → Bool) → Bool) (n : Nat) : GPF := fun _ env lv st m c s go _ _ => match st with
  | y :: x :: r => f env x y fun env v => go n env lv (v :: r) m c s
  | _ => false
noncomputable def g_neg (n : Nat) : GPF := fun _ env lv st m c s go _ _ => match st with
  | x :: r => gSub env (.inl 0) x fun env v => go n env lv (v :: r) m c s
  | _ => false
noncomputable def g_i2l (n : Nat) : GPF := fun _ env lv st m c s go _ _ => match st with
  | x :: r => (match isNum x with
    | true => go n env lv (.inr (.inr (.double 0)) :: r) m c s
    | false => false)
  | _ => false
def g_dup (n : Nat) : GPF := fun _ env lv st m c s go _ _ => match st with
  | v :: r => (match w1 v with
    | true => go n env lv (v :: v :: r) m c s
    | false => false)
  | _ => false
def g_dup2 (n : Nat) : GPF := fun _ env lv st m c s go _ _ => match st with
  | v :: w :: r => (match w1 v && w1 w with
    | true => go n env lv (v :: w :: v :: w :: r) m c s
    | false => false)
  | _ => false
def g_pop (n : Nat) : GPF := fun _ env lv st m c s go _ _ => match st with
  | v :: r => (match w1 v with
    | true => go n env lv r m c s
    | false => false)
  | _ => false
def g_goto (t : Nat) : GPF := fun _ env lv st m c s go _ _ => go t env lv st m c s
noncomputable def g_if (cc : ClassFile.Cond) (t n : Nat) : GPF := fun _ env lv st m c s go _ _ => match st with
  | x :: r => gBr env cc x (.inl 0) (fun env => go t env lv r m c s) (fun env => go n env lv r m c s)
  | _ => false
noncomputable def g_icmp (cc : ClassFile.Cond) (t n : Nat) : GPF := fun _ env lv st m c s go _ _ => match st with
  | y :: x :: r => gBr env cc x y (fun env => go t env lv r m c s) (fun env => go n env lv r m c s)
  | _ => false
/-- all places of a table, each with what it says -/
noncomputable def g_sw1 (env : EW) (x : AV) (go : Nat → EW → Bool) (ts : List Nat) : Int → Bool := List.rec (fun _ => true) (fun t _ ih j => match rfn env x j j (go t) with
  | true => iF (j + 1) ih
  | false => false) ts
noncomputable def g_sw (d : Nat) (lo hi : Int) (ts : List Nat) : GPF := fun _ env lv st m c s go _ _ => match st with
  | x :: r => gK env x fun _ _ => (match go d env lv r m c s with
    | true => g_sw1 env x (fun t env => go t env lv r m c s) ts lo
    | false => false)
  | _ => false
/-- a place in a row of n -/
noncomputable def gIn (env : EW) (i : AV) (n : Nat) (k : Bool) : Bool := gK env i fun lo hi => match bLe 0 lo && bLt hi (.ofNat n) with
  | true => k
  | false => false
/-- the residue of a place, where it is known -/
def resid (s : Nat) (i : AV) : Option Nat := match Nat.beq s 1 with
  | true => some 0
  | false => (match i with
    | .inl x => some (Nat.mod x.toNat s)
    | .inr (.inl (_ + 1, a, b)) => (match bEq (Int.emod a (.ofNat s)) 0 with
      | true => some (Int.emod b (.ofNat s)).toNat
      | false => none)
    | _ => none)
noncomputable def rsel (s : Nat) (rl : List (Int × Int)) (i : AV) (k : Int → Int → Bool) : Bool := match resid s i with
  | some q => (match lget rl q with
    | some r => k r.1 r.2
    | none => false)
  | none => false
/-- the same for reading: any number where the residue isn't known -/
noncomputable def rselR (s : Nat) (rl : List (Int × Int)) (i : AV) (k : Int → Int → Bool) : Bool := match resid s i with
  | some _ => rsel s rl i k
  | none => k iLo iHi
noncomputable def g_iald (n : Nat) : GPF := fun X env lv st m c s go _ _ => match st with
  | i :: .inr (.inr (.retAddr e)) :: r => (match kspec X.2.2.1 e with
    | some (_, .inl (z, sd, rl)) => gIn env i z (mfind m e i (fun v => go n env lv (v :: r) m c s) (rselR sd rl i fun lo hi => frs env lo hi fun env v => go n env lv (v :: r) ((e, i, v) :: m) c s))
    | _ => false)
  | _ => false
noncomputable def gSub2 (env : EW) (v : AV) (lo hi : Int) (k : Bool) : Bool := gK env v fun a b => match bLe lo a && bLe b hi with
  | true => k
  | false => false
noncomputable def g_iast (n : Nat) : GPF := fun X env lv st m c s go _ _ => match st with
  | v :: i :: .inr (.inr (.retAddr e)) :: r => (match kspec X.2.2.1 e with
    | some (_, .inl (z, sd, rl)) => gIn env i z (rsel sd rl i fun lo hi => gSub2 env v lo hi (wAll X.2.2.2 (Nat.div e 65536) (mdrop m (Nat.div e 65536) i fun m => go n env lv r ((e, i, v) :: m) c s)))
    | _ => false)
  | _ => false
noncomputable def g_last (n : Nat) : GPF := fun X env lv st m c s go _ _ => match st with
  | .inr (.inr (.double _)) :: i :: .inr (.inr (.retAddr e)) :: r => (match kspec X.2.2.1 e with
    | some (_, .inr (.inl z)) => gIn env i z (go n env lv r m c s)
    | _ => false)
  | _ => false
noncomputable def g_aald (n : Nat) : GPF := fun X env lv st m c s go _ _ => match st with
  | i :: .inr (.inr (.retAddr e)) :: r => (match kspec X.2.2.1 e with
    | some (_, .inr (.inr (.inl (_, k)))) => (match lget X.2.2.1 k with
      | some q => (match i with
        | .inr (.inl (t + 1, 1, 0)) => (match Nat.blt t 65536 with
          | true => gIn env i q.1.length (natF (k * 65536 + t) fun e => go n env lv (aC e :: r) m c s)
          | false => false)
        | i => (match Nat.blt env.1 65536 with
          | true => gIn env i q.1.length (gK env i fun lo hi => frs env lo hi fun env2 _ => natF (k * 65536 + env.1) fun e => go n env2 lv (aC e :: r) m c s)
          | false => false))
      | none => false)
    | _ => false)
  | _ => false
noncomputable def g_get (ci f n : Nat) : GPF := fun X env lv st m c s go _ _ => match st with
  | .inr (.inr (.retAddr e)) :: r => (match kspec X.2.2.1 e with
    | some (_, .inr (.inr (.inr (cj, fs)))) => (match Nat.beq cj ci with
      | true => (match lget fs f with
        | some (.inl (lo, hi)) => mfind m e (.inl (.ofNat f)) (fun v => go n env lv (v :: r) m c s) (frs env lo hi fun env v => go n env lv (v :: r) ((e, .inl (.ofNat f), v) :: m) c s)
        | some (.inr k) => kto X.2.2.1 e k fun e => go n env lv (aC e :: r) m c s
        | none => false)
      | false => false)
    | _ => false)
  | _ => false
noncomputable def g_put (ci f n : Nat) : GPF := fun X env lv st m c s go _ _ => match st with
  | v :: .inr (.inr (.retAddr e)) :: r => (match kspec X.2.2.1 e with
    | some (_, .inr (.inr (.inr (cj, fs)))) => (match Nat.beq cj ci with
      | true => (match lget fs f with
        | some (.inl (lo, hi)) => gSub2 env v lo hi (wHas X.2.2.2 (Nat.div e 65536) f (mdrop m (Nat.div e 65536) (.inl (.ofNat f)) fun m => go n env lv r ((e, .inl (.ofNat f), v) :: m) c s))
        | _ => false)
      | false => false)
    | _ => false)
  | _ => false
noncomputable def g_alen (n : Nat) : GPF := fun X env lv st m c s go _ _ => match st with
  | .inr (.inr (.retAddr e)) :: r => (match kspec X.2.2.1 e with
    | some (_, .inl (z, _, _)) => (match Nat.blt z 2147483648 with
      | true => go n env lv (.inl (.ofNat z) :: r) m c s
      | false => false)
    | _ => false)
  | _ => false
noncomputable def g_throw (x : Nat) : GPF := fun X _ _ st _ c s _ _ ret => match X.2.1 with
  | [] => (match Nat.ble (c + 1) (pC X.1) && (Nat.ble (s + 6) (pS X.1) && Nat.ble (cats st) 8) with
    | true => ret (.inr x)
    | false => false)
  | _ => false
def g_call (μ : Nat) (virt : Bool) : GPF := fun _ _ _ _ _ _ _ _ call _ => call μ virt
noncomputable def g_iret : GPF := fun X env _ st _ _ _ _ _ ret => match st with
  | [x] => (match pR X.1 with
    | some .int => (match isNum x with
      | true => ret (.inl (some x))
      | false => false)
    | some .boolean => gSub2 env x 0 1 (ret (.inl (some x)))
    | _ => false)
  | _ => false
def g_aret : GPF := fun X _ _ st _ _ _ _ _ ret => match st with
  | [.inr (.inr (.retAddr e))] => (match pR X.1 with
    | some (.object _) => ret (.inl (some (aC e)))
    | _ => false)
  | _ => false
def g_ret : GPF := fun X _ _ st _ _ _ _ _ ret => match st with
  | [] => (match pR X.1 with
    | none => ret (.inl none)
    | _ => false)
  | _ => false
/-- System.arraycopy -/
noncomputable def g_copy (n : Nat) : GPF := fun X env lv st m c s go _ _ => match st with
  | z :: dp :: .inr (.inr (.retAddr e1)) :: sp :: .inr (.inr (.retAddr e0)) :: r => (match kspec X.2.2.1 e0 with
    | some (_, .inl (n0, 1, [(lo0, hi0)])) => (match kspec X.2.2.1 e1 with
      | some (_, .inl (n1, 1, [(lo1, hi1)])) => gK env z fun za zb => gK env dp fun da db => gK env sp fun sa sb => (match (bLe 0 za && (bLe 0 da && bLe 0 sa)) && ((bLe (sb + zb) (.ofNat n0) && bLe (db + zb) (.ofNat n1)) && ((bLe lo1 lo0 && bLe hi0 hi1) && Nat.ble (cats r) 8)) with
        | true => wAll X.2.2.2 (Nat.div e1 65536) (mdrop m (Nat.div e1 65536) aTop fun m => go n env lv r m c s)
        | false => false)
      | _ => false)
    | _ => false)
  | _ => false
def isL (v : AV) : Bool := match v with
  | .inr (.inr (.double _)) => true
  | _ => false
noncomputable def g_lload (i n : Nat) : GPF := fun _ env lv st m c s go _ _ => match lget lv i with
  | some v => (match isL v with
    | true => go n env lv (v :: st) m c s
    | false => false)
  | none => false
noncomputable def g_lbin (n : Nat) : GPF := fun _ env lv st m c s go _ _ => match st with
  | y :: x :: r => (match isL x && isL y with
    | true => go n env lv (x :: r) m c s
    | false => false)
  | _ => false
noncomputable def g_lshl (n : Nat) : GPF := fun _ env lv st m c s go _ _ => match st with
  | y :: x :: r => (match isL x && isNum y with
    | true => go n env lv (x :: r) m c s
    | false => false)
  | _ => false
noncomputable def g_lcmp (n : Nat) : GPF := fun _ env lv st m c s go _ _ => match st with
  | y :: x :: r => (match isL x && isL y with
    | true => frs env (-1) 1 fun env v => go n env lv (v :: r) m c s
    | false => false)
  | _ => false
noncomputable def g_lret : GPF := fun X _ _ st _ _ _ _ _ ret => match st with
  | [x] => (match pR X.1 with
    | some .long => (match isL x with
      | true => ret (.inl (some x))
      | false => false)
    | _ => false)
  | _ => false
/-- the place ahead is no long -/
noncomputable def noL (lv : LW) (i : Nat) (k : Bool) : Bool := match i with
  | 0 => k
  | j + 1 => (match lget lv j with
    | some v => (match isL v with
      | true => false
      | false => k)
    | none => k)
noncomputable def g_istore2 (i n : Nat) : GPF := fun X env lv st m c s go call ret => noL lv i (g_istore i n X env lv st m c s go call ret)
noncomputable def g_astore2 (i n : Nat) : GPF := fun X env lv st m c s go call ret => noL lv i (g_astore i n X env lv st m c s go call ret)
noncomputable def g_iinc2 (i : Nat) (z : Int) (n : Nat) : GPF := fun X env lv st m c s go call ret => noL lv i (g_iinc i z n X env lv st m c s go call ret)
noncomputable def g_lstore (i n : Nat) : GPF := fun X env lv st m c s go _ _ => match st with
  | v :: r => (match isL v && Nat.blt (i + 1) (pL X.1) with
    | true => noL lv i (lset lv i v fun lv => lset lv (i + 1) aU fun lv => go n env lv r m c s)
    | false => false)
  | _ => false
noncomputable def g_putb (ci f n : Nat) : GPF := fun X env lv st m c s go call ret => match st with
  | v :: r => gSub2 env v 0 1 (g_put ci f n X env lv (v :: r) m c s go call ret)
  | _ => false
def jG (pc : Nat) (z : Int) (f : Nat → GPF) : GPF := if 0 ≤ (pc : Int) + z then f ((pc : Int) + z).toNat else g_no
noncomputable def mkG (te : TE) : GPF := match te.2.1 with
  | .iconst z => g_push (.inl (Int32.ofInt z).toInt) (te.1 + 1)
  | .bipush z => g_push (.inl (Int8.ofInt z).toInt32.toInt) (te.1 + 2)
  | .sipush z => g_push (.inl (Int16.ofInt z).toInt32.toInt) (te.1 + 3)
  | .lconst _ => g_push (.inr (.inr (.double 0))) (te.1 + 1)
  | .ldc _ => (match KLs[te.2.2.1]? with
    | some q => if te.2.2.2 = 0 then g_push (.inl q.2.2.toInt) (te.1 + 2) else g_no
    | none => g_no)
  | .ldc_w _ => (match KLs[te.2.2.1]? with
    | some q => if te.2.2.2 = 0 then g_push (.inl q.2.2.toInt) (te.1 + 3) else g_no
    | none => g_no)
  | .iload i => g_iload i (te.1 + 2)
  | .iload_n i => g_iload i (te.1 + 1)
  | .lload i => g_lload i (te.1 + 2)
  | .aload i => g_aload i (te.1 + 2)
  | .aload_n i => g_aload i (te.1 + 1)
  | .istore i => g_istore2 i (te.1 + 2)
  | .istore_n i => g_istore2 i (te.1 + 1)
  | .lstore i => g_lstore i (te.1 + 2)
  | .astore i => g_astore2 i (te.1 + 2)
  | .astore_n i => g_astore2 i (te.1 + 1)
  | .iinc i z => if inI z z = true then g_iinc2 i z (te.1 + 3) else g_no
  | .iadd => g_bin gAdd (te.1 + 1)
  | .isub => g_bin gSub (te.1 + 1)
  | .imul => g_bin gMul (te.1 + 1)
  | .idiv => g_bin gDiv (te.1 + 1)
  | .irem => g_bin gRem (te.1 + 1)
  | .ineg => g_neg (te.1 + 1)
  | .ishl => g_bin (fun env x y => gAny env x y (fun x y => x <<< (y &&& 31))) (te.1 + 1)
  | .ishr => g_bin (fun env x y => gAny env x y (fun x y => x >>> (y &&& 31))) (te.1 + 1)
  | .iushr => g_bin (fun env x y => gAny env x y (fun x y => (x.toUInt32 >>> (y.toUInt32 &&& Int32.toUInt32 31)).toInt32)) (te.1 + 1)
  | .iand => g_bin (fun env x y => gAny env x y (· &&& ·)) (te.1 + 1)
  | .ior => g_bin (fun env x y => gAny env x y (· ||| ·)) (te.1 + 1)
  | .ixor => g_bin (fun env x y => gAny env x y (· ^^^ ·)) (te.1 + 1)
  | .i2l => g_i2l (te.1 + 1)
  | .lcmp => g_lcmp (te.1 + 1)
  | .lshl => g_lshl (te.1 + 1)
  | .lor => g_lbin (te.1 + 1)
  | .land => g_lbin (te.1 + 1)
  | .dup => g_dup (te.1 + 1)
  | .dup2 => g_dup2 (te.1 + 1)
  | .pop => g_pop (te.1 + 1)
  | .goto z => jG te.1 z g_goto
  | .ifCond cc z => jG te.1 z fun t => g_if cc t (te.1 + 3)
  | .if_icmp cc z => jG te.1 z fun t => g_icmp cc t (te.1 + 3)
  | .tableswitch d lo hi offs => if offs.toList.all (fun o => decide (0 ≤ (te.1 : Int) + o)) = true ∧ hi - lo + 1 = offs.size then jG te.1 d fun d => g_sw d lo hi (offs.toList.map fun o => ((te.1 : Int) + o).toNat) else g_no
  | .iaload => g_iald (te.1 + 1)
  | .iastore => g_iast (te.1 + 1)
  | .lastore => g_last (te.1 + 1)
  | .aaload => g_aald (te.1 + 1)
  | .arraylength => g_alen (te.1 + 1)
  | .getfield _ => if te.2.2.2 < fnum te.2.2.1 then g_get te.2.2.1 te.2.2.2 (te.1 + 3) else g_no
  | .putfield _ => if te.2.2.2 < fnum te.2.2.1 then (match ftyX te.2.2.1 te.2.2.2 with
    | .int => g_put te.2.2.1 te.2.2.2 (te.1 + 3)
    | .boolean => g_putb te.2.2.1 te.2.2.2 (te.1 + 3)
    | _ => g_no) else g_no
  | .new _ => if te.2.2.2 = 1 then (match XLs[te.2.2.1]? with
    | some x => g_throw x.2.2.1
    | none => g_no) else g_no
  | .invokevirtual _ => g_call te.2.2.1 true
  | .invokestatic _ => if te.2.2.2 = 7 then g_copy (te.1 + 3) else g_call te.2.2.1 false
  | .ireturn => g_iret
  | .lreturn => g_lret
  | .areturn => g_aret
  | .return_ => g_ret
  | _ => g_no

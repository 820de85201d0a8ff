/-! a loop turn by turn: the model, and sums that go round told exactly -/
def wr (t : Int) : Int := (Int32.ofInt t).toInt
section TXX
variable {C : CXW} {S : Nat × (Nat → Int32)} {M : PM} {K : TK} {c s : Nat} {pc : Nat} {L : List (Option WV)} {st : List WV} {mem : MM}
theorem Tx.iaddX (hC : Cmono C) {a b : Nat} {x y : Int} (ht : (pT M).find? (fun e => e.1 == pc) = some (pc, .iadd, a, b)) (H : ∀ z, InI z → z = wr (x + y) → Tx C S M K c s (pc + 1) L (.inl z :: st) mem) : Tx C S M K c s pc L (.inl y :: .inl x :: st) mem :=
  Tx.go hC ht fun h0 lv h h9 h1 h2 h3 => by
    have := H (Int32.ofInt x + Int32.ofInt y).toInt (wiI _) (by unfold wr; rw [Int32.ofInt_add]) h0 lv h h9 h1 (stc (wiI _) (fun u hu => h2 u (List.mem_cons_of_mem _ (List.mem_cons_of_mem _ hu)))) h3
    rw [List.map_cons, show wv (.inl (Int32.ofInt x + Int32.ofInt y).toInt) = .int (Int32.ofInt x + Int32.ofInt y) from by show Value.int (Int32.ofInt _) = _; rw [Int32.ofInt_toInt]] at this
    exact this
theorem Tx.isubX (hC : Cmono C) {a b : Nat} {x y : Int} (ht : (pT M).find? (fun e => e.1 == pc) = some (pc, .isub, a, b)) (H : ∀ z, InI z → z = wr (x - y) → Tx C S M K c s (pc + 1) L (.inl z :: st) mem) : Tx C S M K c s pc L (.inl y :: .inl x :: st) mem :=
  Tx.go hC ht fun h0 lv h h9 h1 h2 h3 => by
    have := H (Int32.ofInt x - Int32.ofInt y).toInt (wiI _) (by unfold wr; rw [Int32.ofInt_sub]) h0 lv h h9 h1 (stc (wiI _) (fun u hu => h2 u (List.mem_cons_of_mem _ (List.mem_cons_of_mem _ hu)))) h3
    rw [List.map_cons, show wv (.inl (Int32.ofInt x - Int32.ofInt y).toInt) = .int (Int32.ofInt x - Int32.ofInt y) from by show Value.int (Int32.ofInt _) = _; rw [Int32.ofInt_toInt]] at this
    exact this
theorem Tx.imulX (hC : Cmono C) {a b : Nat} {x y : Int} (ht : (pT M).find? (fun e => e.1 == pc) = some (pc, .imul, a, b)) (H : ∀ z, InI z → z = wr (x * y) → Tx C S M K c s (pc + 1) L (.inl z :: st) mem) : Tx C S M K c s pc L (.inl y :: .inl x :: st) mem :=
  Tx.go hC ht fun h0 lv h h9 h1 h2 h3 => by
    have := H (Int32.ofInt x * Int32.ofInt y).toInt (wiI _) (by unfold wr; rw [Int32.ofInt_mul]) h0 lv h h9 h1 (stc (wiI _) (fun u hu => h2 u (List.mem_cons_of_mem _ (List.mem_cons_of_mem _ hu)))) h3
    rw [List.map_cons, show wv (.inl (Int32.ofInt x * Int32.ofInt y).toInt) = .int (Int32.ofInt x * Int32.ofInt y) from by show Value.int (Int32.ofInt _) = _; rw [Int32.ofInt_toInt]] at this
    exact this
end TXX
/-- kinds, rows, places, first values, sources and distances of ops -/
abbrev Acc : Type := (Nat → Int) × (Nat → Int) × (Nat → Int) × (Nat → Int) × (Nat → Nat → Int) × (Nat → Nat → Int)
abbrev PSt : Type := (Nat → Nat → Int) × (Nat → Nat → Int)
def lkM (A : Acc) (cm : Nat → Nat → Int) (o k : Nat) (t : Int) : Int := if A.2.2.2.2.1 o k = -1 then t else if A.2.2.2.2.1 o k = -2 then A.2.2.2.2.2 o k else if t - A.2.2.2.2.2 o k < 0 then A.2.2.2.1 (A.2.2.2.2.1 o k).toNat else cm (A.2.2.2.2.1 o k).toNat (t - A.2.2.2.2.2 o k).toNat
def opM (k a b : Int) : Int := if k = 0 then wr (a + b) else if k = 1 then wr (a - b) else if k = 2 then wr (a * b) else min a b
def acM (A : Acc) (s : PSt) (o t : Nat) : Int := if A.1 o = 4 then s.1 (A.2.1 o).toNat (t + A.2.2.1 o).toNat else if A.1 o = 5 then lkM A s.2 o 0 t else opM (A.1 o) (lkM A s.2 o 0 t) (lkM A s.2 o 1 t)
def up2 (f : Nat → Nat → Int) (a b : Nat) (v : Int) : Nat → Nat → Int := fun i j => if i = a ∧ j = b then v else f i j
def stM (A : Acc) (s : PSt) (o t : Nat) : PSt := (if A.1 o = 5 then up2 s.1 (A.2.1 o).toNat (t + A.2.2.1 o).toNat (acM A s o t) else s.1, up2 s.2 o t (acM A s o t))
def opsM (A : Acc) (s : PSt) (t : Nat) : Nat → PSt
  | 0 => s
  | o + 1 => stM A (opsM A s t o) o t
def trM (A : Acc) (N : Nat) : Nat → PSt
  | 0 => (fun r p => if r = 0 then 3 * (p : Int) + 1 else 7 * (p : Int) - 5, fun _ _ => 0)
  | t + 1 => opsM A (trM A N t) t N
/-- what has come when so many ops of a turn are done -/
def dn (N t o o' t' : Nat) : Prop := o' < N ∧ (t' < t ∨ (t' = t ∧ o' < o))
/-- the same ops come to the same -/
theorem lkM.cg {A B : Acc} {cm : Nat → Nat → Int} {o k : Nat} {t : Int} (h1 : A.2.2.2.2.1 o k = B.2.2.2.2.1 o k) (h2 : A.2.2.2.2.2 o k = B.2.2.2.2.2 o k) (h3 : 0 ≤ A.2.2.2.2.1 o k → A.2.2.2.1 (A.2.2.2.2.1 o k).toNat = B.2.2.2.1 (A.2.2.2.2.1 o k).toNat) (h4 : -2 ≤ A.2.2.2.2.1 o k) : lkM A cm o k t = lkM B cm o k t := by
  unfold lkM
  rw [← h1, ← h2]
  by_cases a : A.2.2.2.2.1 o k = -1
  · rw [if_pos a, if_pos a]
  · rw [if_neg a, if_neg a]
    by_cases b : A.2.2.2.2.1 o k = -2
    · rw [if_pos b, if_pos b]
    · rw [if_neg b, if_neg b, h3 (by omega)]
def AgO (A B : Acc) (o : Nat) : Prop := A.1 o = B.1 o ∧ (A.1 o = 4 ∨ A.1 o = 5 → A.2.1 o = B.2.1 o ∧ A.2.2.1 o = B.2.2.1 o) ∧ ∀ k, k < 2 → A.2.2.2.2.1 o k = B.2.2.2.2.1 o k ∧ A.2.2.2.2.2 o k = B.2.2.2.2.2 o k ∧ (0 ≤ A.2.2.2.2.1 o k → A.2.2.2.1 (A.2.2.2.2.1 o k).toNat = B.2.2.2.1 (A.2.2.2.2.1 o k).toNat) ∧ -2 ≤ A.2.2.2.2.1 o k
theorem AgO.lk {A B : Acc} {o : Nat} (h : AgO A B o) {cm : Nat → Nat → Int} {k : Nat} (hk : k < 2) {t : Int} : lkM A cm o k t = lkM B cm o k t := by
  have q := h.2.2 k hk
  exact lkM.cg q.1 q.2.1 q.2.2.1 q.2.2.2
theorem AgO.ac {A B : Acc} {o : Nat} (h : AgO A B o) {s : PSt} {t : Nat} : acM A s o t = acM B s o t := by
  unfold acM
  rw [← h.1, h.lk (k := 0) (by omega), h.lk (k := 1) (by omega)]
  by_cases a : A.1 o = 4
  · rw [if_pos a, if_pos a, (h.2.1 (Or.inl a)).1, (h.2.1 (Or.inl a)).2]
  · rw [if_neg a, if_neg a]
theorem AgO.st {A B : Acc} {o : Nat} (h : AgO A B o) {s : PSt} {t : Nat} : stM A s o t = stM B s o t := by
  unfold stM
  rw [h.ac, ← h.1]
  by_cases a : A.1 o = 5
  · rw [if_pos a, if_pos a, (h.2.1 (Or.inr a)).1, (h.2.1 (Or.inr a)).2]
  · rw [if_neg a, if_neg a]
theorem opsM.cg {A B : Acc} {s : PSt} {t : Nat} : ∀ n, (∀ o, o < n → AgO A B o) → opsM A s t n = opsM B s t n
  | 0, _ => rfl
  | n + 1, h => by
    show stM A (opsM A s t n) n t = stM B (opsM B s t n) n t
    rw [opsM.cg n (fun o ho => h o (by omega)), (h n (by omega)).st]
theorem trM.cg {A B : Acc} {N : Nat} (h : ∀ o, o < N → AgO A B o) : ∀ t, trM A N t = trM B N t
  | 0 => rfl
  | t + 1 => by
    show opsM A (trM A N t) t N = opsM B (trM B N t) t N
    rw [trM.cg h t, opsM.cg N h]
/-- accessors of both sides -/
def acsC (m : MM) : Acc := (m 2, rowB m, plcB m, m 4, fun o k => m 3 (4 * o + 2 * k), fun o k => m 3 (4 * o + 2 * k + 1))
def acsR (m : MM) : Acc := (m 144, rowF m, plcF m, m 149, fun o k => srcA m o k, fun o k => srcB m o k)
/-- what is told of sources lies behind -/
def SrcK (A : Acc) (N : Nat) (o k : Nat) : Prop := A.2.2.2.2.1 o k < 0 ∨ (A.2.2.2.2.1 o k < N ∧ (0 < A.2.2.2.2.2 o k ∨ A.2.2.2.2.1 o k < o) ∧ 0 ≤ A.2.2.2.2.2 o k)
theorem lkM.dnq {A : Acc} {N o k t : Nat} {cm cm2 : Nat → Nat → Int} (hs : SrcK A N o k) (h2 : -2 ≤ A.2.2.2.2.1 o k) (ho : o < N) (h : ∀ o' t', dn N t o o' t' → cm o' t' = cm2 o' t') : lkM A cm o k t = lkM A cm2 o k t := by
  unfold lkM SrcK at *
  by_cases a : A.2.2.2.2.1 o k = -1
  · rw [if_pos a, if_pos a]
  · rw [if_neg a, if_neg a]
    by_cases b : A.2.2.2.2.1 o k = -2
    · rw [if_pos b, if_pos b]
    · rw [if_neg b, if_neg b]
      by_cases c : (t : Int) - A.2.2.2.2.2 o k < 0
      · rw [if_pos c, if_pos c]
      · rw [if_neg c, if_neg c, h]
        unfold dn
        omega
/-- rows and what has come, in the class -/
def PlC (m : MM) (s : PSt) (N t o : Nat) : Prop := (∀ r p : Nat, r < 2 → p < 64 → m (136 + r) p = s.1 r p) ∧ ∀ o' t' : Nat, dn N t o o' t' → m 138 (40 * o' + t') = s.2 o' t'
def PlR (m : MM) (s : PSt) (N t o : Nat) : Prop := (∀ r p : Nat, r < 2 → p < 64 → m 165 (64 * r + p) = s.1 r p) ∧ ∀ o' t' : Nat, dn N t o o' t' → m 167 (41 * o' + t') = s.2 o' t'
def lkC (m : MM) (o k : Nat) (t : Int) : Int := lkM (acsC m) (fun o t => m 138 (40 * o + t)) o k t
def acC (m : MM) (o t : Nat) : Int := acM (acsC m) (fun r p => m (136 + r) p, fun o t => m 138 (40 * o + t)) o t
def lkR (m : MM) (o k : Nat) (t : Int) : Int := lkM (acsR m) (fun o t => m 167 (41 * o + t)) o k t
def acR (m : MM) (o t : Nat) : Int := acM (acsR m) (fun r p => m 165 (64 * r + p), fun o t => m 167 (41 * o + t)) o t
/-- one op of one turn -/
theorem acM.eq {A : Acc} {s s2 : PSt} {N t o : Nat} (ho : o < N) (hs : ¬ A.1 o = 4 → SrcK A N o 0 ∧ (¬ A.1 o = 5 → SrcK A N o 1)) (h2 : ¬ A.1 o = 4 → -2 ≤ A.2.2.2.2.1 o 0 ∧ (¬ A.1 o = 5 → -2 ≤ A.2.2.2.2.1 o 1)) (hr : A.1 o = 4 → s.1 (A.2.1 o).toNat (t + A.2.2.1 o).toNat = s2.1 (A.2.1 o).toNat (t + A.2.2.1 o).toNat) (h : ∀ o' t', dn N t o o' t' → s.2 o' t' = s2.2 o' t') : acM A s o t = acM A s2 o t := by
  unfold acM
  by_cases a : A.1 o = 4
  · rw [if_pos a, if_pos a, hr a]
  · rw [if_neg a, if_neg a]
    have q := hs a
    rw [lkM.dnq q.1 (h2 a).1 ho h]
    by_cases b : A.1 o = 5
    · rw [if_pos b, if_pos b]
    · rw [if_neg b, if_neg b, lkM.dnq (q.2 b) ((h2 a).2 b) ho h]

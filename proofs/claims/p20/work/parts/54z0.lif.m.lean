section
/-! lives and names of a plan, told by functions -/
def mxW (f : Nat → Int) : Nat → Int
  | 0 => 0
  | n + 1 => max (mxW f n) (f n)
theorem mxW_st {f : Nat → Int} {x : Int} (h : 0 ≤ x) : mxW f (x + 1).toNat = max (mxW f x.toNat) (f x.toNat) := by
  rw [show (x + 1).toNat = x.toNat + 1 by omega]
  rfl
theorem mxW_rg {f : Nat → Int} {c : Int} (hc : 0 ≤ c) : ∀ n : Nat, (∀ i, i < n → f i ≤ c) → 0 ≤ mxW f n ∧ mxW f n ≤ c
  | 0, _ => by unfold mxW; omega
  | n + 1, h => by
    have := mxW_rg hc n (fun i hi => h i (by omega))
    have := h n (by omega)
    unfold mxW; omega
theorem mxW_eq {f g : Nat → Int} : ∀ n : Nat, (∀ i, i < n → f i = g i ∨ (f i ≤ 0 ∧ g i ≤ 0)) → mxW f n = mxW g n
  | 0, _ => rfl
  | n + 1, h => by
    have r := (mxW_rg (f := f) (c := max 0 (mxW f n)) (by omega) 0 (fun i hi => by omega)).1
    have p : ∀ k : Nat, 0 ≤ mxW f k := fun k => by
      induction k with
      | zero => unfold mxW; omega
      | succ k ih => unfold mxW; omega
    have q : ∀ k : Nat, 0 ≤ mxW g k := fun k => by
      induction k with
      | zero => unfold mxW; omega
      | succ k ih => unfold mxW; omega
    have e := mxW_eq n (fun i hi => h i (by omega))
    have e2 := h n (by omega)
    have p1 := p n
    unfold mxW
    omega
theorem mxW_ge {f : Nat → Int} {i : Nat} : ∀ n : Nat, i < n → f i ≤ mxW f n
  | 0, h => absurd h (by omega)
  | n + 1, h => by
    unfold mxW
    by_cases e : i = n
    · subst e; omega
    · have := mxW_ge (f := f) n (show i < n by omega)
      omega
def lvS (cs : Nat → Int) (sa sb : Nat → Nat → Int) (T : Nat → Int) (d c : Int) (o u k : Nat) (acc : Int) : Int := if (k : Int) < cs u ∧ sa u k = (o : Int) then max acc (T u + d * sb u k - c + 1) else acc
def lvP (cs : Nat → Int) (sa sb : Nat → Nat → Int) (T : Nat → Int) (d c : Int) (o u : Nat) (acc : Int) : Nat → Int
  | 0 => acc
  | k + 1 => lvS cs sa sb T d c o u k (lvP cs sa sb T d c o u acc k)
def lvN (cs : Nat → Int) (sa sb : Nat → Nat → Int) (T : Nat → Int) (d c : Int) (o : Nat) : Nat → Int
  | 0 => 0
  | u + 1 => lvP cs sa sb T d c o u (lvN cs sa sb T d c o u) 2
def cpF (k l d : Int) : Int := if k = 5 then 0 else max 1 (upV l d)
def smF (f : Nat → Int) : Nat → Int
  | 0 => 0
  | n + 1 => smF f n + f n
def PrX (c all p : Int) : Prop := (c ≤ 0 ∧ p = c) ∨ (0 < c ∧ c ≤ p ∧ p ≤ all ∧ all % p = 0 ∧ ∀ q : Int, c ≤ q → q < p → ¬ all % q = 0)
section LIF
variable {cs : Nat → Int} {sa sb : Nat → Nat → Int} {T : Nat → Int} {d c acc : Int} {o u k : Nat}
theorem PrX.eq {all p p' : Int} (h : PrX c all p) (g : PrX c all p') : p = p' := by
  rcases h with h | ⟨h1, h2, h3, h4, h5⟩
  · rcases g with g | g
    · rw [h.2, g.2]
    · omega
  · rcases g with g | ⟨g1, g2, g3, g4, g5⟩
    · omega
    · by_cases q : p < p'
      · exact absurd h4 (g5 p h2 q)
      · by_cases q2 : p' < p
        · exact absurd g4 (h5 p' g2 q2)
        · omega
theorem lvS_no (h : ¬ ((k : Int) < cs u ∧ sa u k = (o : Int))) : lvS cs sa sb T d c o u k acc = acc := if_neg h
theorem lvS_yes (h1 : (k : Int) < cs u) (h2 : sa u k = (o : Int)) : lvS cs sa sb T d c o u k acc = max acc (T u + d * sb u k - c + 1) := if_pos ⟨h1, h2⟩
theorem lvP_out (hk : k ≤ 2) (h : cs u ≤ (k : Int)) : lvP cs sa sb T d c o u acc k = lvP cs sa sb T d c o u acc 2 := by
  by_cases e2 : k = 2
  · rw [e2]
  · have s1 : ¬ (((1 : Nat) : Int) < cs u ∧ sa u 1 = (o : Int)) := fun z => by
      have := z.1
      omega
    have e3 : lvP cs sa sb T d c o u acc 2 = lvP cs sa sb T d c o u acc 1 := lvS_no s1
    rw [e3]
    by_cases e : k = 1
    · rw [e]
    · have e0 : k = 0 := by omega
      subst e0
      exact (lvS_no (k := 0) (fun z => by
        have := z.1
        omega)).symm
theorem lvN_rg {B : Int} (hB : 0 ≤ B) : ∀ n : Nat, (∀ u k : Nat, u < n → (k : Int) < cs u → sa u k = (o : Int) → T u + d * sb u k - c + 1 ≤ B) → 0 ≤ lvN cs sa sb T d c o n ∧ lvN cs sa sb T d c o n ≤ B
  | 0, _ => ⟨Int.le_refl _, hB⟩
  | n + 1, h => by
    have g := lvN_rg hB n (fun u k hu => h u k (by omega))
    have st : ∀ (k : Nat) (a : Int), 0 ≤ a ∧ a ≤ B → 0 ≤ lvS cs sa sb T d c o n k a ∧ lvS cs sa sb T d c o n k a ≤ B := fun k a ha => by
      unfold lvS
      split
      · rename_i q
        have := h n k (by omega) q.1 q.2
        omega
      · exact ha
    exact st 1 _ (st 0 _ g)
theorem smF_cg {f g : Nat → Int} : ∀ n : Nat, (∀ i, i < n → f i = g i) → smF f n = smF g n
  | 0, _ => rfl
  | n + 1, h => by
    unfold smF
    rw [smF_cg n (fun i hi => h i (by omega)), h n (by omega)]
theorem mxW_cg {f g : Nat → Int} (n : Nat) (h : ∀ i, i < n → f i = g i) : mxW f n = mxW g n := mxW_eq n (fun i hi => Or.inl (h i hi))
end LIF
def sAC (m : MM) (u k : Nat) : Int := m 3 (4 * u + 2 * k)
def sBC (m : MM) (u k : Nat) : Int := m 3 (4 * u + 2 * k + 1)
def LvR (mem m : MM) (d : Int) (Q : Nat) (x : Int) : Prop := ∀ o : Nat, (o : Int) < mem 1 0 → m (Q + 4) o = lvN (csN mem) (sAC mem) (sBC mem) (mem (Q + 2)) d (mem (Q + 3) o) o x.toNat
def LvQ (mem m : MM) (d : Int) (Q u : Nat) (x : Int) : Prop := ∀ o : Nat, (o : Int) < mem 1 0 → m (Q + 4) o = lvP (csN mem) (sAC mem) (sBC mem) (mem (Q + 2)) d (mem (Q + 3) o) o u (lvN (csN mem) (sAC mem) (sBC mem) (mem (Q + 2)) d (mem (Q + 3) o) o u) x.toNat
def NmR (mem m : MM) (d : Int) (Q : Nat) (x : Int) : Prop := (∀ o : Nat, (o : Int) < x → m (Q + 5) o = cpF (mem 2 o) (mem (Q + 4) o) d) ∧ m Q 6 = smF (m (Q + 5)) x.toNat ∧ m Q 7 = max 1 (mxW (m (Q + 5)) x.toNat)
section LVC
variable {mem m m' : MM} {d x y z v a : Int} {Q u : Nat}
theorem LvR.inn (h : LvR mem m d Q x) : LvQ mem m d Q x.toNat 0 := fun o ho => h o ho
theorem LvQ.no (h : LvQ mem m d Q u x) (e : y = x + 1) (h0 : 0 ≤ x) (hn : mem 3 (4 * u + 2 * x.toNat) < 0) : LvQ mem m d Q u y := fun o ho => by
  rw [show y.toNat = x.toNat + 1 by omega, h o ho]
  exact (lvS_no (fun z => by have w : mem 3 (4 * u + 2 * x.toNat) = (o : Int) := z.2; omega)).symm
theorem LvQ.hit (h : LvQ mem m d Q u x) (e : y = x + 1) (h0 : 0 ≤ x) (hc : x < csN mem u) (ha : a = mem 3 (4 * u + 2 * x.toNat)) (h0a : 0 ≤ a) (hv : v = max (m (Q + 4) a.toNat) (mem (Q + 2) u + d * mem 3 (4 * u + 2 * x.toNat + 1) - mem (Q + 3) a.toNat + 1)) (em : ∀ o, m' (Q + 4) o = if o = a.toNat then v else m (Q + 4) o) : LvQ mem m' d Q u y := fun o ho => by
  rw [show y.toNat = x.toNat + 1 by omega, em]
  show _ = lvS (csN mem) (sAC mem) (sBC mem) (mem (Q + 2)) d (mem (Q + 3) o) o u x.toNat _
  rw [← h o ho]
  by_cases q : o = a.toNat
  · rw [if_pos q, lvS_yes (sa := sAC mem) (cs := csN mem) (u := u) (k := x.toNat) (by omega) (show sAC mem u x.toNat = (o : Int) from (show mem 3 (4 * u + 2 * x.toNat) = (o : Int) by omega)), hv, q]
    rfl
  · rw [if_neg q, lvS_no (fun z => q (by have w : mem 3 (4 * u + 2 * x.toNat) = (o : Int) := z.2; omega))]
theorem LvQ.out (h : LvQ mem m d Q x.toNat y) (hy : 0 ≤ y ∧ y ≤ 2) (hc : csN mem x.toNat ≤ y) (e : z = x + 1) (h0 : 0 ≤ x) : LvR mem m d Q z := fun o ho => by
  rw [show z.toNat = x.toNat + 1 by omega, h o ho]
  exact lvP_out (k := y.toNat) (by omega) (by omega)
theorem NmR.ini (h6 : m Q 6 = 0) (h7 : m Q 7 = 1) : NmR mem m d Q 0 := ⟨fun o ho => absurd ho (by omega), h6, h7⟩
theorem NmR.nxt (h : NmR mem m d Q x) (e : y = x + 1) (h0 : 0 ≤ x) (hv : v = cpF (mem 2 x.toNat) (mem (Q + 4) x.toNat) d) (e5 : ∀ o, m' (Q + 5) o = if o = x.toNat then v else m (Q + 5) o) (e6 : m' Q 6 = m Q 6 + v) (e7 : m' Q 7 = max (m Q 7) v) : NmR mem m' d Q y := by
  obtain ⟨h1, h2, h3⟩ := h
  have cg : ∀ i, i < x.toNat → m (Q + 5) i = m' (Q + 5) i := fun i hi => by rw [e5, if_neg (by omega)]
  have vv : m' (Q + 5) x.toNat = v := by rw [e5, if_pos rfl]
  refine ⟨fun o ho => ?_, ?_, ?_⟩
  · by_cases q : o = x.toNat
    · rw [q, vv, hv]
    · rw [e5, if_neg q]; exact h1 o (by omega)
  · rw [show y.toNat = x.toNat + 1 by omega]
    show _ = smF (m' (Q + 5)) x.toNat + m' (Q + 5) x.toNat
    rw [e6, h2, vv, smF_cg _ cg]
  · rw [show y.toNat = x.toNat + 1 by omega]
    show _ = max 1 (max (mxW (m' (Q + 5)) x.toNat) (m' (Q + 5) x.toNat))
    rw [e7, h3, vv, mxW_cg _ cg]
    omega
theorem NmR.cg (h : NmR mem m d Q x) (e5 : ∀ o, m' (Q + 5) o = m (Q + 5) o) (e6 : m' Q 6 = m Q 6) (e7 : m' Q 7 = m Q 7) : NmR mem m' d Q x := by
  unfold NmR
  rw [show m' (Q + 5) = m (Q + 5) from funext e5, e6, e7]
  exact h
theorem NmR.le (h : NmR mem m d Q x) {o : Nat} (ho : (o : Int) < x) : m (Q + 5) o ≤ m Q 7 := by
  have g := mxW_ge (f := m (Q + 5)) (i := o) x.toNat (by omega)
  rw [h.2.2]
  omega
def PrI (c all p : Int) : Prop := (c ≤ 0 ∧ p = c) ∨ (0 < c ∧ c ≤ p ∧ p ≤ all ∧ ∀ q : Int, c ≤ q → q < p → ¬ all % q = 0)
theorem PrI.ini {c all : Int} (h : c ≤ all) : PrI c all c := by
  by_cases q : 0 < c
  · exact Or.inr ⟨q, Int.le_refl _, h, fun r a b => by omega⟩
  · exact Or.inl ⟨by omega, rfl⟩
theorem PrI.nxt {c all p p' : Int} (h : PrI c all p) (e : p' = p + 1) (h0 : 0 < p) (hp : p < all) (hn : ¬ all % p = 0) : PrI c all p' := by
  rcases h with h | ⟨h1, h2, h3, h4⟩
  · omega
  · refine Or.inr ⟨h1, by omega, by omega, fun q a b => ?_⟩
    by_cases w : q = p
    · rw [w]; exact hn
    · exact h4 q a (by omega)
theorem PrI.fin {c all p : Int} (h : PrI c all p) (q : p ≤ 0 ∨ all ≤ p ∨ all % p = 0) : PrX c all p := by
  rcases h with h | ⟨h1, h2, h3, h4⟩
  · exact Or.inl h
  · refine Or.inr ⟨h1, h2, h3, ?_, h4⟩
    rcases q with q | q | q
    · omega
    · rw [show p = all by omega]
      exact Int.emod_self
    · exact q
theorem LvR.rg (hO : ChtOK mem Q) (hB : BodyOK mem) (hd : 1 ≤ d ∧ d ≤ 12) (h : LvR mem m d Q x) (hx : x ≤ 8) : ∀ o : Nat, (o : Int) < mem 1 0 → 0 ≤ m (Q + 4) o ∧ m (Q + 4) o ≤ 12000 := fun o ho => by
  rw [h o ho]
  have h8 := hB.1
  have c0 := (hO.2 o (by omega)).2.2
  refine lvN_rg (by omega) x.toNat (fun u k hu hk hs => ?_)
  have c2 := csN_le mem u
  have so := hB.src (o := u) (k := k) (by omega) hk
  have t := (hO.2 u (by omega)).2.1
  have sa : mem 3 (4 * u + 2 * k) = (o : Int) := hs
  have sb : sBC mem u k = mem 3 (4 * u + 2 * k + 1) := rfl
  unfold srcOK at so
  have dd := d7 (d := d) (x := mem 3 (4 * u + 2 * k + 1)) hd (by omega)
  rw [sb]
  omega
end LVC
def LnX (m : MM) (d : Int) (Q : Nat) : Prop := LvR m m d Q (m 1 0) ∧ NmR m m d Q (m 1 0) ∧ ∀ o : Nat, (o : Int) < m 1 0 → PrX (m (Q + 5) o) (m Q 7) (m (Q + 6) o)
theorem LnX.fr {m m' : MM} {d : Int} {Q : Nat} (h : LnX m d Q) (e : ∀ A i, (0 < A ∧ A < 9 ∧ ¬ A = 4) ∨ (A = Q ∧ 2 ≤ i) ∨ (Q < A ∧ A ≤ Q + 6) → m' A i = m A i) : LnX m' d Q := by
  have c1 : csN m' = csN m := funext fun o => by unfold csN; rw [e 2 o (by omega)]
  have c2 : sAC m' = sAC m := funext fun u => funext fun k => e 3 _ (by omega)
  have c3 : sBC m' = sBC m := funext fun u => funext fun k => e 3 _ (by omega)
  have r2 : m' (Q + 2) = m (Q + 2) := funext fun i => e _ i (by omega)
  have r3 : m' (Q + 3) = m (Q + 3) := funext fun i => e _ i (by omega)
  have r4 : m' (Q + 4) = m (Q + 4) := funext fun i => e _ i (by omega)
  have r5 : m' (Q + 5) = m (Q + 5) := funext fun i => e _ i (by omega)
  have r6 : m' (Q + 6) = m (Q + 6) := funext fun i => e _ i (by omega)
  have k2 : m' 2 = m 2 := funext fun i => e 2 i (by omega)
  unfold LnX LvR NmR
  rw [c1, c2, c3, r2, r3, r4, r5, r6, k2, e 1 0 (by omega), e Q 6 (by omega), e Q 7 (by omega)]
  exact h
theorem LnX.of {m0 m1 m2 : MM} {d : Int} {Q : Nat} (h1 : LvR m0 m1 d Q (m0 1 0)) (h2 : NmR m1 m2 d Q (m1 1 0)) (h3 : ∀ o : Nat, (o : Int) < m1 1 0 → PrX (m2 (Q + 5) o) (m2 Q 7) (m2 (Q + 6) o)) (F1 : Frm (pLi Q) m0 m1) (F2 : Frm (pNm Q) m1 m2) (hq : 38 ≤ Q) : LnX m2 d Q := by
  have e1 : ∀ A i, ¬ A = Q + 4 → m1 A i = m0 A i := fun A i q => F1 A i (by unfold pLi; omega)
  have e2 : ∀ A i, ¬ (A = Q ∧ (i = 6 ∨ i = 7)) → ¬ A = Q + 5 → ¬ A = Q + 6 → m2 A i = m1 A i := fun A i a b c => F2 A i (by unfold pNm; omega)
  have c1 : csN m2 = csN m0 := funext fun o => by unfold csN; rw [e2 2 o (by omega) (by omega) (by omega), e1 2 o (by omega)]
  have c2 : sAC m2 = sAC m0 := funext fun u => funext fun k => (e2 3 _ (by omega) (by omega) (by omega)).trans (e1 3 _ (by omega))
  have c3 : sBC m2 = sBC m0 := funext fun u => funext fun k => (e2 3 _ (by omega) (by omega) (by omega)).trans (e1 3 _ (by omega))
  have r2 : m2 (Q + 2) = m0 (Q + 2) := funext fun i => (e2 (Q + 2) i (by omega) (by omega) (by omega)).trans (e1 (Q + 2) i (by omega))
  have r3 : m2 (Q + 3) = m0 (Q + 3) := funext fun i => (e2 (Q + 3) i (by omega) (by omega) (by omega)).trans (e1 (Q + 3) i (by omega))
  have k1 : m2 1 0 = m1 1 0 := e2 1 0 (by omega) (by omega) (by omega)
  have k0 : m1 1 0 = m0 1 0 := e1 1 0 (by omega)
  refine ⟨fun o ho => ?_, ?_, fun o ho => h3 o (by omega)⟩
  · rw [e2 (Q + 4) o (by omega) (by omega) (by omega), c1, c2, c3, r2, r3, k1, k0]
    exact h1 o (by omega)
  · rw [k1]
    exact ⟨fun o ho => by rw [e2 2 o (by omega) (by omega) (by omega), e2 (Q + 4) o (by omega) (by omega) (by omega)]; exact h2.1 o ho, h2.2⟩
end
section
/-! laid by wip/hand/tg.py: lives and names, exactly -/
theorem f_15x {S : Nat × (Nat → Int32)} {n : Nat} {mem : MM} {K : Int → MM → Prop} {E : Nat → MM → Prop} (hB : BodyOK mem) {o k : Int} (ho : 0 ≤ o ∧ o < 8) (hk : 0 ≤ k ∧ k < csN mem o.toNat) (H : ∀ r, r = mem 3 (4 * o.toNat + 2 * k.toNat + 1) → K r mem) : CQI (Ex S (n + 1)) 15 [.inr 1, .inl o, .inl k] mem K E := by
  refine CY.of (k := 0) mt_15 rfl rfl (fun hv => ?_)
  have hC := Ex.mono S n
  have ii_o : InI o := hv (.inl o) (by simp)
  unfold InI at ii_o
  have ii_k : InI k := hv (.inl k) (by simp)
  unfold InI at ii_k
  clear hv
  have c2 := csN_le mem o.toNat
  show Tx (Ex S n) S M_15 (kI K E) 0 0 0 [some (.inr 1), some (.inl o), some (.inl k)] [] mem
  refine Tx.aload_n hC te_15_0 rfl ?_
  refine Tx.getR hC te_15_1 rfl rfl rfl ?_
  refine Tx.iload_n hC te_15_4 rfl ?_
  refine Tx.iconst hC te_15_5 rfl ?_
  refine Tx.imulW hC te_15_6 (fun z1 z1i z1e => ?_)
  unfold InI at z1i z1e
  first | replace z1e := z1e (by omega) | clear z1e
  refine Tx.iload_n hC te_15_7 rfl ?_
  refine Tx.iconst hC te_15_8 rfl ?_
  refine Tx.imulW hC te_15_9 (fun z2 z2i z2e => ?_)
  unfold InI at z2i z2e
  first | replace z2e := z2e (by omega) | clear z2e
  refine Tx.iaddW hC te_15_10 (fun z3 z3i z3e => ?_)
  unfold InI at z3i z3e
  first | replace z3e := z3e (by omega) | clear z3e
  refine Tx.iconst hC te_15_11 rfl ?_
  refine Tx.iaddW hC te_15_12 (fun z4 z4i z4e => ?_)
  unfold InI at z4i z4e
  first | replace z4e := z4e (by omega) | clear z4e
  refine Tx.iald hC te_15_13 rfl (by omega) (fun v5 v5e v5i => ?_)
  unfold InI at v5i
  exact Tx.ireturn hC te_15_14 rfl (fun hr => show K v5 mem from H _ (by rw [v5e]; congr 1; omega))
theorem f_33y {S : Nat × (Nat → Int32)} {n : Nat} {mem : MM} {K : Int → MM → Prop} {E : Nat → MM → Prop} {a b : Int} (ha : 0 ≤ a) (hb : 0 < b) (H : ∀ r, r = upV a b → K r mem) : CQI (Ex S (n + 2)) 33 [.inl a, .inl b] mem K E := by
  refine CY.of (k := 0) mt_33 rfl rfl (fun hv => ?_)
  have hC := Ex.mono S (n + 1)
  have ii_a : InI a := hv (.inl a) (by simp)
  unfold InI at ii_a
  have ii_b : InI b := hv (.inl b) (by simp)
  unfold InI at ii_b
  clear hv
  show Tx (Ex S (n + 1)) S M_33 (kI K E) 0 0 0 [some (.inl a), some (.inl b)] [] mem
  refine Tx.iload_n hC te_33_0 rfl ?_
  refine Tx.ifc hC (t := 8) te_33_1 (by decide) (fun q1 => ?_) (fun q1 => ?_)
  · replace q1 : 0 < (b : Int) := q1
    refine Tx.iload_n hC te_33_8 rfl ?_
    refine Tx.inegW hC te_33_9 (fun z2 z2i z2e => ?_)
    unfold InI at z2i z2e
    refine Tx.iload_n hC te_33_10 rfl ?_
    refine Tx.statI hC te_33_11 (by decide) mt_34 (args := [.inl z2, .inl b]) (rest := []) (c' := 0) (s' := 0) rfl rfl rfl rfl rfl rfl rfl ?_
    refine f_34 (by omega) (fun r3 r3a r3b r3i => ?_)
    unfold InI at r3i
    refine Tx.inegW hC te_33_14 (fun z6 z6i z6e => ?_)
    unfold InI at z6i z6e
    exact Tx.ireturn hC te_33_15 rfl (fun hr => show K z6 mem from H z6 (ru_fin0 (by omega) ha (z2e (by omega)) (by have := z2e (by omega); omega) r3a r3b (by omega) (by omega) z6e))
  · replace q1 : ¬ (0 < (b : Int)) := q1
    refine Tx.iconst hC te_33_4 rfl ?_
    refine Tx.goto hC (t := 15) te_33_5 (by decide) ?_
    exact Tx.ireturn hC te_33_15 rfl (fun hr => show K 0 mem from H 0 (by omega))
set_option maxHeartbeats 1000000 in
theorem f_109e {S : Nat × (Nat → Int32)} {n : Nat} {mem : MM} {K : MM → Prop} {E : Nat → MM → Prop} {Q : Nat} (hQ : ChSh Q) (hO : ChtOK mem Q) (hB : BodyOK mem) {d : Int} (hd : 1 ≤ d ∧ d ≤ 12) (h3 : mem Q 3 = d) (h2 : mem Q 2 = mem 1 0) (H : ∀ m', Frm (pLi Q) mem m' → LvR mem m' d Q (mem 1 0) → K m') : CQV (Ex S (n + 2)) 109 [.inr Q, .inr 1] mem K E := by
  refine CY.of (k := 4) mt_109 rfl rfl (fun hv => ?_)
  have hC := Ex.mono S (n + 1)
  clear hv
  have hq8 := hQ.rg
  have hO1 := hO.1
  have h8 := hB.1
  show Tx (Ex S (n + 1)) S M_109 (kV K E) 0 0 0 [some (.inr Q), some (.inr 1), none, none, none, none] [] mem
  have l_10 : ∀ (N : Nat) (x2 : Int) (m_10 : MM), (0 ≤ x2 ∧ x2 ≤ mem 1 0) → (LvR mem m_10 d Q x2) → ((8 - x2).toNat) < N → Frm (pLi Q) mem m_10 → Tx (Ex S (n + 1)) S M_109 (kV K E) 0 0 10 [some (.inr Q), some (.inr 1), some (.inl x2), none, none, none] [] m_10 := by
    intro N
    induction N with
    | zero => intros; omega
    | succ N ih_10 =>
      intro x2 m_10 i10_0 i10_1 hN_10 hF_10
      have l_20 : ∀ (N : Nat) (x3 : Int) (m_20 : MM), (0 ≤ x3 ∧ x3 ≤ 2) → (0 ≤ x2 ∧ x2 < mem 1 0) → (LvQ mem m_20 d Q x2.toNat x3) → ((3 - x3).toNat) < N → Frm (pLi Q) mem m_20 → Tx (Ex S (n + 1)) S M_109 (kV K E) 0 0 20 [some (.inr Q), some (.inr 1), some (.inl x2), some (.inl x3), none, none] [] m_20 := by
        intro N
        induction N with
        | zero => intros; omega
        | succ N ih_20 =>
          intro x3 m_20 i20_0 i20_1 i20_2 hN_20 hF_20
          have cr := csN_le mem x2.toNat
          refine Tx.iload_n hC te_109_20 rfl ?_
          refine Tx.aload_n hC te_109_21 rfl ?_
          refine Tx.iload_n hC te_109_22 rfl ?_
          refine Tx.virtI hC te_109_23 mt_13 (args := [.inr 1, .inl x2]) (rest := [.inl x3]) (c' := 0) (s' := 0) rfl rfl rfl rfl rfl rfl rfl rfl rfl rfl ?_
          refine f_13q (by omega) (fun r1 r1e r1a r1b r1i => ?_)
          have c13 : r1 = csN mem x2.toNat := by rw [r1e]; unfold csN; rw [hF_20 2 _ (by unfold pLi; omega)]
          unfold InI at r1i
          refine Tx.icmp hC (t := 97) te_109_26 (by decide) (fun q4 => ?_) (fun q4 => ?_)
          · replace q4 : r1 ≤ (x3 : Int) := q4
            refine Tx.iincW hC te_109_97 rfl rfl (fun z5 z5i z5e => ?_)
            unfold InI at z5i z5e
            first | replace z5e := z5e (by omega) | clear z5e
            refine Tx.goto hC (t := 10) te_109_100 (by decide) ?_
            exact Tx.weak (by repeat' (first | exact trivial | exact rfl | constructor)) (ih_10 z5 m_20 (by omega) (by
              first
              | exact LvQ.out i20_2 (by omega) (by omega) (by omega) (by omega)
              | exact (fun o ho => Xz o (by omega))) (by omega) hF_20)
          · replace q4 : ¬ (r1 ≤ (x3 : Int)) := q4
            refine Tx.aload_n hC te_109_29 rfl ?_
            refine Tx.iload_n hC te_109_30 rfl ?_
            refine Tx.iload_n hC te_109_31 rfl ?_
            refine Tx.virtI hC te_109_32 mt_14 (args := [.inr 1, .inl x2, .inl x3]) (rest := []) (c' := 0) (s' := 0) rfl rfl rfl rfl rfl rfl rfl rfl rfl rfl ?_
            have k14 : csN m_20 x2.toNat = csN mem x2.toNat := by unfold csN; rw [hF_20 2 _ (by unfold pLi; omega)]
            refine f_14s (hB.fr (fun A i a b => hF_20 A i (by unfold pLi; omega))) (by omega) (by omega) (fun r6 r6e r6a r6b r6i => ?_)
            have s14 : r6 = mem 3 (4 * x2.toNat + 2 * x3.toNat) := by rw [r6e, hF_20 3 _ (by unfold pLi; omega)]
            have so := hB.src (o := x2.toNat) (k := x3.toNat) (by omega) (by omega)
            unfold srcOK at so
            unfold InI at r6i
            refine Tx.istore hC te_109_35 rfl ?_
            refine Tx.iload hC te_109_37 rfl ?_
            refine Tx.ifc hC (t := 91) te_109_39 (by decide) (fun q9 => ?_) (fun q9 => ?_)
            · replace q9 : (r6 : Int) < 0 := q9
              refine Tx.iincW hC te_109_91 rfl rfl (fun z10 z10i z10e => ?_)
              unfold InI at z10i z10e
              first | replace z10e := z10e (by omega) | clear z10e
              refine Tx.goto hC (t := 20) te_109_94 (by decide) ?_
              exact Tx.weak (by repeat' (first | exact trivial | exact rfl | constructor)) (ih_20 z10 m_20 (by omega) (by omega) (by
                first
                | exact i10_1.inn
                | exact LvQ.no i20_2 (by omega) (by omega) (by omega)
                | exact LvQ.hit i20_2 (by omega) (by omega) (by omega) s14 (by omega) hv em) (by omega) hF_20)
            · replace q9 : ¬ ((r6 : Int) < 0) := q9
              refine Tx.aload_n hC te_109_42 rfl ?_
              refine Tx.getR hC te_109_43 hQ.s0 rfl rfl ?_
              refine Tx.iload_n hC te_109_46 rfl ?_
              refine Tx.iald hC te_109_47 hQ.s2 (by omega) (fun v11 v11e v11i => ?_)
              unfold InI at v11i
              rw [hF_20 (Q + 2) _ (by unfold pLi; omega)] at v11e
              have f12 := hO.2 (Int.toNat x2) (by omega)
              refine Tx.aload_n hC te_109_48 rfl ?_
              refine Tx.getI hC te_109_49 hQ.s0 rfl rfl (fun v13 v13e v13i => ?_)
              unfold InI at v13i
              rw [hF_20 Q _ (by unfold pLi; omega)] at v13e
              refine Tx.aload_n hC te_109_52 rfl ?_
              refine Tx.iload_n hC te_109_53 rfl ?_
              refine Tx.iload_n hC te_109_54 rfl ?_
              refine Tx.virtI hC te_109_55 mt_15 (args := [.inr 1, .inl x2, .inl x3]) (rest := [.inl v13, .inl v11]) (c' := 0) (s' := 0) rfl rfl rfl rfl rfl rfl rfl rfl rfl rfl ?_
              refine f_15x (hB.fr (fun A i a b => hF_20 A i (by unfold pLi; omega))) (by omega) (by omega) (fun r14 r14e r14i => ?_)
              have s15 : r14 = mem 3 (4 * x2.toNat + 2 * x3.toNat + 1) := by rw [r14e, hF_20 3 _ (by unfold pLi; omega)]
              have dd := d7 (d := mem Q 3) (x := r14) (by omega) (by omega)
              unfold InI at r14i
              have v13x : v13 * r14 = mem Q 3 * r14 := by rw [show v13 = mem Q 3 by omega]
              refine Tx.imulW hC te_109_58 (fun z17 z17i z17e => ?_)
              unfold InI at z17i z17e
              first | replace z17e := z17e (by omega) | clear z17e
              have zx : z17 = d * mem 3 (4 * x2.toNat + 2 * x3.toNat + 1) := by rw [← h3, ← s15, ← v13x]; omega
              refine Tx.iaddW hC te_109_59 (fun z18 z18i z18e => ?_)
              unfold InI at z18i z18e
              first | replace z18e := z18e (by omega) | clear z18e
              refine Tx.istore hC te_109_60 rfl ?_
              refine Tx.aload_n hC te_109_62 rfl ?_
              refine Tx.getR hC te_109_63 hQ.s0 rfl rfl ?_
              refine Tx.iload hC te_109_66 rfl ?_
              refine Tx.aload_n hC te_109_68 rfl ?_
              refine Tx.getR hC te_109_69 hQ.s0 rfl rfl ?_
              refine Tx.iload hC te_109_72 rfl ?_
              refine Tx.iald hC te_109_74 hQ.s4 (by omega) (fun v19 v19e v19i => ?_)
              unfold InI at v19i
              refine Tx.iload hC te_109_75 rfl ?_
              refine Tx.aload_n hC te_109_77 rfl ?_
              refine Tx.getR hC te_109_78 hQ.s0 rfl rfl ?_
              refine Tx.iload hC te_109_81 rfl ?_
              refine Tx.iald hC te_109_83 hQ.s3 (by omega) (fun v20 v20e v20i => ?_)
              unfold InI at v20i
              rw [hF_20 (Q + 3) _ (by unfold pLi; omega)] at v20e
              have f21 := hO.2 (Int.toNat r6) (by omega)
              refine Tx.isubW hC te_109_84 (fun z22 z22i z22e => ?_)
              unfold InI at z22i z22e
              first | replace z22e := z22e (by omega) | clear z22e
              refine Tx.iconst hC te_109_85 rfl ?_
              refine Tx.iaddW hC te_109_86 (fun z23 z23i z23e => ?_)
              unfold InI at z23i z23e
              first | replace z23e := z23e (by omega) | clear z23e
              refine Tx.statI hC te_109_87 (by decide) mt_40 (args := [.inl v19, .inl z23]) (rest := [.inl r6, .inr (Q + 4)]) (c' := 0) (s' := 0) rfl rfl rfl rfl rfl rfl rfl ?_
              refine f_40q (fun r24 r24a r24b r24c r24i => ?_)
              unfold InI at r24i
              have hv : r24 = max (m_20 (Q + 4) r6.toNat) (mem (Q + 2) x2.toNat + d * mem 3 (4 * x2.toNat + 2 * x3.toNat + 1) - mem (Q + 3) r6.toNat + 1) := by omega
              have em : ∀ o, upm m_20 (Q + 4) r6.toNat r24 (Q + 4) o = if o = r6.toNat then r24 else m_20 (Q + 4) o := fun o => by
                by_cases q : o = r6.toNat
                · rw [if_pos q, q]; exact upm_eq
                · rw [if_neg q]; exact upm_ne (by omega)
              refine Tx.iast hC te_109_90 hQ.s4 (by omega) ?_
              have hF28 : Frm (pLi Q) mem (upm m_20 (Q + 4) (Int.toNat r6) r24) := Frm.up hF_20 (by unfold pLi; omega)
              refine Tx.iincW hC te_109_91 rfl rfl (fun z29 z29i z29e => ?_)
              unfold InI at z29i z29e
              first | replace z29e := z29e (by omega) | clear z29e
              refine Tx.goto hC (t := 20) te_109_94 (by decide) ?_
              exact Tx.weak (by repeat' (first | exact trivial | exact rfl | constructor)) (ih_20 z29 (upm m_20 (Q + 4) (Int.toNat r6) r24) (by omega) (by omega) (by
                first
                | exact i10_1.inn
                | exact LvQ.no i20_2 (by omega) (by omega) (by omega)
                | exact LvQ.hit i20_2 (by omega) (by omega) (by omega) s14 (by omega) hv em) (by omega) hF28)
      refine Tx.iload_n hC te_109_10 rfl ?_
      refine Tx.aload_n hC te_109_11 rfl ?_
      refine Tx.getI hC te_109_12 hQ.s0 rfl rfl (fun v30 v30e v30i => ?_)
      unfold InI at v30i
      rw [hF_10 Q _ (by unfold pLi; omega)] at v30e
      refine Tx.icmp hC (t := 103) te_109_15 (by decide) (fun q31 => ?_) (fun q31 => ?_)
      · replace q31 : v30 ≤ (x2 : Int) := q31
        exact Tx.vret hC te_109_103 rfl (show K m_10 from H _ hF_10 (by rw [show mem 1 0 = x2 by omega]; exact i10_1))
      · replace q31 : ¬ (v30 ≤ (x2 : Int)) := q31
        refine Tx.iconst hC te_109_18 rfl ?_
        refine Tx.istore_n hC te_109_19 rfl ?_
        exact l_20 _ 0 m_10 (by omega) (by omega) (by
          first
          | exact i10_1.inn
          | exact LvQ.no i20_2 (by omega) (by omega) (by omega)
          | exact LvQ.hit i20_2 (by omega) (by omega) (by omega) s14 (by omega) hv em) (Nat.lt_succ_self _) hF_10
  refine Tx.aload_n hC te_109_0 rfl ?_
  refine Tx.getR hC te_109_1 hQ.s0 rfl rfl ?_
  refine Tx.iconst hC te_109_4 rfl ?_
  refine Tx.statV hC te_109_5 (by decide) mt_76 (args := [.inr (Q + 4), .inl 0]) (rest := []) (c' := 0) (s' := 0) rfl rfl rfl rfl rfl rfl rfl ?_
  refine f_76r (Z := Q + 4) (zn := 8) hQ.s4 (by omega) (fun m33 m33F m33z => ?_)
  have hF34n : Frm (pLi Q) mem m33 := m33F.mono (fun A i q => by unfold pRw at q; unfold pLi; exact q)
  refine Tx.iconst hC te_109_8 rfl ?_
  refine Tx.istore_n hC te_109_9 rfl ?_
  exact l_10 _ 0 m33 (by omega) (by
    first
    | exact LvQ.out i20_2 (by omega) (by omega) (by omega) (by omega)
    | exact (fun o ho => m33z o (by omega))) (Nat.lt_succ_self _) hF34n
set_option maxHeartbeats 2000000 in
theorem f_110e {S : Nat × (Nat → Int32)} {n : Nat} {mem : MM} {K : MM → Prop} {E : Nat → MM → Prop} {Q : Nat} (hQ : ChSh Q) (hO : ChtOK mem Q) (hB : BodyOK mem) {d : Int} (hd : 1 ≤ d ∧ d ≤ 12) (h3 : mem Q 3 = d) (h2 : mem Q 2 = mem 1 0) (hl : ∀ o : Nat, (o : Int) < mem 1 0 → 0 ≤ mem (Q + 4) o ∧ mem (Q + 4) o ≤ 12000) (H : ∀ m', Frm (pNm Q) mem m' → NmR mem m' d Q (mem 1 0) → (∀ o : Nat, (o : Int) < mem 1 0 → PrX (m' (Q + 5) o) (m' Q 7) (m' (Q + 6) o)) → K m') : CQV (Ex S (n + 3)) 110 [.inr Q, .inr 1] mem K E := by
  refine CY.of (k := 2) mt_110 rfl rfl (fun hv => ?_)
  have hC := Ex.mono S (n + 2)
  clear hv
  have hq8 := hQ.rg
  have hO1 := hO.1
  have h8 := hB.1
  show Tx (Ex S (n + 2)) S M_110 (kV K E) 0 0 0 [some (.inr Q), some (.inr 1), none, none] [] mem
  have l_107 : ∀ (N : Nat) (x2 : Int) (m_107 : MM), (0 ≤ x2 ∧ x2 ≤ mem 1 0) → (NmR mem m_107 d Q (mem 1 0)) → (1 ≤ m_107 Q 7 ∧ m_107 Q 7 ≤ 12000) → (∀ o : Nat, (o : Int) < x2 → PrX (m_107 (Q + 5) o) (m_107 Q 7) (m_107 (Q + 6) o)) → ((8 - x2).toNat) < N → Frm (pNm Q) mem m_107 → Tx (Ex S (n + 2)) S M_110 (kV K E) 0 0 107 [some (.inr Q), some (.inr 1), some (.inl x2), none] [] m_107 := by
    intro N
    induction N with
    | zero => intros; omega
    | succ N ih_107 =>
      intro x2 m_107 i107_0 i107_1 i107_2 i107_3 hN_107 hF_107
      have l_127 : ∀ (N : Nat) (m_127 : MM), (0 ≤ x2 ∧ x2 < mem 1 0) → (NmR mem m_127 d Q (mem 1 0)) → (1 ≤ m_127 Q 7 ∧ m_127 Q 7 ≤ 12000) → (∀ o : Nat, (o : Int) < x2 → PrX (m_127 (Q + 5) o) (m_127 Q 7) (m_127 (Q + 6) o)) → (PrI (m_127 (Q + 5) x2.toNat) (m_127 Q 7) (m_127 (Q + 6) x2.toNat)) → ((m_127 Q 7 - m_127 (Q + 6) (Int.toNat x2)).toNat) < N → Frm (pNm Q) mem m_127 → Tx (Ex S (n + 2)) S M_110 (kV K E) 0 0 127 [some (.inr Q), some (.inr 1), some (.inl x2), none] [] m_127 := by
        intro N
        induction N with
        | zero => intros; omega
        | succ N ih_127 =>
          intro m_127 i127_0 i127_1 i127_2 i127_3 i127_4 hN_127 hF_127
          refine Tx.aload_n hC te_110_127 rfl ?_
          refine Tx.getR hC te_110_128 hQ.s0 rfl rfl ?_
          refine Tx.iload_n hC te_110_131 rfl ?_
          refine Tx.iald hC te_110_132 hQ.s6 (by omega) (fun v1 v1e v1i => ?_)
          unfold InI at v1i
          refine Tx.ifc hC (t := 176) te_110_133 (by decide) (fun q2 => ?_) (fun q2 => ?_)
          · replace q2 : (v1 : Int) ≤ 0 := q2
            refine Tx.iincW hC te_110_176 rfl rfl (fun z3 z3i z3e => ?_)
            unfold InI at z3i z3e
            first | replace z3e := z3e (by omega) | clear z3e
            refine Tx.goto hC (t := 107) te_110_179 (by decide) ?_
            exact ih_107 z3 m_127 (by omega) (by first | exact i127_1 | (rw [show mem 1 0 = x2 by omega]; exact i12_1)) (by first | exact i127_2 | exact i12_3) (by
              intro o ho
              first
              | (exfalso; omega)
              | (by_cases q : (o : Int) < x2
                 · exact i127_3 o q
                 · rw [show o = x2.toNat by omega]
                   exact i127_4.fin (by omega))) (by omega) hF_127
          · replace q2 : ¬ ((v1 : Int) ≤ 0) := q2
            refine Tx.aload_n hC te_110_136 rfl ?_
            refine Tx.getR hC te_110_137 hQ.s0 rfl rfl ?_
            refine Tx.iload_n hC te_110_140 rfl ?_
            refine Tx.iald hC te_110_141 hQ.s6 (by omega) (fun v4 v4e v4i => ?_)
            unfold InI at v4i
            refine Tx.aload_n hC te_110_142 rfl ?_
            refine Tx.getI hC te_110_143 hQ.s0 rfl rfl (fun v5 v5e v5i => ?_)
            unfold InI at v5i
            refine Tx.icmp hC (t := 176) te_110_146 (by decide) (fun q6 => ?_) (fun q6 => ?_)
            · replace q6 : v5 ≤ (v4 : Int) := q6
              refine Tx.iincW hC te_110_176 rfl rfl (fun z7 z7i z7e => ?_)
              unfold InI at z7i z7e
              first | replace z7e := z7e (by omega) | clear z7e
              refine Tx.goto hC (t := 107) te_110_179 (by decide) ?_
              exact ih_107 z7 m_127 (by omega) (by first | exact i127_1 | (rw [show mem 1 0 = x2 by omega]; exact i12_1)) (by first | exact i127_2 | exact i12_3) (by
                intro o ho
                first
                | (exfalso; omega)
                | (by_cases q : (o : Int) < x2
                   · exact i127_3 o q
                   · rw [show o = x2.toNat by omega]
                     exact i127_4.fin (by omega))) (by omega) hF_127
            · replace q6 : ¬ (v5 ≤ (v4 : Int)) := q6
              refine Tx.aload_n hC te_110_149 rfl ?_
              refine Tx.getI hC te_110_150 hQ.s0 rfl rfl (fun v8 v8e v8i => ?_)
              unfold InI at v8i
              refine Tx.aload_n hC te_110_153 rfl ?_
              refine Tx.getR hC te_110_154 hQ.s0 rfl rfl ?_
              refine Tx.iload_n hC te_110_157 rfl ?_
              refine Tx.iald hC te_110_158 hQ.s6 (by omega) (fun v9 v9e v9i => ?_)
              unfold InI at v9i
              refine Tx.iremW hC te_110_159 (by omega) (fun z10 z10i z10e z10f => ?_)
              unfold InI at z10i
              have zm : z10 = m_127 Q 7 % m_127 (Q + 6) x2.toNat := by rw [z10e, v8e, v9e, Int.tmod_eq_emod_of_nonneg (by omega)]
              refine Tx.ifc hC (t := 176) te_110_160 (by decide) (fun q11 => ?_) (fun q11 => ?_)
              · replace q11 : (z10 : Int) = 0 := q11
                refine Tx.iincW hC te_110_176 rfl rfl (fun z12 z12i z12e => ?_)
                unfold InI at z12i z12e
                first | replace z12e := z12e (by omega) | clear z12e
                refine Tx.goto hC (t := 107) te_110_179 (by decide) ?_
                exact ih_107 z12 m_127 (by omega) (by first | exact i127_1 | (rw [show mem 1 0 = x2 by omega]; exact i12_1)) (by first | exact i127_2 | exact i12_3) (by
                  intro o ho
                  first
                  | (exfalso; omega)
                  | (by_cases q : (o : Int) < x2
                     · exact i127_3 o q
                     · rw [show o = x2.toNat by omega]
                       exact i127_4.fin (by omega))) (by omega) hF_127
              · replace q11 : ¬ ((z10 : Int) = 0) := q11
                refine Tx.aload_n hC te_110_163 rfl ?_
                refine Tx.getR hC te_110_164 hQ.s0 rfl rfl ?_
                refine Tx.iload_n hC te_110_167 rfl ?_
                refine Tx.dup2 hC te_110_168 ?_
                refine Tx.iald hC te_110_169 hQ.s6 (by omega) (fun v13 v13e v13i => ?_)
                unfold InI at v13i
                refine Tx.iconst hC te_110_170 rfl ?_
                refine Tx.iaddW hC te_110_171 (fun z14 z14i z14e => ?_)
                unfold InI at z14i z14e
                first | replace z14e := z14e (by omega) | clear z14e
                refine Tx.iast hC te_110_172 hQ.s6 (by omega) ?_
                have hF16 : Frm (pNm Q) mem (upm m_127 (Q + 6) (Int.toNat x2) z14) := Frm.up hF_127 (by unfold pNm; omega)
                have m15e : (upm m_127 (Q + 6) (Int.toNat x2) z14) (Q + 6) (Int.toNat x2) = z14 := upm_eq
                have m15n : ∀ B j, ¬ (B = (Q + 6) ∧ j = (Int.toNat x2)) → (upm m_127 (Q + 6) (Int.toNat x2) z14) B j = m_127 B j := fun B j q => upm_ne q
                generalize upm m_127 (Q + 6) (Int.toNat x2) z14 = m15 at hF16 m15e m15n ⊢
                refine Tx.goto hC (t := 127) te_110_173 (by decide) ?_
                exact ih_127 m15 (by omega) (by first | exact NmR.cg i107_1 (fun o => m15n _ _ (by omega)) (m15n _ _ (by omega)) (m15n _ _ (by omega)) | exact NmR.cg i127_1 (fun o => m15n _ _ (by omega)) (m15n _ _ (by omega)) (m15n _ _ (by omega))) (by first | (rw [m15n Q 7 (by omega)]; exact i107_2) | (rw [m15n Q 7 (by omega)]; exact i127_2)) (by
                  intro o ho
                  rw [m15n (Q + 5) o (by omega), m15n Q 7 (by omega), m15n (Q + 6) o (by omega)]
                  first
                  | exact i107_3 o ho
                  | exact i127_3 o ho) (by
                  rw [m15n (Q + 5) _ (by omega), m15n Q 7 (by omega)]
                  first
                  | (rw [m15e, v19e]; exact PrI.ini (i107_1.le (by omega)))
                  | exact PrI.nxt i127_4 (by omega) (by omega) (by omega) (by omega)) (by rw [m15n Q 7 (by omega), m15e]; omega) hF16
      refine Tx.iload_n hC te_110_107 rfl ?_
      refine Tx.aload_n hC te_110_108 rfl ?_
      refine Tx.getI hC te_110_109 hQ.s0 rfl rfl (fun v17 v17e v17i => ?_)
      unfold InI at v17i
      rw [hF_107 Q _ (by unfold pNm; omega)] at v17e
      refine Tx.icmp hC (t := 182) te_110_112 (by decide) (fun q18 => ?_) (fun q18 => ?_)
      · replace q18 : v17 ≤ (x2 : Int) := q18
        exact Tx.vret hC te_110_182 rfl (show K m_107 from H _ hF_107 i107_1 (fun o ho => i107_3 o (by omega)))
      · replace q18 : ¬ (v17 ≤ (x2 : Int)) := q18
        refine Tx.aload_n hC te_110_115 rfl ?_
        refine Tx.getR hC te_110_116 hQ.s0 rfl rfl ?_
        refine Tx.iload_n hC te_110_119 rfl ?_
        refine Tx.aload_n hC te_110_120 rfl ?_
        refine Tx.getR hC te_110_121 hQ.s0 rfl rfl ?_
        refine Tx.iload_n hC te_110_124 rfl ?_
        refine Tx.iald hC te_110_125 hQ.s5 (by omega) (fun v19 v19e v19i => ?_)
        unfold InI at v19i
        refine Tx.iast hC te_110_126 hQ.s6 (by omega) ?_
        have hF21 : Frm (pNm Q) mem (upm m_107 (Q + 6) (Int.toNat x2) v19) := Frm.up hF_107 (by unfold pNm; omega)
        have m20e : (upm m_107 (Q + 6) (Int.toNat x2) v19) (Q + 6) (Int.toNat x2) = v19 := upm_eq
        have m20n : ∀ B j, ¬ (B = (Q + 6) ∧ j = (Int.toNat x2)) → (upm m_107 (Q + 6) (Int.toNat x2) v19) B j = m_107 B j := fun B j q => upm_ne q
        generalize upm m_107 (Q + 6) (Int.toNat x2) v19 = m20 at hF21 m20e m20n ⊢
        exact l_127 _ m20 (by omega) (by first | exact NmR.cg i107_1 (fun o => m20n _ _ (by omega)) (m20n _ _ (by omega)) (m20n _ _ (by omega)) | exact NmR.cg i127_1 (fun o => m20n _ _ (by omega)) (m20n _ _ (by omega)) (m20n _ _ (by omega))) (by first | (rw [m20n Q 7 (by omega)]; exact i107_2) | (rw [m20n Q 7 (by omega)]; exact i127_2)) (by
          intro o ho
          rw [m20n (Q + 5) o (by omega), m20n Q 7 (by omega), m20n (Q + 6) o (by omega)]
          first
          | exact i107_3 o ho
          | exact i127_3 o ho) (by
          rw [m20n (Q + 5) _ (by omega), m20n Q 7 (by omega)]
          first
          | (rw [m20e, v19e]; exact PrI.ini (i107_1.le (by omega)))
          | exact PrI.nxt i127_4 (by omega) (by omega) (by omega) (by omega)) (Nat.lt_succ_self _) hF21
  have l_12 : ∀ (N : Nat) (x2 : Int) (m_12 : MM), (0 ≤ x2 ∧ x2 ≤ mem 1 0) → (NmR mem m_12 d Q x2) → (0 ≤ m_12 Q 6 ∧ m_12 Q 6 ≤ 12000 * x2) → (1 ≤ m_12 Q 7 ∧ m_12 Q 7 ≤ 12000) → ((8 - x2).toNat) < N → Frm (pNm Q) mem m_12 → Tx (Ex S (n + 2)) S M_110 (kV K E) 0 0 12 [some (.inr Q), some (.inr 1), some (.inl x2), none] [] m_12 := by
    intro N
    induction N with
    | zero => intros; omega
    | succ N ih_12 =>
      intro x2 m_12 i12_0 i12_1 i12_2 i12_3 hN_12 hF_12
      refine Tx.iload_n hC te_110_12 rfl ?_
      refine Tx.aload_n hC te_110_13 rfl ?_
      refine Tx.getI hC te_110_14 hQ.s0 rfl rfl (fun v22 v22e v22i => ?_)
      unfold InI at v22i
      rw [hF_12 Q _ (by unfold pNm; omega)] at v22e
      refine Tx.icmp hC (t := 105) te_110_17 (by decide) (fun q23 => ?_) (fun q23 => ?_)
      · replace q23 : v22 ≤ (x2 : Int) := q23
        refine Tx.iconst hC te_110_105 rfl ?_
        refine Tx.istore_n hC te_110_106 rfl ?_
        exact l_107 _ 0 m_12 (by omega) (by first | exact i127_1 | (rw [show mem 1 0 = x2 by omega]; exact i12_1)) (by first | exact i127_2 | exact i12_3) (by
          intro o ho
          first
          | (exfalso; omega)
          | (by_cases q : (o : Int) < x2
             · exact i127_3 o q
             · rw [show o = x2.toNat by omega]
               exact i127_4.fin (by omega))) (Nat.lt_succ_self _) hF_12
      · replace q23 : ¬ (v22 ≤ (x2 : Int)) := q23
        refine Tx.aload_n hC te_110_20 rfl ?_
        refine Tx.getR hC te_110_21 rfl rfl rfl ?_
        refine Tx.iload_n hC te_110_24 rfl ?_
        refine Tx.iald hC te_110_25 rfl (by omega) (fun v24 v24e v24i => ?_)
        unfold InI at v24i
        rw [hF_12 2 _ (by unfold pNm; omega)] at v24e
        refine Tx.iconst hC te_110_26 rfl ?_
        refine Tx.icmp hC (t := 34) te_110_27 (by decide) (fun q25 => ?_) (fun q25 => ?_)
        · replace q25 : ¬ (v24 : Int) = 5 := q25
          refine Tx.iconst hC te_110_34 rfl ?_
          refine Tx.istore_n hC te_110_35 rfl ?_
          refine Tx.aload_n hC te_110_36 rfl ?_
          refine Tx.getR hC te_110_37 hQ.s0 rfl rfl ?_
          refine Tx.iload_n hC te_110_40 rfl ?_
          refine Tx.iload_n hC te_110_41 rfl ?_
          refine Tx.ifc hC (t := 49) te_110_42 (by decide) (fun q => ?_) (fun q => absurd (show (0 : Int) = 0 by decide) q)
          refine Tx.iconst hC te_110_49 rfl ?_
          refine Tx.aload_n hC te_110_50 rfl ?_
          refine Tx.getR hC te_110_51 hQ.s0 rfl rfl ?_
          refine Tx.iload_n hC te_110_54 rfl ?_
          refine Tx.iald hC te_110_55 hQ.s4 (by omega) (fun v26 v26e v26i => ?_)
          unfold InI at v26i
          rw [hF_12 (Q + 4) _ (by unfold pNm; omega)] at v26e
          have f27 := hl (Int.toNat x2) (by omega)
          refine Tx.aload_n hC te_110_56 rfl ?_
          refine Tx.getI hC te_110_57 hQ.s0 rfl rfl (fun v28 v28e v28i => ?_)
          unfold InI at v28i
          rw [hF_12 Q _ (by unfold pNm; omega)] at v28e
          refine Tx.statI hC te_110_60 (by decide) mt_33 (args := [.inl v26, .inl v28]) (rest := [.inl 1, .inl x2, .inr (Q + 5)]) (c' := 0) (s' := 0) rfl rfl rfl rfl rfl rfl rfl ?_
          have hl2 := hl x2.toNat (by omega)
          refine f_33y (by omega) (by omega) (fun r29 r29e r29i => ?_)
          have rg29 := upV_rg (a := v26) (b := v28) (by omega) (by omega)
          unfold InI at r29i
          refine Tx.statI hC te_110_63 (by decide) mt_40 (args := [.inl 1, .inl r29]) (rest := [.inl x2, .inr (Q + 5)]) (c' := 0) (s' := 0) rfl rfl rfl rfl rfl rfl rfl ?_
          refine f_40q (fun r32 r32a r32b r32c r32i => ?_)
          unfold InI at r32i
          obtain ⟨cv, cve⟩ : ∃ z : Int, z = r32 := ⟨_, rfl⟩
          have cpv : cv = cpF (mem 2 x2.toNat) (mem (Q + 4) x2.toNat) d := by
            rw [cve]
            unfold cpF
            first
            | rw [if_pos (by omega)]
            | (rw [if_neg (by omega), ← h3, ← v28e, ← v26e, ← r29e]
               omega)
          have cpr : 0 ≤ cv ∧ cv ≤ 12000 := by omega
          refine Tx.iast hC te_110_66 hQ.s5 (by omega) ?_
          have hF36 : Frm (pNm Q) mem (upm m_12 (Q + 5) (Int.toNat x2) r32) := Frm.up hF_12 (by unfold pNm; omega)
          have m35e : (upm m_12 (Q + 5) (Int.toNat x2) r32) (Q + 5) (Int.toNat x2) = r32 := upm_eq
          have m35n : ∀ B j, ¬ (B = (Q + 5) ∧ j = (Int.toNat x2)) → (upm m_12 (Q + 5) (Int.toNat x2) r32) B j = m_12 B j := fun B j q => upm_ne q
          generalize upm m_12 (Q + 5) (Int.toNat x2) r32 = m35 at hF36 m35e m35n ⊢
          have a5 : ∀ o, m35 (Q + 5) o = if o = x2.toNat then cv else m_12 (Q + 5) o := fun o => by
            by_cases q : o = x2.toNat
            · rw [if_pos q, q, m35e, cve]
            · rw [if_neg q, m35n _ _ (by omega)]
          have a5x : m35 (Q + 5) x2.toNat = cv := by rw [m35e, cve]
          have a6 : m35 Q 6 = m_12 Q 6 := m35n Q 6 (by omega)
          have a7 : m35 Q 7 = m_12 Q 7 := m35n Q 7 (by omega)
          refine Tx.aload_n hC te_110_67 rfl ?_
          refine Tx.dup hC te_110_68 ?_
          refine Tx.getI hC te_110_69 hQ.s0 rfl rfl (fun v37 v37e v37i => ?_)
          unfold InI at v37i
          refine Tx.aload_n hC te_110_72 rfl ?_
          refine Tx.getR hC te_110_73 hQ.s0 rfl rfl ?_
          refine Tx.iload_n hC te_110_76 rfl ?_
          refine Tx.iald hC te_110_77 hQ.s5 (by omega) (fun v38 v38e v38i => ?_)
          unfold InI at v38i
          refine Tx.iaddW hC te_110_78 (fun z39 z39i z39e => ?_)
          unfold InI at z39i z39e
          first | replace z39e := z39e (by omega) | clear z39e
          refine Tx.putI hC te_110_79 hQ.s0 rfl rfl rfl ?_
          have hF41 : Frm (pNm Q) mem (upm m35 Q 6 z39) := Frm.up hF36 (by unfold pNm; omega)
          have m40e : (upm m35 Q 6 z39) Q 6 = z39 := upm_eq
          have m40n : ∀ B j, ¬ (B = Q ∧ j = 6) → (upm m35 Q 6 z39) B j = m35 B j := fun B j q => upm_ne q
          generalize upm m35 Q 6 z39 = m40 at hF41 m40e m40n ⊢
          have b5 : ∀ o, m40 (Q + 5) o = if o = x2.toNat then cv else m_12 (Q + 5) o := fun o => by rw [m40n _ _ (by omega)]; exact a5 o
          have b5x : m40 (Q + 5) x2.toNat = cv := by rw [m40n _ _ (by omega)]; exact a5x
          have b6 : m40 Q 6 = m_12 Q 6 + cv := by
            have w := m40e
            omega
          have b7 : m40 Q 7 = m_12 Q 7 := by rw [m40n Q 7 (by omega)]; exact a7
          refine Tx.aload_n hC te_110_82 rfl ?_
          refine Tx.aload_n hC te_110_83 rfl ?_
          refine Tx.getI hC te_110_84 hQ.s0 rfl rfl (fun v42 v42e v42i => ?_)
          unfold InI at v42i
          refine Tx.aload_n hC te_110_87 rfl ?_
          refine Tx.getR hC te_110_88 hQ.s0 rfl rfl ?_
          refine Tx.iload_n hC te_110_91 rfl ?_
          refine Tx.iald hC te_110_92 hQ.s5 (by omega) (fun v43 v43e v43i => ?_)
          unfold InI at v43i
          refine Tx.statI hC te_110_93 (by decide) mt_40 (args := [.inl v42, .inl v43]) (rest := [.inr Q]) (c' := 0) (s' := 0) rfl rfl rfl rfl rfl rfl rfl ?_
          refine f_40q (fun r44 r44a r44b r44c r44i => ?_)
          unfold InI at r44i
          refine Tx.putI hC te_110_96 hQ.s0 rfl rfl rfl ?_
          have hF48 : Frm (pNm Q) mem (upm m40 Q 7 r44) := Frm.up hF41 (by unfold pNm; omega)
          have m47e : (upm m40 Q 7 r44) Q 7 = r44 := upm_eq
          have m47n : ∀ B j, ¬ (B = Q ∧ j = 7) → (upm m40 Q 7 r44) B j = m40 B j := fun B j q => upm_ne q
          generalize upm m40 Q 7 r44 = m47 at hF48 m47e m47n ⊢
          have c5 : ∀ o, m47 (Q + 5) o = if o = x2.toNat then cv else m_12 (Q + 5) o := fun o => by rw [m47n _ _ (by omega)]; exact b5 o
          have c6 : m47 Q 6 = m_12 Q 6 + cv := by rw [m47n Q 6 (by omega)]; exact b6
          have c7 : m47 Q 7 = max (m_12 Q 7) cv := by
            have w := m47e
            omega
          refine Tx.iincW hC te_110_99 rfl rfl (fun z49 z49i z49e => ?_)
          unfold InI at z49i z49e
          first | replace z49e := z49e (by omega) | clear z49e
          refine Tx.goto hC (t := 12) te_110_102 (by decide) ?_
          exact Tx.weak (by repeat' (first | exact trivial | exact rfl | constructor)) (ih_12 z49 m47 (by omega) (by first | exact NmR.ini g6 m67e | exact NmR.nxt i12_1 (by omega) (by omega) cpv c5 c6 c7) (by omega) (by omega) (by omega) hF48)
        · replace q25 : ¬ (¬ (v24 : Int) = 5) := q25
          refine Tx.iconst hC te_110_30 rfl ?_
          refine Tx.goto hC (t := 35) te_110_31 (by decide) ?_
          refine Tx.istore_n hC te_110_35 rfl ?_
          refine Tx.aload_n hC te_110_36 rfl ?_
          refine Tx.getR hC te_110_37 hQ.s0 rfl rfl ?_
          refine Tx.iload_n hC te_110_40 rfl ?_
          refine Tx.iload_n hC te_110_41 rfl ?_
          refine Tx.ifc hC (t := 49) te_110_42 (by decide) (fun q => absurd q (show ¬ ((1 : Int) = 0) by decide)) (fun q => ?_)
          refine Tx.iconst hC te_110_45 rfl ?_
          refine Tx.goto hC (t := 66) te_110_46 (by decide) ?_
          obtain ⟨cv, cve⟩ : ∃ z : Int, z = 0 := ⟨_, rfl⟩
          have cpv : cv = cpF (mem 2 x2.toNat) (mem (Q + 4) x2.toNat) d := by
            rw [cve]
            unfold cpF
            first
            | rw [if_pos (by omega)]
            | (rw [if_neg (by omega), ← h3, ← v28e, ← v26e, ← r29e]
               omega)
          have cpr : 0 ≤ cv ∧ cv ≤ 12000 := by omega
          refine Tx.iast hC te_110_66 hQ.s5 (by omega) ?_
          have hF51 : Frm (pNm Q) mem (upm m_12 (Q + 5) (Int.toNat x2) 0) := Frm.up hF_12 (by unfold pNm; omega)
          have m50e : (upm m_12 (Q + 5) (Int.toNat x2) 0) (Q + 5) (Int.toNat x2) = 0 := upm_eq
          have m50n : ∀ B j, ¬ (B = (Q + 5) ∧ j = (Int.toNat x2)) → (upm m_12 (Q + 5) (Int.toNat x2) 0) B j = m_12 B j := fun B j q => upm_ne q
          generalize upm m_12 (Q + 5) (Int.toNat x2) 0 = m50 at hF51 m50e m50n ⊢
          have a5 : ∀ o, m50 (Q + 5) o = if o = x2.toNat then cv else m_12 (Q + 5) o := fun o => by
            by_cases q : o = x2.toNat
            · rw [if_pos q, q, m50e, cve]
            · rw [if_neg q, m50n _ _ (by omega)]
          have a5x : m50 (Q + 5) x2.toNat = cv := by rw [m50e, cve]
          have a6 : m50 Q 6 = m_12 Q 6 := m50n Q 6 (by omega)
          have a7 : m50 Q 7 = m_12 Q 7 := m50n Q 7 (by omega)
          refine Tx.aload_n hC te_110_67 rfl ?_
          refine Tx.dup hC te_110_68 ?_
          refine Tx.getI hC te_110_69 hQ.s0 rfl rfl (fun v52 v52e v52i => ?_)
          unfold InI at v52i
          refine Tx.aload_n hC te_110_72 rfl ?_
          refine Tx.getR hC te_110_73 hQ.s0 rfl rfl ?_
          refine Tx.iload_n hC te_110_76 rfl ?_
          refine Tx.iald hC te_110_77 hQ.s5 (by omega) (fun v53 v53e v53i => ?_)
          unfold InI at v53i
          refine Tx.iaddW hC te_110_78 (fun z54 z54i z54e => ?_)
          unfold InI at z54i z54e
          first | replace z54e := z54e (by omega) | clear z54e
          refine Tx.putI hC te_110_79 hQ.s0 rfl rfl rfl ?_
          have hF56 : Frm (pNm Q) mem (upm m50 Q 6 z54) := Frm.up hF51 (by unfold pNm; omega)
          have m55e : (upm m50 Q 6 z54) Q 6 = z54 := upm_eq
          have m55n : ∀ B j, ¬ (B = Q ∧ j = 6) → (upm m50 Q 6 z54) B j = m50 B j := fun B j q => upm_ne q
          generalize upm m50 Q 6 z54 = m55 at hF56 m55e m55n ⊢
          have b5 : ∀ o, m55 (Q + 5) o = if o = x2.toNat then cv else m_12 (Q + 5) o := fun o => by rw [m55n _ _ (by omega)]; exact a5 o
          have b5x : m55 (Q + 5) x2.toNat = cv := by rw [m55n _ _ (by omega)]; exact a5x
          have b6 : m55 Q 6 = m_12 Q 6 + cv := by
            have w := m55e
            omega
          have b7 : m55 Q 7 = m_12 Q 7 := by rw [m55n Q 7 (by omega)]; exact a7
          refine Tx.aload_n hC te_110_82 rfl ?_
          refine Tx.aload_n hC te_110_83 rfl ?_
          refine Tx.getI hC te_110_84 hQ.s0 rfl rfl (fun v57 v57e v57i => ?_)
          unfold InI at v57i
          refine Tx.aload_n hC te_110_87 rfl ?_
          refine Tx.getR hC te_110_88 hQ.s0 rfl rfl ?_
          refine Tx.iload_n hC te_110_91 rfl ?_
          refine Tx.iald hC te_110_92 hQ.s5 (by omega) (fun v58 v58e v58i => ?_)
          unfold InI at v58i
          refine Tx.statI hC te_110_93 (by decide) mt_40 (args := [.inl v57, .inl v58]) (rest := [.inr Q]) (c' := 0) (s' := 0) rfl rfl rfl rfl rfl rfl rfl ?_
          refine f_40q (fun r59 r59a r59b r59c r59i => ?_)
          unfold InI at r59i
          refine Tx.putI hC te_110_96 hQ.s0 rfl rfl rfl ?_
          have hF63 : Frm (pNm Q) mem (upm m55 Q 7 r59) := Frm.up hF56 (by unfold pNm; omega)
          have m62e : (upm m55 Q 7 r59) Q 7 = r59 := upm_eq
          have m62n : ∀ B j, ¬ (B = Q ∧ j = 7) → (upm m55 Q 7 r59) B j = m55 B j := fun B j q => upm_ne q
          generalize upm m55 Q 7 r59 = m62 at hF63 m62e m62n ⊢
          have c5 : ∀ o, m62 (Q + 5) o = if o = x2.toNat then cv else m_12 (Q + 5) o := fun o => by rw [m62n _ _ (by omega)]; exact b5 o
          have c6 : m62 Q 6 = m_12 Q 6 + cv := by rw [m62n Q 6 (by omega)]; exact b6
          have c7 : m62 Q 7 = max (m_12 Q 7) cv := by
            have w := m62e
            omega
          refine Tx.iincW hC te_110_99 rfl rfl (fun z64 z64i z64e => ?_)
          unfold InI at z64i z64e
          first | replace z64e := z64e (by omega) | clear z64e
          refine Tx.goto hC (t := 12) te_110_102 (by decide) ?_
          exact Tx.weak (by repeat' (first | exact trivial | exact rfl | constructor)) (ih_12 z64 m62 (by omega) (by first | exact NmR.ini g6 m67e | exact NmR.nxt i12_1 (by omega) (by omega) cpv c5 c6 c7) (by omega) (by omega) (by omega) hF63)
  refine Tx.aload_n hC te_110_0 rfl ?_
  refine Tx.iconst hC te_110_1 rfl ?_
  refine Tx.putI hC te_110_2 hQ.s0 rfl rfl rfl ?_
  have hF66 : Frm (pNm Q) mem (upm mem Q 6 0) := Frm.up Frm.rf (by unfold pNm; omega)
  have m65e : (upm mem Q 6 0) Q 6 = 0 := upm_eq
  have m65n : ∀ B j, ¬ (B = Q ∧ j = 6) → (upm mem Q 6 0) B j = mem B j := fun B j q => upm_ne q
  generalize upm mem Q 6 0 = m65 at hF66 m65e m65n ⊢
  refine Tx.aload_n hC te_110_5 rfl ?_
  refine Tx.iconst hC te_110_6 rfl ?_
  refine Tx.putI hC te_110_7 hQ.s0 rfl rfl rfl ?_
  have hF68 : Frm (pNm Q) mem (upm m65 Q 7 1) := Frm.up hF66 (by unfold pNm; omega)
  have m67e : (upm m65 Q 7 1) Q 7 = 1 := upm_eq
  have m67n : ∀ B j, ¬ (B = Q ∧ j = 7) → (upm m65 Q 7 1) B j = m65 B j := fun B j q => upm_ne q
  generalize upm m65 Q 7 1 = m67 at hF68 m67e m67n ⊢
  have g6 : m67 Q 6 = 0 := by rw [m67n Q 6 (by omega), m65e]
  refine Tx.iconst hC te_110_10 rfl ?_
  refine Tx.istore_n hC te_110_11 rfl ?_
  exact l_12 _ 0 m67 (by omega) (by first | exact NmR.ini g6 m67e | exact NmR.nxt i12_1 (by omega) (by omega) cpv c5 c6 c7) (by omega) (by omega) (Nat.lt_succ_self _) hF68
end
section
/-! QUICK, told by itself: ops that have times (-1: none), moves -/
def TiQ (T : Nat → Int) (a : Nat) : Prop := ¬ T a = -1
def EaQ (p : Prb) (T : Nat → Int) (o : Nat) (e : Int) : Prop := 0 ≤ e ∧ (∀ a x, p.E a o x → ¬ a = o → TiQ T a → T a + x ≤ e) ∧ (e = 0 ∨ ∃ a x, p.E a o x ∧ ¬ a = o ∧ TiQ T a ∧ e = T a + x)
noncomputable def UsQ (p : Prb) (T : Nat → Int) (u k : Int) : Int := usM (TiQ T) p.un p.bu p.d T u k p.n
def RmQ (p : Prb) (T : Nat → Int) (o : Nat) (t : Int) : Prop := ∀ k : Int, 0 ≤ k → k < p.d → 0 < us1 p.d t (p.bu o) k → UsQ p T (p.un o) k + us1 p.d t (p.bu o) k ≤ p.ct (p.un o).toNat
def PlQ (p : Prb) (T L : Nat → Int) (o : Nat) (t : Int) : Prop := ∃ e, EaQ p T o e ∧ ((e ≤ t ∧ t < e + p.d ∧ RmQ p T o t ∧ ∀ t', e ≤ t' → t' < t → ¬ RmQ p T o t') ∨ ((∀ t', e ≤ t' → t' < e + p.d → ¬ RmQ p T o t') ∧ t = max e (L o + 1)))
def setF (T : Nat → Int) (o : Nat) (t : Int) : Nat → Int := fun j => if j = o then t else T j
def CoQ (p : Prb) (T : Nat → Int) (o k : Nat) : Prop := ∃ s : Int, 0 ≤ s ∧ s < p.d ∧ p.ct (p.un o).toNat < UsQ p T (p.un o) s ∧ 0 < us1 p.d (T o) (p.bu o) s ∧ 0 < us1 p.d (T k) (p.bu k) s
noncomputable def shS (p : Prb) (T : Nat → Int) (o k : Nat) : Nat → Int := fun j => cIf (j = k ∧ ¬ k = o ∧ TiQ T k ∧ p.un k = p.un o ∧ CoQ p T o k) (-1) (T j)
noncomputable def shF (p : Prb) (T : Nat → Int) (o : Nat) : Nat → Nat → Int
  | 0 => T
  | k + 1 => shS p (shF p T o k) o k
def BkQ (p : Prb) (T : Nat → Int) (o j : Nat) : Prop := ¬ j = o ∧ TiQ T j ∧ ((∃ x, p.E o j x ∧ T j < T o + x) ∨ ∃ x, p.E j o x ∧ T o < T j + x)
noncomputable def brF (p : Prb) (T : Nat → Int) (o : Nat) : Nat → Int := fun j => cIf (BkQ p T o j) (-1) (T j)
def HiQ (p : Prb) (h T : Nat → Int) (o : Nat) : Prop := o < p.n ∧ ¬ TiQ T o ∧ (∀ j, j < p.n → ¬ TiQ T j → h j ≤ h o) ∧ ∀ j, j < o → ¬ TiQ T j → h j < h o
def MvQ (p : Prb) (h T L T' L' : Nat → Int) : Prop := ∃ o t, HiQ p h T o ∧ PlQ p T L o t ∧ (∀ j, j < p.n → L' j = if j = o then t else L j) ∧ ∀ j, j < p.n → T' j = brF p (shF p (setF T o t) o p.n) o j
def AlQ (p : Prb) (T : Nat → Int) : Prop := ∀ j, j < p.n → TiQ T j
def OnQ (p : Prb) (o : Nat) : Prop := ∀ k : Int, 0 ≤ k → k < p.d → us1 p.d 0 (p.bu o) k ≤ p.ct (p.un o).toNat
def RuQ (p : Prb) (h : Nat → Int) (X Y : Nat → Nat → Int) (c : Nat) : Prop := (∀ j, j < p.n → X 0 j = -1 ∧ Y 0 j = -1) ∧ ∀ i, i < c → ¬ AlQ p (X i) ∧ MvQ p h (X i) (Y i) (X (i + 1)) (Y (i + 1))
def QkX (p : Prb) (h : Nat → Int) (f c : Int) (T : Nat → Int) : Prop := ((∃ o, o < p.n ∧ ¬ OnQ p o) ∧ f = 0) ∨ ((∀ o, o < p.n → OnQ p o) ∧ ∃ (X Y : Nat → Nat → Int) (n : Nat), c = (n : Int) ∧ n ≤ 6 * p.n ∧ RuQ p h X Y n ∧ ((f = 1 ∧ AlQ p (X n) ∧ ∀ j, j < p.n → T j = X n j) ∨ (f = 0 ∧ ¬ AlQ p (X n) ∧ n = 6 * p.n)))
def HgQ (E : Nat → Nat → Int → Prop) (a : Nat) (z : Int) : Prop := 0 ≤ z ∧ (∀ b l v, Wk E a l b v → v ≤ z) ∧ (z = 0 ∨ ∃ b l, Wk E a l b z)
theorem HgQ.eq {E : Nat → Nat → Int → Prop} {a : Nat} {z z' : Int} (h : HgQ E a z) (g : HgQ E a z') : z = z' := by
  obtain ⟨h1, h2, h3⟩ := h
  obtain ⟨g1, g2, g3⟩ := g
  have a1 : z ≤ z' := by
    rcases h3 with q | ⟨b, l, q⟩
    · omega
    · exact g2 b l _ q
  have a2 : z' ≤ z := by
    rcases g3 with q | ⟨b, l, q⟩
    · omega
    · exact h2 b l _ q
  omega
section QKM
variable {p : Prb} {h h' T T' L L' : Nat → Int} {o o' k n : Nat} {e e' t t' u s : Int}
theorem usM_cg2 {M M' : Nat → Prop} {un bu : Nat → Int} {d : Int} {s s' : Nat → Int} {u k : Int} (n : Nat) (h : ∀ o, o < n → (M o ↔ M' o) ∧ (M o → s o = s' o)) : usM M un bu d s u k n = usM M' un bu d s' u k n := usM_cg n (fun o ho _ => h o ho)
theorem UsQ.cg (g : ∀ a, a < p.n → T a = T' a) : UsQ p T u s = UsQ p T' u s := usM_cg2 p.n (fun o ho => by unfold TiQ; rw [g o ho]; exact ⟨Iff.rfl, fun _ => rfl⟩)
theorem EaQ.eq (hE : ∀ a b x, p.E a b x → a < p.n ∧ b < p.n) (g : ∀ a, a < p.n → T a = T' a) (h : EaQ p T o e) (h' : EaQ p T' o e') : e = e' := by
  obtain ⟨h1, h2, h3⟩ := h
  obtain ⟨g1, g2, g3⟩ := h'
  have a1 : e ≤ e' := by
    rcases h3 with q | ⟨a, x, q1, q2, q3, q4⟩
    · omega
    · have va := (hE a o x q1).1
      unfold TiQ at q3
      rw [g a va] at q3 q4
      have := g2 a x q1 q2 q3
      omega
  have a2 : e' ≤ e := by
    rcases g3 with q | ⟨a, x, q1, q2, q3, q4⟩
    · omega
    · have va := (hE a o x q1).1
      unfold TiQ at q3
      rw [← g a va] at q3 q4
      have := h2 a x q1 q2 q3
      omega
  omega
theorem RmQ.cg (g : ∀ a, a < p.n → T a = T' a) (h : RmQ p T o t) : RmQ p T' o t := fun k a b c => by
  rw [← UsQ.cg g]
  exact h k a b c
theorem PlQ.eq (hE : ∀ a b x, p.E a b x → a < p.n ∧ b < p.n) (ho : o < p.n) (g : ∀ a, a < p.n → T a = T' a) (gl : L o = L' o) (h : PlQ p T L o t) (h' : PlQ p T' L' o t') : t = t' := by
  obtain ⟨e, h1, h2⟩ := h
  obtain ⟨e', g1, g2⟩ := h'
  have ee := EaQ.eq hE g h1 g1
  subst ee
  have gs : ∀ a, a < p.n → T' a = T a := fun a ha => (g a ha).symm
  rcases h2 with ⟨a1, a2, a3, a4⟩ | ⟨a1, a2⟩
  · rcases g2 with ⟨b1, b2, b3, b4⟩ | ⟨b1, b2⟩
    · by_cases q : t < t'
      · exact absurd (a3.cg g) (b4 t a1 q)
      · by_cases q2 : t' < t
        · exact absurd (b3.cg gs) (a4 t' b1 q2)
        · omega
    · exact absurd (a3.cg g) (b1 t a1 a2)
  · rcases g2 with ⟨b1, b2, b3, b4⟩ | ⟨b1, b2⟩
    · exact absurd (b3.cg gs) (a1 t' b1 b2)
    · rw [a2, b2, gl]
theorem HiQ.eq (hh : ∀ a, a < p.n → h a = h' a) (g : ∀ a, a < p.n → T a = T' a) (q : HiQ p h T o) (q' : HiQ p h' T' o') : o = o' := by
  obtain ⟨a1, a2, a3, a4⟩ := q
  obtain ⟨b1, b2, b3, b4⟩ := q'
  have ti : ∀ a, a < p.n → (TiQ T a ↔ TiQ T' a) := fun a ha => by unfold TiQ; rw [g a ha]
  by_cases lt : o < o'
  · have x1 := b4 o lt (fun z => a2 ((ti o a1).mpr z))
    have x2 := a3 o' b1 (fun z => b2 ((ti o' b1).mp z))
    rw [hh o a1, hh o' b1] at x2
    omega
  · by_cases lt2 : o' < o
    · have x1 := a4 o' lt2 (fun z => b2 ((ti o' b1).mp z))
      have x2 := b3 o a1 (fun z => a2 ((ti o a1).mpr z))
      rw [hh o a1, hh o' b1] at x1
      omega
    · omega
theorem cIf.iff {c c' : Prop} {a b b' : Int} (h : c ↔ c') (e : b = b') : cIf c a b = cIf c' a b' := by
  by_cases q : c
  · rw [cIf.y q, cIf.y (h.mp q)]
  · rw [cIf.n q, cIf.n (fun z => q (h.mpr z)), e]
theorem CoQ.cg (ho : o < p.n) (hk : k < p.n) (g : ∀ a, a < p.n → T a = T' a) (h : CoQ p T o k) : CoQ p T' o k := by
  obtain ⟨s, a, b, c, d, f⟩ := h
  exact ⟨s, a, b, by rw [← UsQ.cg g]; exact c, by rw [← g o ho]; exact d, by rw [← g k hk]; exact f⟩
theorem shF.cg (ho : o < p.n) (g : ∀ a, a < p.n → T a = T' a) : ∀ k, k ≤ p.n → ∀ j, j < p.n → shF p T o k j = shF p T' o k j
  | 0, _, j, hj => g j hj
  | k + 1, hk, j, hj => by
    have ih := shF.cg ho g k (by omega)
    have ihs : ∀ a, a < p.n → shF p T' o k a = shF p T o k a := fun a ha => (ih a ha).symm
    show cIf _ _ _ = cIf _ _ _
    refine cIf.iff ?_ (ih j hj)
    have ti : TiQ (shF p T o k) k ↔ TiQ (shF p T' o k) k := by unfold TiQ; rw [ih k (by omega)]
    exact ⟨fun ⟨a, b, c, d, f⟩ => ⟨a, b, ti.mp c, d, f.cg ho (by omega) ih⟩, fun ⟨a, b, c, d, f⟩ => ⟨a, b, ti.mpr c, d, f.cg ho (by omega) ihs⟩⟩
theorem brF.cg (hE : ∀ a b x, p.E a b x → a < p.n ∧ b < p.n) (ho : o < p.n) (g : ∀ a, a < p.n → T a = T' a) {j : Nat} (hj : j < p.n) : brF p T o j = brF p T' o j := by
  refine cIf.iff ?_ (g j hj)
  unfold BkQ TiQ
  rw [g j hj, g o ho]
theorem MvQ.eq {T1 L1 T2 L2 : Nat → Int} (hE : ∀ a b x, p.E a b x → a < p.n ∧ b < p.n) (hh : ∀ a, a < p.n → h a = h' a) (g : ∀ a, a < p.n → T a = T' a) (gl : ∀ a, a < p.n → L a = L' a) (q : MvQ p h T L T1 L1) (q' : MvQ p h' T' L' T2 L2) : ∀ a, a < p.n → T1 a = T2 a ∧ L1 a = L2 a := by
  obtain ⟨o, t, a1, a2, a3, a4⟩ := q
  obtain ⟨o', t', b1, b2, b3, b4⟩ := q'
  have eo := HiQ.eq hh g a1 b1
  subst eo
  have ho := a1.1
  have et := PlQ.eq hE ho g (gl o ho) a2 b2
  subst et
  have gs : ∀ a, a < p.n → setF T o t a = setF T' o t a := fun a ha => by unfold setF; rw [g a ha]
  intro a ha
  exact ⟨by rw [a4 a ha, b4 a ha]; exact brF.cg hE ho (shF.cg ho gs p.n (Nat.le_refl _)) ha, by rw [a3 a ha, b3 a ha, gl a ha]⟩
theorem RuQ.eq {X Y X' Y' : Nat → Nat → Int} (hE : ∀ a b x, p.E a b x → a < p.n ∧ b < p.n) (hh : ∀ a, a < p.n → h a = h' a) (q : RuQ p h X Y n) (q' : RuQ p h' X' Y' n) : ∀ i, i ≤ n → ∀ a, a < p.n → X i a = X' i a ∧ Y i a = Y' i a
  | 0, _, a, ha => by
    have x := q.1 a ha
    have y := q'.1 a ha
    omega
  | i + 1, hi, a, ha => by
    have ih := RuQ.eq hE hh q q' i (by omega)
    exact MvQ.eq hE hh (fun a ha => (ih a ha).1) (fun a ha => (ih a ha).2) (q.2 i (by omega)).2 (q'.2 i (by omega)).2 a ha
theorem AlQ.cg (g : ∀ a, a < p.n → T a = T' a) (q : AlQ p T) : AlQ p T' := fun a ha => by
  have z := q a ha
  unfold TiQ at z ⊢
  rw [← g a ha]
  exact z
theorem RuQ.le {X Y : Nat → Nat → Int} {m : Nat} (q : RuQ p h X Y n) (e : m ≤ n) : RuQ p h X Y m := ⟨q.1, fun i hi => q.2 i (by omega)⟩
theorem QkX.eq {f f' c c' : Int} (hE : ∀ a b x, p.E a b x → a < p.n ∧ b < p.n) (hh : ∀ a, a < p.n → h a = h' a) (q : QkX p h f c T) (q' : QkX p h' f' c' T') : f = f' ∧ (f = 1 → c = c' ∧ ∀ j, j < p.n → T j = T' j) := by
  rcases q with ⟨⟨o, a1, a2⟩, a3⟩ | ⟨a0, X, Y, n, a1, a2, a3, a4⟩
  · rcases q' with ⟨-, b3⟩ | ⟨b0, -⟩
    · omega
    · exact absurd (b0 o a1) a2
  · rcases q' with ⟨⟨o, b1, b2⟩, b3⟩ | ⟨b0, X', Y', n', b1, b2, b3, b4⟩
    · exact absurd (a0 o b1) b2
    · have nn : n = n' := by
        by_cases lt : n < n'
        · exfalso
          have ee := RuQ.eq hE hh a3 (b3.le (by omega)) n (Nat.le_refl _)
          rcases a4 with ⟨-, x, -⟩ | ⟨-, -, x⟩
          · exact (b3.2 n lt).1 (x.cg (fun a ha => (ee a ha).1))
          · omega
        · by_cases lt2 : n' < n
          · exfalso
            have ee := RuQ.eq hE hh (a3.le (by omega)) b3 n' (Nat.le_refl _)
            rcases b4 with ⟨-, x, -⟩ | ⟨-, -, x⟩
            · exact (a3.2 n' lt2).1 (x.cg (fun a ha => (ee a ha).1.symm))
            · omega
          · omega
      subst nn
      have ee := RuQ.eq hE hh a3 b3 n (Nat.le_refl _)
      rcases a4 with ⟨x1, x2, x3⟩ | ⟨x1, x2, x3⟩
      · rcases b4 with ⟨y1, y2, y3⟩ | ⟨y1, y2, y3⟩
        · exact ⟨by omega, fun _ => ⟨by omega, fun j hj => by rw [x3 j hj, y3 j hj, (ee j hj).1]⟩⟩
        · exact absurd (x2.cg (fun a ha => (ee a ha).1)) y2
      · rcases b4 with ⟨y1, y2, y3⟩ | ⟨y1, y2, y3⟩
        · exact absurd (y2.cg (fun a ha => (ee a ha).1.symm)) x2
        · exact ⟨by omega, fun z => by omega⟩
/-! what is asked of slots -/
theorem usM_up {M M' : Nat → Prop} {un bu : Nat → Int} {d : Int} {s s' : Nat → Int} {u k : Int} {o : Nat} (e : ∀ j, ¬ j = o → (M j ↔ M' j) ∧ (M j → s j = s' j)) (h0 : ¬ M o) (h1 : M' o) : ∀ n, usM M' un bu d s' u k n = usM M un bu d s u k n + (if o < n ∧ un o = u then us1 d (s' o) (bu o) k else 0)
  | 0 => by
    rw [if_neg (fun z => absurd z.1 (Nat.not_lt_zero _))]
    rfl
  | n + 1 => by
    have ih := usM_up (un := un) (bu := bu) (d := d) (u := u) (k := k) e h0 h1 n
    show usM M' un bu d s' u k n + cIf (M' n ∧ un n = u) (us1 d (s' n) (bu n) k) 0 = usM M un bu d s u k n + cIf (M n ∧ un n = u) (us1 d (s n) (bu n) k) 0 + _
    rw [ih]
    by_cases q : n = o
    · subst q
      rw [if_neg (fun z => absurd z.1 (Nat.lt_irrefl _)), cIf.n (c := M n ∧ un n = u) (fun z => h0 z.1)]
      by_cases w : un n = u
      · rw [cIf.y ⟨h1, w⟩, if_pos ⟨Nat.lt_succ_self _, w⟩]
        try omega
      · rw [cIf.n (fun z => w z.2), if_neg (fun z => w z.2)]
        try omega
    · obtain ⟨e1, e2⟩ := e n q
      have c : cIf (M' n ∧ un n = u) (us1 d (s' n) (bu n) k) 0 = cIf (M n ∧ un n = u) (us1 d (s n) (bu n) k) 0 := by
        by_cases w : M n ∧ un n = u
        · rw [cIf.y w, cIf.y ⟨e1.mp w.1, w.2⟩, e2 w.1]
        · rw [cIf.n w, cIf.n (fun z => w ⟨e1.mpr z.1, z.2⟩)]
      rw [c]
      by_cases w : o < n ∧ un o = u
      · rw [if_pos w, if_pos ⟨by omega, w.2⟩]
        omega
      · rw [if_neg w, if_neg (fun z => w ⟨by omega, z.2⟩)]
        omega
theorem UsQ.set (ho : o < p.n) (h0 : ¬ TiQ T o) (ht : ¬ t = -1) : UsQ p (setF T o t) u s = UsQ p T u s + (if p.un o = u then us1 p.d t (p.bu o) s else 0) := by
  unfold UsQ
  rw [usM_up (M := TiQ T) (s := T) (o := o) (fun j hj => by unfold TiQ setF; rw [if_neg hj]; exact ⟨Iff.rfl, fun _ => rfl⟩) h0 (show TiQ (setF T o t) o by unfold TiQ setF; rw [if_pos rfl]; exact ht)]
  have e : setF T o t o = t := if_pos rfl
  rw [e]
  by_cases w : p.un o = u
  · rw [if_pos ⟨ho, w⟩, if_pos w]
  · rw [if_neg (fun z => w z.2), if_neg w]
def LsQ (T' T : Nat → Int) : Prop := ∀ j, T' j = -1 ∨ T' j = T j
theorem LsQ.rf : LsQ T T := fun _ => Or.inr rfl
theorem LsQ.tr {T'' : Nat → Int} (h : LsQ T'' T') (g : LsQ T' T) : LsQ T'' T := fun j => by
  rcases h j with a | a
  · exact Or.inl a
  · rw [a]
    exact g j
theorem usM_ls {M M' : Nat → Prop} {un bu : Nat → Int} {d : Int} {s s' : Nat → Int} {u k : Int} (n : Nat) (h : ∀ o, M' o → M o ∧ s' o = s o) : usM M' un bu d s' u k n ≤ usM M un bu d s u k n := by
  rw [usM_cg2 (M := M') (M' := M') (s := s') (s' := s) n (fun o _ => ⟨Iff.rfl, fun q => (h o q).2⟩)]
  exact usM_mono n (fun o _ q => (h o q).1)
theorem LsQ.us (h : LsQ T' T) : UsQ p T' u s ≤ UsQ p T u s := usM_ls p.n (fun o q => by
  unfold TiQ at q ⊢
  rcases h o with a | a
  · exact absurd a q
  · rw [a] at q
    exact ⟨q, a⟩)
theorem shS.ls : LsQ (shS p T o k) T := fun j => by
  show cIf _ _ _ = -1 ∨ cIf _ _ _ = T j
  by_cases q : j = k ∧ ¬ k = o ∧ TiQ T k ∧ p.un k = p.un o ∧ CoQ p T o k
  · exact Or.inl (cIf.y q)
  · exact Or.inr (cIf.n q)
theorem shF.ls : ∀ k, LsQ (shF p T o k) T
  | 0 => LsQ.rf
  | k + 1 => shS.ls.tr (shF.ls k)
theorem shF.lt : ∀ {k n : Nat}, k ≤ n → LsQ (shF p T o n) (shF p T o k)
  | k, 0, h => by
    have e : k = 0 := by omega
    subst e
    exact LsQ.rf
  | k, n + 1, h => by
    by_cases e : k = n + 1
    · subst e
      exact LsQ.rf
    · exact shS.ls.tr (shF.lt (show k ≤ n by omega))
theorem shF.self : ∀ k, shF p T o k o = T o
  | 0 => rfl
  | k + 1 => by
    show cIf _ _ _ = _
    rw [cIf.n (fun z => z.2.1 z.1.symm)]
    exact shF.self k
theorem brF.ls : LsQ (brF p T o) T := fun j => by
  show cIf _ _ _ = -1 ∨ cIf _ _ _ = T j
  by_cases q : BkQ p T o j
  · exact Or.inl (cIf.y q)
  · exact Or.inr (cIf.n q)
def NoQ (p : Prb) (T : Nat → Int) : Prop := ∀ u k : Int, 0 ≤ u → u < 3 → 0 ≤ k → k < p.d → UsQ p T u k ≤ p.ct u.toNat
theorem NoQ.ls (h : NoQ p T) (g : LsQ T' T) : NoQ p T' := fun u k a b c d => Int.le_trans g.us (h u k a b c d)
theorem us1_sh {d t bu k : Int} (hd : 0 < d) (hk : 0 ≤ k ∧ k < d) : us1 d t bu k = us1 d 0 bu ((k - t) % d) := by
  have key : ∀ r : Int, (t + r) % d = k ↔ (0 + r) % d = (k - t) % d := fun r => by
    rw [Int.zero_add]
    have e1 := Int.mul_ediv_add_emod (t + r) d
    have e2 := Int.mul_ediv_add_emod r d
    have e3 := Int.mul_ediv_add_emod (k - t) d
    constructor
    · intro h
      rw [show k - t = r + d * (-((t + r) / d)) by rw [Int.mul_neg]; omega, Int.add_mul_emod_self_left]
    · intro h
      rw [show t + r = k + d * (r / d - (k - t) / d) by rw [Int.mul_sub]; omega, Int.add_mul_emod_self_left]
      exact Int.emod_eq_of_lt hk.1 hk.2
  have k0 := key 0
  rw [Int.add_zero, Int.add_zero] at k0
  have k1 := key 1
  have k2 := key 2
  have k3 := key 3
  unfold us1
  simp only [k0, k1, k2, k3]
theorem OnQ.at (h : OnQ p o) (hd : 0 < p.d) {k : Int} (hk : 0 ≤ k ∧ k < p.d) : us1 p.d t (p.bu o) k ≤ p.ct (p.un o).toNat := by
  rw [us1_sh hd hk]
  exact h _ (Int.emod_nonneg _ (by omega)) (Int.emod_lt_of_pos _ hd)
theorem RmQ.all (hN : NoQ p T) (hu : 0 ≤ p.un o ∧ p.un o < 3) : RmQ p T o t ↔ ∀ k : Int, 0 ≤ k → k < p.d → UsQ p T (p.un o) k + us1 p.d t (p.bu o) k ≤ p.ct (p.un o).toNat := by
  constructor
  · intro h k a b
    have r := us1_rg (d := p.d) (s := t) (bu := p.bu o) (k := k)
    by_cases q : 0 < us1 p.d t (p.bu o) k
    · exact h k a b q
    · have := hN (p.un o) k hu.1 hu.2 a b
      omega
  · intro h k a b _
    exact h k a b
theorem shF.room (ho : o < p.n) (h0 : ¬ TiQ T o) (ht : ¬ t = -1) (hN : NoQ p T) (hu : 0 ≤ p.un o ∧ p.un o < 3) (hr : RmQ p T o t) : ∀ k, shF p (setF T o t) o k = setF T o t
  | 0 => rfl
  | k + 1 => by
    have ih := shF.room ho h0 ht hN hu hr k
    show shS p (shF p (setF T o t) o k) o k = _
    rw [ih]
    funext j
    refine cIf.n (fun z => ?_)
    obtain ⟨s, a, b, c, -⟩ := z.2.2.2.2
    rw [UsQ.set ho h0 ht, if_pos rfl] at c
    have := (RmQ.all hN hu).mp hr s a b
    omega
theorem shF.no (ho : o < p.n) (h0 : ¬ TiQ T o) (ht : ¬ t = -1) (hd : 0 < p.d) (hN : NoQ p T) (hOn : OnQ p o) (hu : ∀ j, j < p.n → 0 ≤ p.un j ∧ p.un j < 3) : NoQ p (shF p (setF T o t) o p.n) := fun u k a b c d => by
  refine Decidable.byContradiction (fun q => ?_)
  have ls : UsQ p (shF p (setF T o t) o p.n) u k ≤ UsQ p (setF T o t) u k := (shF.ls p.n).us
  have n0 := hN u k a b c d
  rw [UsQ.set ho h0 ht] at ls
  by_cases w : p.un o = u
  · subst w
    rw [if_pos rfl] at ls
    by_cases z : 0 < us1 p.d t (p.bu o) k
    · have only : UsQ p (shF p (setF T o t) o p.n) (p.un o) k ≤ us1 p.d t (p.bu o) k := by
        have sl : shF p (setF T o t) o p.n o = t := (shF.self p.n).trans (if_pos rfl)
        have e := usM_up (M := fun _ => False) (M' := fun j => j = o) (un := p.un) (bu := p.bu) (d := p.d) (s := shF p (setF T o t) o p.n) (s' := shF p (setF T o t) o p.n) (u := p.un o) (k := k) (o := o) (fun j hj => ⟨⟨fun x => x.elim, fun x => hj x⟩, fun x => x.elim⟩) (fun x => x) rfl p.n
        have z0 : ∀ n, usM (fun _ => False) p.un p.bu p.d (shF p (setF T o t) o p.n) (p.un o) k n = 0 := fun n => by
          induction n with
          | zero => rfl
          | succ n ih =>
            show usM _ _ _ _ _ _ _ n + cIf _ _ _ = 0
            rw [ih, cIf.n (fun x => x.1)]
            rfl
        rw [z0, if_pos ⟨ho, rfl⟩, sl] at e
        have le : UsQ p (shF p (setF T o t) o p.n) (p.un o) k ≤ usM (fun j => j = o) p.un p.bu p.d (shF p (setF T o t) o p.n) (p.un o) k p.n := by
          have pt : ∀ n, n ≤ p.n → usM (TiQ (shF p (setF T o t) o p.n)) p.un p.bu p.d (shF p (setF T o t) o p.n) (p.un o) k n ≤ usM (fun j => j = o) p.un p.bu p.d (shF p (setF T o t) o p.n) (p.un o) k n := fun n => by
            induction n with
            | zero => intro _; exact Int.le_refl _
            | succ n ih =>
              intro hn
              have ih := ih (by omega)
              show usM _ _ _ _ _ _ _ n + cIf _ _ _ ≤ usM _ _ _ _ _ _ _ n + cIf _ _ _
              by_cases y : n = o
              · have hc : cIf (TiQ (shF p (setF T o t) o p.n) n ∧ p.un n = p.un o) (us1 p.d (shF p (setF T o t) o p.n n) (p.bu n) k) 0 = cIf (n = o ∧ p.un n = p.un o) (us1 p.d (shF p (setF T o t) o p.n n) (p.bu n) k) 0 := cIf.iff ⟨fun x => ⟨y, x.2⟩, fun x => ⟨by rw [y]; unfold TiQ; rw [sl]; exact ht, x.2⟩⟩ rfl
                rw [hc]
                exact Int.add_le_add_right ih _
              · rw [cIf.n (c := n = o ∧ p.un n = p.un o) (fun x => y x.1)]
                by_cases x : TiQ (shF p (setF T o t) o p.n) n ∧ p.un n = p.un o
                · rw [cIf.y x]
                  have r := us1_rg (d := p.d) (s := shF p (setF T o t) o p.n n) (bu := p.bu n) (k := k)
                  by_cases v : 0 < us1 p.d (shF p (setF T o t) o p.n n) (p.bu n) k
                  · exfalso
                    have l1 := shF.lt (p := p) (T := setF T o t) (o := o) (show n + 1 ≤ p.n by omega)
                    have l0 := shF.lt (p := p) (T := setF T o t) (o := o) (show n ≤ p.n by omega)
                    have v1 : shF p (setF T o t) o p.n n = shF p (setF T o t) o (n + 1) n := (l1 n).resolve_left x.1
                    have v0 : shF p (setF T o t) o p.n n = shF p (setF T o t) o n n := (l0 n).resolve_left x.1
                    have us := l0.us (p := p) (u := p.un o) (s := k)
                    have gone : shF p (setF T o t) o (n + 1) n = -1 := by
                      refine cIf.y ⟨rfl, y, ?_, x.2, k, c, d, by omega, ?_, ?_⟩
                      · unfold TiQ
                        rw [← v0]
                        exact x.1
                      · rw [shF.self n, show setF T o t o = t from if_pos rfl]
                        exact z
                      · rw [← v0]
                        exact v
                    exact x.1 (v1.trans gone)
                  · omega
                · rw [cIf.n x]
                  omega
          exact pt p.n (Nat.le_refl _)
        omega
      have on := hOn.at (t := t) hd ⟨c, d⟩
      omega
    · omega
  · rw [if_neg w] at ls
    omega
theorem MvQ.no (hd : 0 < p.d) (hN : NoQ p T) (hOn : ∀ j, j < p.n → OnQ p j) (hu : ∀ j, j < p.n → 0 ≤ p.un j ∧ p.un j < 3) (hL : ∀ j, j < p.n → -1 ≤ L j) (q : MvQ p h T L T' L') : NoQ p T' := by
  obtain ⟨o, t, a1, ⟨e, b1, b2⟩, a3, a4⟩ := q
  have ho := a1.1
  have h0 := a1.2.1
  have l := hL o ho
  have ht : ¬ t = -1 := by
    have := b1.1
    rcases b2 with b2 | b2
    · omega
    · omega
  have g := (shF.no ho h0 ht hd hN (hOn o ho) hu).ls (brF.ls (p := p) (o := o))
  exact fun u k a b c d => by
    rw [UsQ.cg a4]
    exact g u k a b c d
theorem MvQ.cg {T1 L1 : Nat → Int} (hE : ∀ a b x, p.E a b x → a < p.n ∧ b < p.n) (h0 : MvQ p h T L T1 L1) (xs : ∀ a, a < p.n → T a = T' a) (ys : ∀ a, a < p.n → L a = L' a) : MvQ p h T' L' T1 L1 := by
  obtain ⟨o', t', b1, b2, b3, b4⟩ := h0
  have ob := b1.1
  refine ⟨o', t', ⟨b1.1, ?_, fun j hj nt => b1.2.2.1 j hj ?_, fun j hj nt => b1.2.2.2 j hj ?_⟩, ?_, fun j hj => by rw [← ys j hj]; exact b3 j hj, fun j hj => ?_⟩
  · unfold TiQ
    rw [← xs o' ob]
    exact b1.2.1
  · unfold TiQ at nt ⊢
    rw [xs j hj]
    exact nt
  · unfold TiQ at nt ⊢
    rw [xs j (by omega)]
    exact nt
  · obtain ⟨e, p1, p2⟩ := b2
    refine ⟨e, ⟨p1.1, fun a x hx na ta => ?_, ?_⟩, ?_⟩
    · unfold TiQ at ta
      rw [← xs a (hE a o' x hx).1] at ta ⊢
      exact p1.2.1 a x hx na ta
    · rcases p1.2.2 with w | ⟨a, x, w1, w2, w3, w4⟩
      · exact Or.inl w
      · unfold TiQ at w3
        rw [xs a (hE a o' x w1).1] at w3 w4
        exact Or.inr ⟨a, x, w1, w2, w3, w4⟩
    · rcases p2 with ⟨w1, w2, w3, w4⟩ | ⟨w1, w2⟩
      · exact Or.inl ⟨w1, w2, w3.cg xs, fun t2 z1 z2 z3 => w4 t2 z1 z2 (z3.cg (fun a ha => (xs a ha).symm))⟩
      · exact Or.inr ⟨fun t2 z1 z2 z3 => w1 t2 z1 z2 (z3.cg (fun a ha => (xs a ha).symm)), by rw [← ys o' ob]; exact w2⟩
  · rw [b4 j hj]
    exact brF.cg hE ob (shF.cg ob (fun a ha => by unfold setF; rw [xs a ha]) _ (Nat.le_refl _)) hj
end QKM
end
section
/-! what the class keeps of each step's chart -/
theorem WyV.rg {E : Nat → Nat → Int → Prop} {k : Nat} {nn w : Int} {a b : Nat} (h : WyV E nn a b w) (hE : FwH E k) : w = nn ∨ (-801 ≤ w ∧ w ≤ 54) := by
  rcases h with ⟨e, -⟩ | ⟨-, ⟨p, g⟩, u⟩
  · exact Or.inl e
  · obtain ⟨p', v', g1, -, g3, g4⟩ := Wk.red hE.2.1 p a b w g
    have r := hE.rg g1 g3
    have := u _ _ g3
    have := hE.up g
    exact Or.inr (by omega)
theorem TiW.of {m m' : MM} {d : Int} {k : Nat} (hk : (CPb m d).n = k) (hE : FwH (CPb m d).E k) (hW : WyC (CPb m d) (WM m 20) (-100000)) (e : ∀ i, m' 20 i = m 20 i) : TiW (CPb m d) (WM m 20) m' := by
  have ne : ∀ a b, a < k → b < k → (¬ WM m 20 a b = -100000 ↔ Rch (CPb m d).E a b) := fun a b ha hb => by
    rcases hW a b (by omega) (by omega) with ⟨w1, w2⟩ | ⟨w1, ⟨l, w2⟩, w3⟩
    · exact ⟨fun z => absurd w1 z, fun ⟨l, v, g⟩ => absurd g (w2 l v)⟩
    · exact ⟨fun _ => ⟨l, _, w2⟩, fun _ => w1⟩
  refine ⟨fun a b ha hb hn => ?_, fun a b t => ?_, fun a t => ?_⟩
  · unfold TiB
    rw [e, e]
    have n1 := ne a b (by omega) (by omega)
    have n2 := ne b a (by omega) (by omega)
    exact ⟨fun z => ⟨hn, n1.mp z.1, n2.mp z.2⟩, fun z => ⟨n1.mpr z.2.1, n2.mpr z.2.2⟩⟩
  · obtain ⟨l, v, g⟩ := t.2.1
    have va := Wk.ends (fun a b x h => hE.v a b x h) g
    rw [e]
    refine ⟨rfl, ?_⟩
    have z := (ne a b va.1 va.2.1).mpr t.2.1
    have y := (hW a b (by omega) (by omega)).rg hE
    omega
  · obtain ⟨j, t⟩ := t
    have rr := t.2.1.tr t.2.2
    obtain ⟨l, v, g⟩ := rr
    have va := Wk.ends (fun a b x h => hE.v a b x h) g
    have z := (ne a a va.1 va.1).mpr ⟨l, v, g⟩
    rcases hW a a (by omega) (by omega) with ⟨w1, w2⟩ | ⟨w1, ⟨l2, w2⟩, w3⟩
    · exact absurd w1 z
    · have y := (hW a a (by omega) (by omega)).rg hE
      obtain ⟨l3, v3, g1, -, g3, g4⟩ := Wk.red hE.2.1 l2 a a _ w2
      have u := hE.2.1 a l3 v3 g1 g3
      rw [e]
      show -100000 ≤ WM m 20 a a ∧ WM m 20 a a ≤ 0
      omega
def ChX (m : MM) (d : Int) (Q : Nat) : Prop := (m Q 2 = m 1 0 ∧ m Q 3 = d) ∧ LstP (CPb m d) (m (Q + 1)) ∧ TmL (CPb m d) (m (Q + 1)) (m (Q + 2)) ∧ (∀ o : Nat, (o : Int) < m 1 0 → m (Q + 3) o = m (Q + 2) o + cLa m o) ∧ m Q 4 = mxW (fun o => m (Q + 2) o + cLa m o) (m 1 0).toNat ∧ (m Q 5 = 1 + mxW (fun o => m (Q + 2) o / d) (m 1 0).toNat) ∧ LnX m d Q
def DrX (m : MM) (d : Int) (Q : Nat) : Prop := (m Q 1 = 0 ∧ (d < upV (m 9 5) (m 9 6) ∨ ∀ v, ¬ Fsb (CPb m d) v)) ∨ (m Q 1 = 1 ∧ upV (m 9 5) (m 9 6) ≤ d ∧ ChX m d Q)
def ChtX (m : MM) : Prop := ∀ k : Nat, 1 ≤ k → k ≤ 12 → ¬ m (38 + 7 * k) 0 = 0 → DrX m k (38 + 7 * k)
section DRX
variable {m m' : MM} {d : Int} {Q : Nat}
theorem CPb.cg (e : ∀ A i, (0 < A ∧ A < 9 ∧ ¬ A = 4) ∨ (A = 9 ∧ i = 0) ∨ (10 ≤ A ∧ A ≤ 13) → m' A i = m A i) : CPb m' d = CPb m d := by
  have e1 : cUn m' = cUn m := funext fun o => by
    unfold cUn
    rw [e 2 o (by omega), e 5 _ (by omega)]
  have e2 : cBu m' = cBu m := funext fun o => by
    unfold cBu
    rw [e 2 o (by omega), e 7 _ (by omega)]
  have e3 : (fun u => m' 8 u) = fun u => m 8 u := funext fun u => e 8 u (by omega)
  have e4 : cwq m' 9 = cwq m 9 := funext fun i => by
    unfold cwq
    rw [e (9 + 1) i (by omega), e (9 + 2) i (by omega), e (9 + 3) i (by omega), e (9 + 4) i (by omega)]
  unfold CPb
  rw [e1, e2, e3, e4, e 1 0 (by omega), e 9 0 (by omega)]
theorem cLa.cg (e : ∀ A i, (0 < A ∧ A < 9 ∧ ¬ A = 4) → m' A i = m A i) : cLa m' = cLa m := funext fun o => by
  unfold cLa
  rw [e 2 o (by omega), e 6 _ (by omega)]
theorem ChX.fr (h : ChX m d Q) (e : ∀ A i, (0 < A ∧ A < 9 ∧ ¬ A = 4) ∨ (A = 9 ∧ i = 0) ∨ (10 ≤ A ∧ A ≤ 13) ∨ (A = Q ∧ 2 ≤ i) ∨ (Q < A ∧ A ≤ Q + 6) → m' A i = m A i) : ChX m' d Q := by
  have r1 : m' (Q + 1) = m (Q + 1) := funext fun i => e _ i (by omega)
  have r2 : m' (Q + 2) = m (Q + 2) := funext fun i => e _ i (by omega)
  have r3 : m' (Q + 3) = m (Q + 3) := funext fun i => e _ i (by omega)
  unfold ChX
  rw [CPb.cg (fun A i q => e A i (by omega)), cLa.cg (fun A i q => e A i (by omega)), r1, r2, r3, e Q 2 (by omega), e Q 3 (by omega), e Q 4 (by omega), e Q 5 (by omega), e 1 0 (by omega)]
  exact ⟨h.1, h.2.1, h.2.2.1, h.2.2.2.1, h.2.2.2.2.1, h.2.2.2.2.2.1, h.2.2.2.2.2.2.fr (fun A i q => e A i (by omega))⟩
theorem DrX.fr (h : DrX m d Q) (e : ∀ A i, (0 < A ∧ A < 9 ∧ ¬ A = 4) ∨ (A = 9 ∧ (i = 0 ∨ i = 5 ∨ i = 6)) ∨ (10 ≤ A ∧ A ≤ 13) ∨ (A = Q ∧ 1 ≤ i) ∨ (Q < A ∧ A ≤ Q + 6) → m' A i = m A i) : DrX m' d Q := by
  unfold DrX
  rw [CPb.cg (fun A i q => e A i (by omega)), e Q 1 (by omega), e 9 5 (by omega), e 9 6 (by omega)]
  exact h.imp id (fun w => ⟨w.1, w.2.1, w.2.2.fr (fun A i q => e A i (by omega))⟩)
theorem ChtX.fr (h : ChtX m) (e : ∀ A i, (0 < A ∧ A < 9 ∧ ¬ A = 4) ∨ (A = 9 ∧ (i = 0 ∨ i = 5 ∨ i = 6)) ∨ (10 ≤ A ∧ A ≤ 13) ∨ (38 ≤ A ∧ A ≤ 128) → m' A i = m A i) : ChtX m' := fun k k1 k2 z => by
  rw [e (38 + 7 * k) 0 (by omega)] at z
  exact (h k k1 k2 z).fr (fun A i q => e A i (by omega))
theorem ChtX.but {k : Nat} (h : ChtX m) (e : ∀ A i, (0 < A ∧ A < 9 ∧ ¬ A = 4) ∨ (A = 9 ∧ (i = 0 ∨ i = 5 ∨ i = 6)) ∨ (10 ≤ A ∧ A ≤ 13) ∨ (38 ≤ A ∧ A ≤ 128 ∧ ¬ (38 + 7 * k ≤ A ∧ A ≤ 38 + 7 * k + 6)) → m' A i = m A i) (g : DrX m' k (38 + 7 * k)) : ChtX m' := fun j k1 k2 z => by
  by_cases q : j = k
  · subst q; exact g
  · rw [e (38 + 7 * j) 0 (by omega)] at z
    exact (h j k1 k2 z).fr (fun A i w => e A i (by omega))
end DRX
def HstR (m : MM) : Prop := ∃ h : Nat → Int, (∀ o : Nat, (o : Int) < m 1 0 → HgQ (CPb m (m 129 0)).E o (h o)) ∧ QkX (CPb m (m 129 0)) h (m 129 1) (m 129 2) (m 130)
def HstX (m : MM) : Prop := m 129 0 = 0 ∨ HstR m
theorem HstX.fr {m m' : MM} (h : HstX m) (e : ∀ A i, (0 < A ∧ A < 9 ∧ ¬ A = 4) ∨ (A = 9 ∧ i = 0) ∨ (10 ≤ A ∧ A ≤ 13) ∨ (A = 129 ∧ i < 3) ∨ A = 130 → m' A i = m A i) : HstX m' := by
  unfold HstX HstR
  rw [e 129 0 (by omega), e 129 1 (by omega), e 129 2 (by omega), e 1 0 (by omega), CPb.cg (fun A i q => e A i (by omega)), show m' 130 = m 130 from funext fun i => e 130 i (by omega)]
  exact h
def RchX (m : MM) : Prop := RchO m ∧ HstX m
theorem RchX.fr {m m' : MM} (h : RchX m) (e : ∀ A i, (A = 19 ∧ i < 2) ∨ A = 20 ∨ (0 < A ∧ A < 9 ∧ ¬ A = 4) ∨ (A = 9 ∧ i = 0) ∨ (10 ≤ A ∧ A ≤ 13) ∨ (A = 129 ∧ i < 3) ∨ A = 130 → m' A i = m A i) : RchX m' := ⟨h.1.fr (fun A i q => e A i (by omega)), h.2.fr (fun A i q => e A i (by omega))⟩
def CcX (m : MM) : Prop := RchX m ∧ ChtX m
theorem CcX.fr {m m' : MM} (h : CcX m) (e : ∀ A i, (A = 19 ∧ i < 2) ∨ A = 20 ∨ (A = 9 ∧ (i = 0 ∨ i = 5 ∨ i = 6)) ∨ (10 ≤ A ∧ A ≤ 13) ∨ (0 < A ∧ A < 9 ∧ ¬ A = 4) ∨ (38 ≤ A ∧ A ≤ 130) → m' A i = m A i) : CcX m' := ⟨h.1.fr (fun A i q => e A i (by omega)), h.2.fr (fun A i q => e A i (by omega))⟩
end
section
/-! laid by wip/hand/tg.py: a chart is drawn, exactly -/
def DwI (mem m : MM) (d : Int) (Q : Nat) (x : Int) : Prop := (m Q 2 = mem 1 0 ∧ m Q 3 = d) ∧ LstP (CPb mem d) (m (Q + 1)) ∧ TmL (CPb mem d) (m (Q + 1)) (m (Q + 2)) ∧ (∀ o : Nat, (o : Int) < x → m (Q + 3) o = m (Q + 2) o + cLa mem o) ∧ m Q 4 = mxW (fun o => m (Q + 2) o + cLa mem o) x.toNat ∧ m Q 5 = 1 + mxW (fun o => m (Q + 2) o / d) x.toNat
theorem Fsb.cgv {p : Prb} {s s' : Nat → Int} (hP : PrW p) (h : Fsb p s) (e : ∀ o, o < p.n → s o = s' o) : Fsb p s' := by
  obtain ⟨h1, h2, t, ht⟩ := h
  refine ⟨fun o ho => by rw [← e o ho]; exact h1 o ho, fun u k a b c d => ?_, t, fun a b x hx => ?_⟩
  · have w := h2 u k a b c d
    unfold Prb.us at w ⊢
    rw [← usM_cg p.n (fun o ho _ => ⟨Iff.rfl, fun _ => e o ho⟩)]
    exact w
  · have v := (hP.2.1 a b x hx).1
    rw [← e a v.1, ← e b v.2]
    exact ht a b x hx
theorem LstP.cgv {p : Prb} {s s' : Nat → Int} (hP : PrW p) (h : LstP p s) (e : ∀ o, o < p.n → s o = s' o) : LstP p s' := ⟨h.1.cgv hP e, fun v hv j hj k => by
  rw [← e j hj]
  exact h.2 v hv j hj (fun i hi => (k i hi).trans (e i (by omega)).symm)⟩
section DRW
variable {mem m m' : MM} {d x y : Int} {Q : Nat}
theorem DwI.ini (h1 : m Q 2 = mem 1 0 ∧ m Q 3 = d) (h2 : LstP (CPb mem d) (m (Q + 1))) (h3 : TmL (CPb mem d) (m (Q + 1)) (m (Q + 2))) (h4 : m Q 4 = 0) (h5 : m Q 5 = 1) : DwI mem m d Q 0 := ⟨h1, h2, h3, fun o ho => absurd ho (by omega), h4, h5⟩
theorem DwI.nxt (h : DwI mem m d Q x) (e : y = x + 1) (h0 : 0 ≤ x) (en : ∀ B j, ¬ (B = Q + 3 ∧ j = x.toNat) → ¬ (B = Q ∧ j = 4) → ¬ (B = Q ∧ j = 5) → m' B j = m B j) (e3 : m' (Q + 3) x.toNat = m (Q + 2) x.toNat + cLa mem x.toNat) (e4 : m' Q 4 = max (m Q 4) (m (Q + 2) x.toNat + cLa mem x.toNat)) (e5 : m' Q 5 = max (m Q 5) (m (Q + 2) x.toNat / d + 1)) : DwI mem m' d Q y := by
  obtain ⟨h1, h2, h3, h4, h5, h6⟩ := h
  have r1 : m' (Q + 1) = m (Q + 1) := funext fun i => en _ i (by omega) (by omega) (by omega)
  have r2 : m' (Q + 2) = m (Q + 2) := funext fun i => en _ i (by omega) (by omega) (by omega)
  unfold DwI
  rw [r1, r2, en Q 2 (by omega) (by omega) (by omega), en Q 3 (by omega) (by omega) (by omega)]
  refine ⟨h1, h2, h3, fun o ho => ?_, ?_, ?_⟩
  · by_cases q : o = x.toNat
    · subst q; exact e3
    · rw [en _ o (by omega) (by omega) (by omega)]; exact h4 o (by omega)
  · rw [e, mxW_st h0, e4, h5]
  · rw [e, mxW_st h0, e5, h6]
    omega
theorem DwI.chx (h : DwI mem m d Q (mem 1 0)) (g : LnX m d Q) (e : ∀ A i, (0 < A ∧ A < 9 ∧ ¬ A = 4) ∨ (A = 9 ∧ i = 0) ∨ (10 ≤ A ∧ A ≤ 13) → m A i = mem A i) : ChX m d Q := by
  unfold ChX
  rw [CPb.cg e, cLa.cg (fun A i q => e A i (by omega)), e 1 0 (by omega)]
  exact ⟨h.1, h.2.1, h.2.2.1, h.2.2.2.1, h.2.2.2.2.1, h.2.2.2.2.2, g⟩
theorem DwI.fin (h : DwI mem m d Q x) (q : x = mem 1 0) (e : ∀ A i, ¬ (A = Q ∧ (i = 6 ∨ i = 7)) → ¬ A = Q + 4 → ¬ A = Q + 5 → ¬ A = Q + 6 → m' A i = m A i) : DwI mem m' d Q (mem 1 0) := by
  rw [q] at h
  have r1 : m' (Q + 1) = m (Q + 1) := funext fun i => e _ i (by omega) (by omega) (by omega) (by omega)
  have r2 : m' (Q + 2) = m (Q + 2) := funext fun i => e _ i (by omega) (by omega) (by omega) (by omega)
  have r3 : m' (Q + 3) = m (Q + 3) := funext fun i => e _ i (by omega) (by omega) (by omega) (by omega)
  unfold DwI
  rw [r1, r2, r3, e Q 2 (by omega) (by omega) (by omega) (by omega), e Q 3 (by omega) (by omega) (by omega) (by omega), e Q 4 (by omega) (by omega) (by omega) (by omega), e Q 5 (by omega) (by omega) (by omega) (by omega)]
  exact h
end DRW
theorem f_108e {S : Nat × (Nat → Int32)} {n : Nat} {mem : MM} {K : Int → MM → Prop} {E : Nat → MM → Prop} {Q : Nat} (hQ : ChSh Q) (hO : ChtOK mem Q) {o : Int} (ho : 0 ≤ o ∧ o < 8) (h3 : 1 ≤ mem Q 3) (H : ∀ r, r = mem (Q + 2) o.toNat / mem Q 3 → 0 ≤ r → r ≤ 11000 → K r mem) : CQI (Ex S (n + 1)) 108 [.inr Q, .inl o] mem K E := by
  refine CY.of (k := 0) mt_108 rfl rfl (fun hv => ?_)
  have hC := Ex.mono S n
  have ii_o : InI o := hv (.inl o) (by simp)
  unfold InI at ii_o
  clear hv
  have hq8 := hQ.rg
  have hO1 := hO.1
  show Tx (Ex S n) S M_108 (kI K E) 0 0 0 [some (.inr Q), some (.inl o)] [] mem
  refine Tx.aload_n hC te_108_0 rfl ?_
  refine Tx.getI hC te_108_1 hQ.s0 rfl rfl (fun v1 v1e v1i => ?_)
  unfold InI at v1i
  refine Tx.ifc hC (t := 11) te_108_4 (by decide) (fun q2 => ?_) (fun q2 => ?_)
  · replace q2 : 0 < (v1 : Int) := q2
    refine Tx.aload_n hC te_108_11 rfl ?_
    refine Tx.getR hC te_108_12 hQ.s0 rfl rfl ?_
    refine Tx.iload_n hC te_108_15 rfl ?_
    refine Tx.iald hC te_108_16 hQ.s2 (by omega) (fun v3 v3e v3i => ?_)
    unfold InI at v3i
    have f4 := hO.2 (Int.toNat o) (by omega)
    refine Tx.aload_n hC te_108_17 rfl ?_
    refine Tx.getI hC te_108_18 hQ.s0 rfl rfl (fun v5 v5e v5i => ?_)
    unfold InI at v5i
    refine Tx.idivW hC te_108_21 (by omega) (fun z6 z6i z6e z6f => ?_)
    unfold InI at z6i
    exact Tx.ireturn hC te_108_22 rfl (fun hr => show K z6 mem from (by first | (exfalso; omega) | (refine H _ ?_ (by omega) (by omega); simp_all [Int.tdiv_eq_ediv_of_nonneg])))
  · replace q2 : ¬ (0 < (v1 : Int)) := q2
    refine Tx.iconst hC te_108_7 rfl ?_
    refine Tx.goto hC (t := 22) te_108_8 (by decide) ?_
    exact Tx.ireturn hC te_108_22 rfl (fun hr => show K 0 mem from (by first | (exfalso; omega) | (refine H _ ?_ (by omega) (by omega); simp_all [Int.tdiv_eq_ediv_of_nonneg])))
set_option maxHeartbeats 1000000 in
theorem f_106e {S : Nat × (Nat → Int32)} {n : Nat} {mem : MM} {K : MM → Prop} {E : Nat → MM → Prop} {Q : Nat} (hQ : ChSh Q) (hO : ChtOK mem Q) (hB : BodyOK mem) (hW9 : WbOK mem 9) (hWS : WbS mem) (hSl : ∀ o, o < 8 → 0 ≤ mem 22 o ∧ mem 22 o ≤ 11) {d : Int} (hd : 1 ≤ d ∧ d ≤ 12) (hP : PrW (CPb mem d)) (hL : LstP (CPb mem d) (mem 22)) (H : ∀ m', Frm (pCh Q) mem m' → ChtOK m' Q → DwI mem m' d Q (mem 1 0) → m' Q 1 = mem Q 1 → LnX m' d Q → K m') : CQV (Ex S (n + 4)) 106 [.inr Q, .inr 1, .inr 9, .inr 22, .inl d] mem K E := by
  refine CY.of (k := 1) mt_106 rfl rfl (fun hv => ?_)
  have hC := Ex.mono S (n + 3)
  have ii_d : InI d := hv (.inl d) (by simp)
  unfold InI at ii_d
  clear hv
  have hq8 := hQ.rg
  show Tx (Ex S (n + 3)) S M_106 (kV K E) 0 0 0 [some (.inr Q), some (.inr 1), some (.inr 9), some (.inr 22), some (.inl d), none] [] mem
  have l_44 : ∀ (N : Nat) (x5 : Int) (m_44 : MM), (0 ≤ x5 ∧ x5 ≤ mem 1 0) → (ChtOK m_44 Q) → (DwI mem m_44 d Q x5) → (m_44 Q 1 = mem Q 1) → ((8 - x5).toNat) < N → Frm (pCh Q) mem m_44 → Tx (Ex S (n + 3)) S M_106 (kV K E) 0 0 44 [some (.inr Q), some (.inr 1), some (.inr 9), some (.inr 22), some (.inl d), some (.inl x5)] [] m_44 := by
    intro N
    induction N with
    | zero => intros; omega
    | succ N ih_44 =>
      intro x5 m_44 i44_0 i44_1 i44_2 i44_3 hN_44 hF_44
      have dw := i44_2.1
      have h8 := hB.1
      refine Tx.iload hC te_106_44 rfl ?_
      refine Tx.aload_n hC te_106_46 rfl ?_
      refine Tx.getI hC te_106_47 hQ.s0 rfl rfl (fun v1 v1e v1i => ?_)
      unfold InI at v1i
      have f2 := i44_1.1
      refine Tx.icmp hC (t := 117) te_106_50 (by decide) (fun q3 => ?_) (fun q3 => ?_)
      · replace q3 : v1 ≤ (x5 : Int) := q3
        refine Tx.aload_n hC te_106_117 rfl ?_
        refine Tx.aload_n hC te_106_118 rfl ?_
        refine Tx.virtV hC te_106_119 mt_109 (args := [.inr Q, .inr 1]) (rest := []) (c' := 0) (s' := 0) rfl rfl rfl rfl rfl rfl rfl rfl hQ.s0 rfl ?_
        refine f_109e hQ i44_1 (hB.fr (fun A i a b => hF_44 A i (by unfold pCh; omega))) hd dw.2 (by rw [dw.1]; exact (hF_44 1 0 (by unfold pCh; omega)).symm) (fun m5 hF6 r4L => ?_)
        have r4I := ChtOK.fr2 i44_1 (fun A i q => hF6 A i (by unfold pLi; omega))
        have bb := (hB.fr (fun A i a b => hF_44 A i (by unfold pCh; omega)))
        have fn := hF_44 1 0 (by unfold pCh; omega)
        have hF6n : Frm (pCh Q) mem m5 := hF_44.tr (hF6.mono (fun A i q => by unfold pLi at q; unfold pCh; omega))
        refine Tx.aload_n hC te_106_122 rfl ?_
        refine Tx.aload_n hC te_106_123 rfl ?_
        refine Tx.virtV hC te_106_124 mt_110 (args := [.inr Q, .inr 1]) (rest := []) (c' := 0) (s' := 0) rfl rfl rfl rfl rfl rfl rfl rfl hQ.s0 rfl ?_
        refine f_110e hQ r4I (hB.fr (fun A i a b => hF6n A i (by unfold pCh; omega))) hd (by rw [hF6 Q 3 (by unfold pLi; omega)]; exact dw.2) (by rw [hF6 Q 2 (by unfold pLi; omega), hF6 1 0 (by unfold pLi; omega), dw.1]; exact fn.symm) (fun o ho => r4L.rg i44_1 bb hd (by omega) o (by rw [← hF6 1 0 (by unfold pLi; omega)]; exact ho)) (fun m8 hF9 r7N r7P => ?_)
        have r7I := ChtOK.fr2 r4I (fun A i q => hF9 A i (by unfold pNm; omega))
        have hF9n : Frm (pCh Q) mem m8 := hF6n.tr (hF9.mono (fun A i q => by unfold pNm at q; unfold pCh; omega))
        exact Tx.vret hC te_106_127 rfl (show K m8 from H _ hF9n r7I (i44_2.fin (by omega) (fun A i a b c e => (hF9 A i (by unfold pNm; omega)).trans (hF6 A i (by unfold pLi; omega)))) ((hF9 Q 1 (by unfold pNm; omega)).trans ((hF6 Q 1 (by unfold pLi; omega)).trans i44_3)) (LnX.of r4L r7N r7P hF6 hF9 hq8.1))
      · replace q3 : ¬ (v1 ≤ (x5 : Int)) := q3
        refine Tx.aload_n hC te_106_53 rfl ?_
        refine Tx.getR hC te_106_54 hQ.s0 rfl rfl ?_
        refine Tx.iload hC te_106_57 rfl ?_
        refine Tx.aload_n hC te_106_59 rfl ?_
        refine Tx.getR hC te_106_60 hQ.s0 rfl rfl ?_
        refine Tx.iload hC te_106_63 rfl ?_
        refine Tx.iald hC te_106_65 hQ.s2 (by omega) (fun v10 v10e v10i => ?_)
        unfold InI at v10i
        have f11 := i44_1.2 (Int.toNat x5) (by omega)
        refine Tx.aload_n hC te_106_66 rfl ?_
        refine Tx.iload hC te_106_67 rfl ?_
        refine Tx.virtI hC te_106_69 mt_19 (args := [.inr 1, .inl x5]) (rest := [.inl v10, .inl x5, .inr (Q + 3)]) (c' := 0) (s' := 0) rfl rfl rfl rfl rfl rfl rfl rfl rfl rfl ?_
        refine CWI.q hC (f_19e (hB.fr (fun A i a b => hF_44 A i (by unfold pCh; omega))) (by omega) (fun r12a r12b r12i => ?_))
        have la : cLa2 m_44 (Int.toNat x5) = cLa mem x5.toNat := by
          unfold cLa2 cLa
          rw [hF_44 2 _ (by unfold pCh; omega), hF_44 6 _ (by unfold pCh; omega)]
        refine Tx.iaddW hC te_106_72 (fun z15 z15i z15e => ?_)
        unfold InI at z15i z15e
        first | replace z15e := z15e (by omega) | clear z15e
        refine Tx.iast hC te_106_73 hQ.s3 (by omega) ?_
        have hF17 : Frm (pCh Q) mem (upm m_44 (Q + 3) (Int.toNat x5) z15) := Frm.up hF_44 (by unfold pCh; omega)
        have hI18 : ChtOK (upm m_44 (Q + 3) (Int.toNat x5) z15) Q := ChtOK.up3 i44_1 (by omega)
        have m16e : (upm m_44 (Q + 3) (Int.toNat x5) z15) (Q + 3) (Int.toNat x5) = z15 := upm_eq
        have m16n : ∀ B j, ¬ (B = (Q + 3) ∧ j = (Int.toNat x5)) → (upm m_44 (Q + 3) (Int.toNat x5) z15) B j = m_44 B j := fun B j q => upm_ne q
        generalize upm m_44 (Q + 3) (Int.toNat x5) z15 = m16 at hF17 hI18 m16e m16n ⊢
        refine Tx.aload_n hC te_106_74 rfl ?_
        refine Tx.aload_n hC te_106_75 rfl ?_
        refine Tx.getI hC te_106_76 hQ.s0 rfl rfl (fun v19 v19e v19i => ?_)
        unfold InI at v19i
        refine Tx.aload_n hC te_106_79 rfl ?_
        refine Tx.getR hC te_106_80 hQ.s0 rfl rfl ?_
        refine Tx.iload hC te_106_83 rfl ?_
        refine Tx.iald hC te_106_85 hQ.s3 (by omega) (fun v20 v20e v20i => ?_)
        unfold InI at v20i
        refine Tx.statI hC te_106_86 (by decide) mt_40 (args := [.inl v19, .inl v20]) (rest := [.inr Q]) (c' := 0) (s' := 0) rfl rfl rfl rfl rfl rfl rfl ?_
        refine f_40q (fun r21 r21a r21b r21c r21i => ?_)
        unfold InI at r21i
        refine Tx.putI hC te_106_89 hQ.s0 rfl rfl rfl ?_
        have hF25 : Frm (pCh Q) mem (upm m16 Q 4 r21) := Frm.up hF17 (by unfold pCh; omega)
        have hI26 : ChtOK (upm m16 Q 4 r21) Q := ChtOK.fr2 hI18 (fun A i q => upm_ne (by omega))
        have m24e : (upm m16 Q 4 r21) Q 4 = r21 := upm_eq
        have m24n : ∀ B j, ¬ (B = Q ∧ j = 4) → (upm m16 Q 4 r21) B j = m16 B j := fun B j q => upm_ne q
        generalize upm m16 Q 4 r21 = m24 at hF25 hI26 m24e m24n ⊢
        refine Tx.aload_n hC te_106_92 rfl ?_
        refine Tx.aload_n hC te_106_93 rfl ?_
        refine Tx.getI hC te_106_94 hQ.s0 rfl rfl (fun v27 v27e v27i => ?_)
        unfold InI at v27i
        refine Tx.aload_n hC te_106_97 rfl ?_
        refine Tx.iload hC te_106_98 rfl ?_
        refine Tx.virtI hC te_106_100 mt_108 (args := [.inr Q, .inl x5]) (rest := [.inl v27, .inr Q]) (c' := 0) (s' := 0) rfl rfl rfl rfl rfl rfl rfl rfl hQ.s0 rfl ?_
        have q3 : m24 Q 3 = d := by rw [m24n Q 3 (by omega), m16n Q 3 (by omega)]; exact dw.2
        refine f_108e hQ hI26 (by omega) (by omega) (fun r28 r28e r28a r28b r28i => ?_)
        unfold InI at r28i
        refine Tx.iconst hC te_106_103 rfl ?_
        refine Tx.iaddW hC te_106_104 (fun z31 z31i z31e => ?_)
        unfold InI at z31i z31e
        first | replace z31e := z31e (by omega) | clear z31e
        refine Tx.statI hC te_106_105 (by decide) mt_40 (args := [.inl v27, .inl z31]) (rest := [.inr Q]) (c' := 0) (s' := 0) rfl rfl rfl rfl rfl rfl rfl ?_
        refine f_40q (fun r32 r32a r32b r32c r32i => ?_)
        unfold InI at r32i
        refine Tx.putI hC te_106_108 hQ.s0 rfl rfl rfl ?_
        have hF36 : Frm (pCh Q) mem (upm m24 Q 5 r32) := Frm.up hF25 (by unfold pCh; omega)
        have hI37 : ChtOK (upm m24 Q 5 r32) Q := ChtOK.fr2 hI26 (fun A i q => upm_ne (by omega))
        have m35e : (upm m24 Q 5 r32) Q 5 = r32 := upm_eq
        have m35n : ∀ B j, ¬ (B = Q ∧ j = 5) → (upm m24 Q 5 r32) B j = m24 B j := fun B j q => upm_ne q
        generalize upm m24 Q 5 r32 = m35 at hF36 hI37 m35e m35n ⊢
        have w3 : m35 (Q + 3) x5.toNat = m_44 (Q + 2) x5.toNat + cLa mem x5.toNat := by
          rw [m35n _ _ (by omega), m24n _ _ (by omega), m16e]
          omega
        have w4 : m35 Q 4 = max (m_44 Q 4) (m_44 (Q + 2) x5.toNat + cLa mem x5.toNat) := by
          rw [m35n Q 4 (by omega), m24e]
          have a : v19 = m_44 Q 4 := by rw [v19e, m16n Q 4 (by omega)]
          have b : v20 = z15 := by rw [v20e, m16e]
          omega
        have w5 : m35 Q 5 = max (m_44 Q 5) (m_44 (Q + 2) x5.toNat / d + 1) := by
          rw [m35e]
          have a : v27 = m_44 Q 5 := by rw [v27e, m24n Q 5 (by omega), m16n Q 5 (by omega)]
          have b : r28 = m_44 (Q + 2) x5.toNat / d := by rw [r28e, q3, m24n (Q + 2) _ (by omega), m16n (Q + 2) _ (by omega)]
          rw [← b]
          omega
        have en : ∀ B j, ¬ (B = Q + 3 ∧ j = x5.toNat) → ¬ (B = Q ∧ j = 4) → ¬ (B = Q ∧ j = 5) → m35 B j = m_44 B j := fun B j a b c => by rw [m35n B j (by omega), m24n B j (by omega), m16n B j (by omega)]
        refine Tx.iincW hC te_106_111 rfl rfl (fun z38 z38i z38e => ?_)
        unfold InI at z38i z38e
        first | replace z38e := z38e (by omega) | clear z38e
        refine Tx.goto hC (t := 44) te_106_114 (by decide) ?_
        exact ih_44 z38 m35 (by omega) (hI37) (by first | exact gw | exact i44_2.nxt (by omega) (by omega) en w3 w4 w5) (by first | exact g1q | exact (en Q 1 (by omega) (by omega) (by omega)).trans i44_3) (by omega) hF36
  refine Tx.aload_n hC te_106_0 rfl ?_
  refine Tx.aload_n hC te_106_1 rfl ?_
  refine Tx.getI hC te_106_2 rfl rfl rfl (fun v39 v39e v39i => ?_)
  unfold InI at v39i
  refine Tx.putI hC te_106_5 hQ.s0 rfl rfl rfl ?_
  have hF41 : Frm (pCh Q) mem (upm mem Q 2 v39) := Frm.up Frm.rf (by unfold pCh; omega)
  refine Tx.aload_n hC te_106_8 rfl ?_
  refine Tx.iload hC te_106_9 rfl ?_
  refine Tx.putI hC te_106_11 hQ.s0 rfl rfl rfl ?_
  have hF43 : Frm (pCh Q) mem (upm (upm mem Q 2 v39) Q 3 d) := Frm.up hF41 (by unfold pCh; omega)
  refine Tx.aload_n hC te_106_14 rfl ?_
  refine Tx.iconst hC te_106_15 rfl ?_
  refine Tx.aload_n hC te_106_16 rfl ?_
  refine Tx.getR hC te_106_17 hQ.s0 rfl rfl ?_
  refine Tx.iconst hC te_106_20 rfl ?_
  refine Tx.bipush hC te_106_21 rfl rfl ?_
  refine Tx.copy hC te_106_23 rfl hQ.s1 (by omega) rfl (fun m44 m44a m44b => ?_)
  have hD1 := dr_start hQ hO hB hSl (by assumption) hd m44a m44b
  refine Tx.aload_n hC te_106_26 rfl ?_
  refine Tx.aload_n hC te_106_27 rfl ?_
  refine Tx.virtV hC te_106_28 mt_107 (args := [.inr Q, .inr 9]) (rest := []) (c' := 0) (s' := 0) rfl rfl rfl rfl rfl rfl rfl rfl hQ.s0 rfl ?_
  have e1 : m44 (Q + 1) = fun i => if i < 8 then mem 22 i else m44 (Q + 1) i := funext fun i => by
    by_cases q : i < 8
    · rw [if_pos q, m44b i, if_pos (by omega), upm_ne (by omega), upm_ne (by omega)]
      congr 1
      omega
    · rw [if_neg q]
  have e3 : m44 Q 3 = d := by rw [m44a Q 3 (by omega), upm_eq]
  have ec : CPb m44 d = CPb mem d := CPb.cg (fun A i q => hD1.2.2 A i (by unfold pCh; omega))
  have n8 := hB.1
  have hL2 : LstP (CPb mem d) (m44 (Q + 1)) := hL.cgv hP (fun o ho => by
    have w : o < (mem 1 0).toNat := ho
    rw [e1]
    exact (if_pos (by omega)).symm)
  refine f_107e hQ (by rw [hD1.2.1, hD1.2.2 1 0 (by unfold pCh; omega)]) (by rw [hD1.2.2 1 0 (by unfold pCh; omega)]; exact hB.1) hD1.1.1.2.1 (fun o ho => (hD1.1.2 o ho).1) (fun o ho => ⟨(hD1.1.2 o ho).2.1, fun z => by omega⟩) (hW9.fr (fun A i a b => hD1.2.2 A i (by unfold pCh; omega))) (hWS.fr (fun A i a => hD1.2.2 A i (by unfold pCh; omega))) (by rw [e3, ec]; exact hP) (by rw [e3, ec]; exact hL2.1.2.2) (fun m47 hF48 r46D r46T => ?_)
  have r46I := dr_times hD1.1 hF48 r46D
  rw [e3, ec] at r46T
  have k1 : m47 (Q + 1) = m44 (Q + 1) := funext fun i => hF48 (Q + 1) i (by unfold pTm; omega)
  have k2 : m47 Q 2 = mem 1 0 := (hF48 Q 2 (by unfold pTm; omega)).trans hD1.2.1
  have k4 : m47 Q 1 = mem Q 1 := (hF48 Q 1 (by unfold pTm; omega)).trans (by rw [m44a Q 1 (by omega), upm_ne (by omega), upm_ne (by omega)])
  have k3 : m47 Q 3 = d := (hF48 Q 3 (by unfold pTm; omega)).trans e3
  rw [← k1] at hL2 r46T
  have tk := r46T
  have hF48n : Frm (pCh Q) mem m47 := hD1.2.2.tr (hF48.mono (fun A i q => by unfold pTm at q; unfold pCh; omega))
  refine Tx.aload_n hC te_106_31 rfl ?_
  refine Tx.iconst hC te_106_32 rfl ?_
  refine Tx.putI hC te_106_33 hQ.s0 rfl rfl rfl ?_
  have hF50 : Frm (pCh Q) mem (upm m47 Q 4 0) := Frm.up hF48n (by unfold pCh; omega)
  have hI51 : ChtOK (upm m47 Q 4 0) Q := ChtOK.fr2 r46I (fun A i q => upm_ne (by omega))
  have m49e : (upm m47 Q 4 0) Q 4 = 0 := upm_eq
  have m49n : ∀ B j, ¬ (B = Q ∧ j = 4) → (upm m47 Q 4 0) B j = m47 B j := fun B j q => upm_ne q
  generalize upm m47 Q 4 0 = m49 at hF50 hI51 m49e m49n ⊢
  refine Tx.aload_n hC te_106_36 rfl ?_
  refine Tx.iconst hC te_106_37 rfl ?_
  refine Tx.putI hC te_106_38 hQ.s0 rfl rfl rfl ?_
  have hF53 : Frm (pCh Q) mem (upm m49 Q 5 1) := Frm.up hF50 (by unfold pCh; omega)
  have hI54 : ChtOK (upm m49 Q 5 1) Q := ChtOK.fr2 hI51 (fun A i q => upm_ne (by omega))
  have m52e : (upm m49 Q 5 1) Q 5 = 1 := upm_eq
  have m52n : ∀ B j, ¬ (B = Q ∧ j = 5) → (upm m49 Q 5 1) B j = m49 B j := fun B j q => upm_ne q
  generalize upm m49 Q 5 1 = m52 at hF53 hI54 m52e m52n ⊢
  have g1 : m52 (Q + 1) = m47 (Q + 1) := funext fun i => by rw [m52n _ _ (by omega), m49n _ _ (by omega)]
  have g2 : m52 (Q + 2) = m47 (Q + 2) := funext fun i => by rw [m52n _ _ (by omega), m49n _ _ (by omega)]
  have g1q : m52 Q 1 = mem Q 1 := by rw [m52n Q 1 (by omega), m49n Q 1 (by omega)]; exact k4
  have gw : DwI mem m52 d Q 0 := DwI.ini ⟨by rw [m52n Q 2 (by omega), m49n Q 2 (by omega)]; exact k2, by rw [m52n Q 3 (by omega), m49n Q 3 (by omega)]; exact k3⟩ (by rw [g1]; exact hL2) (by rw [g1, g2]; exact tk) (by rw [m52n Q 4 (by omega), m49e]) m52e
  refine Tx.iconst hC te_106_41 rfl ?_
  refine Tx.istore hC te_106_42 rfl ?_
  exact l_44 _ 0 m52 (by omega) (hI54) (by first | exact gw | exact i44_2.nxt (by omega) (by omega) en w3 w4 w5) (by first | exact g1q | exact (en Q 1 (by omega) (by omega) (by omega)).trans i44_3) (Nat.lt_succ_self _) hF53
end

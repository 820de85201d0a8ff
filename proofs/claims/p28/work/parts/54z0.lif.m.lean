section
/-! lives and names of a plan, told by functions -/
def mxW (f : Nat → Int) : Nat → Int
  | 0 => 0
  | n + 1 => max (mxW f n) (f n)
theorem mxW_st {f : Nat → Int} {x : Int} (h : 0 ≤ x) : mxW f (x + 1).toNat = max (mxW f x.toNat) (f x.toNat) := by
  rw [show (x + 1).toNat = x.toNat + 1 by omega]
  rfl
theorem mxW_rg {f : Nat → Int} {c : Int} (hc : 0 ≤ c) : ∀ n : Nat, (∀ i, i < n → f i ≤ c) → 0 ≤ mxW f n ∧ mxW f n ≤ c
  | 0, _ => by unfold mxW; omega
  | n + 1, h => by
    have := mxW_rg hc n (fun i hi => h i (by omega))
    have := h n (by omega)
    unfold mxW; omega
theorem mxW_eq {f g : Nat → Int} : ∀ n : Nat, (∀ i, i < n → f i = g i ∨ (f i ≤ 0 ∧ g i ≤ 0)) → mxW f n = mxW g n
  | 0, _ => rfl
  | n + 1, h => by
    have r := (mxW_rg (f := f) (c := max 0 (mxW f n)) (by omega) 0 (fun i hi => by omega)).1
    have p : ∀ k : Nat, 0 ≤ mxW f k := fun k => by
      induction k with
      | zero => unfold mxW; omega
      | succ k ih => unfold mxW; omega
    have q : ∀ k : Nat, 0 ≤ mxW g k := fun k => by
      induction k with
      | zero => unfold mxW; omega
      | succ k ih => unfold mxW; omega
    have e := mxW_eq n (fun i hi => h i (by omega))
    have e2 := h n (by omega)
    have p1 := p n
    unfold mxW
    omega
theorem mxW_ge {f : Nat → Int} {i : Nat} : ∀ n : Nat, i < n → f i ≤ mxW f n
  | 0, h => absurd h (by omega)
  | n + 1, h => by
    unfold mxW
    by_cases e : i = n
    · subst e; omega
    · have := mxW_ge (f := f) n (show i < n by omega)
      omega
def lvS (cs : Nat → Int) (sa sb : Nat → Nat → Int) (T : Nat → Int) (d c : Int) (o u k : Nat) (acc : Int) : Int := if (k : Int) < cs u ∧ sa u k = (o : Int) then max acc (T u + d * sb u k - c + 1) else acc
def lvP (cs : Nat → Int) (sa sb : Nat → Nat → Int) (T : Nat → Int) (d c : Int) (o u : Nat) (acc : Int) : Nat → Int
  | 0 => acc
  | k + 1 => lvS cs sa sb T d c o u k (lvP cs sa sb T d c o u acc k)
def lvN (cs : Nat → Int) (sa sb : Nat → Nat → Int) (T : Nat → Int) (d c : Int) (o : Nat) : Nat → Int
  | 0 => 0
  | u + 1 => lvP cs sa sb T d c o u (lvN cs sa sb T d c o u) 2
def cpF (k l d : Int) : Int := if k = 5 then 0 else max 1 (upV l d)
def smF (f : Nat → Int) : Nat → Int
  | 0 => 0
  | n + 1 => smF f n + f n
def PrX (c all p : Int) : Prop := (c ≤ 0 ∧ p = c) ∨ (0 < c ∧ c ≤ p ∧ p ≤ all ∧ all % p = 0 ∧ ∀ q : Int, c ≤ q → q < p → ¬ all % q = 0)
section LIF
variable {cs : Nat → Int} {sa sb : Nat → Nat → Int} {T : Nat → Int} {d c acc : Int} {o u k : Nat}
theorem PrX.eq {all p p' : Int} (h : PrX c all p) (g : PrX c all p') : p = p' := by
  rcases h with h | ⟨h1, h2, h3, h4, h5⟩
  · rcases g with g | g
    · rw [h.2, g.2]
    · omega
  · rcases g with g | ⟨g1, g2, g3, g4, g5⟩
    · omega
    · by_cases q : p < p'
      · exact absurd h4 (g5 p h2 q)
      · by_cases q2 : p' < p
        · exact absurd g4 (h5 p' g2 q2)
        · omega
theorem lvS_no (h : ¬ ((k : Int) < cs u ∧ sa u k = (o : Int))) : lvS cs sa sb T d c o u k acc = acc := if_neg h
theorem lvS_yes (h1 : (k : Int) < cs u) (h2 : sa u k = (o : Int)) : lvS cs sa sb T d c o u k acc = max acc (T u + d * sb u k - c + 1) := if_pos ⟨h1, h2⟩
theorem lvP_out (hk : k ≤ 2) (h : cs u ≤ (k : Int)) : lvP cs sa sb T d c o u acc k = lvP cs sa sb T d c o u acc 2 := by
  by_cases e2 : k = 2
  · rw [e2]
  · have s1 : ¬ (((1 : Nat) : Int) < cs u ∧ sa u 1 = (o : Int)) := fun z => by
      have := z.1
      omega
    have e3 : lvP cs sa sb T d c o u acc 2 = lvP cs sa sb T d c o u acc 1 := lvS_no s1
    rw [e3]
    by_cases e : k = 1
    · rw [e]
    · have e0 : k = 0 := by omega
      subst e0
      exact (lvS_no (k := 0) (fun z => by
        have := z.1
        omega)).symm
theorem lvN_rg {B : Int} (hB : 0 ≤ B) : ∀ n : Nat, (∀ u k : Nat, u < n → (k : Int) < cs u → sa u k = (o : Int) → T u + d * sb u k - c + 1 ≤ B) → 0 ≤ lvN cs sa sb T d c o n ∧ lvN cs sa sb T d c o n ≤ B
  | 0, _ => ⟨Int.le_refl _, hB⟩
  | n + 1, h => by
    have g := lvN_rg hB n (fun u k hu => h u k (by omega))
    have st : ∀ (k : Nat) (a : Int), 0 ≤ a ∧ a ≤ B → 0 ≤ lvS cs sa sb T d c o n k a ∧ lvS cs sa sb T d c o n k a ≤ B := fun k a ha => by
      unfold lvS
      split
      · rename_i q
        have := h n k (by omega) q.1 q.2
        omega
      · exact ha
    exact st 1 _ (st 0 _ g)
theorem smF_cg {f g : Nat → Int} : ∀ n : Nat, (∀ i, i < n → f i = g i) → smF f n = smF g n
  | 0, _ => rfl
  | n + 1, h => by
    unfold smF
    rw [smF_cg n (fun i hi => h i (by omega)), h n (by omega)]
theorem mxW_cg {f g : Nat → Int} (n : Nat) (h : ∀ i, i < n → f i = g i) : mxW f n = mxW g n := mxW_eq n (fun i hi => Or.inl (h i hi))
end LIF
def sAC (m : MM) (u k : Nat) : Int := m 3 (4 * u + 2 * k)
def sBC (m : MM) (u k : Nat) : Int := m 3 (4 * u + 2 * k + 1)
def LvR (mem m : MM) (d : Int) (Q : Nat) (x : Int) : Prop := ∀ o : Nat, (o : Int) < mem 1 0 → m (Q + 4) o = lvN (csN mem) (sAC mem) (sBC mem) (mem (Q + 2)) d (mem (Q + 3) o) o x.toNat
def LvQ (mem m : MM) (d : Int) (Q u : Nat) (x : Int) : Prop := ∀ o : Nat, (o : Int) < mem 1 0 → m (Q + 4) o = lvP (csN mem) (sAC mem) (sBC mem) (mem (Q + 2)) d (mem (Q + 3) o) o u (lvN (csN mem) (sAC mem) (sBC mem) (mem (Q + 2)) d (mem (Q + 3) o) o u) x.toNat
def NmR (mem m : MM) (d : Int) (Q : Nat) (x : Int) : Prop := (∀ o : Nat, (o : Int) < x → m (Q + 5) o = cpF (mem 2 o) (mem (Q + 4) o) d) ∧ m Q 6 = smF (m (Q + 5)) x.toNat ∧ m Q 7 = max 1 (mxW (m (Q + 5)) x.toNat)
section LVC
variable {mem m m' : MM} {d x y z v a : Int} {Q u : Nat}
theorem LvR.inn (h : LvR mem m d Q x) : LvQ mem m d Q x.toNat 0 := fun o ho => h o ho
theorem LvQ.no (h : LvQ mem m d Q u x) (e : y = x + 1) (h0 : 0 ≤ x) (hn : mem 3 (4 * u + 2 * x.toNat) < 0) : LvQ mem m d Q u y := fun o ho => by
  rw [show y.toNat = x.toNat + 1 by omega, h o ho]
  exact (lvS_no (fun z => by have w : mem 3 (4 * u + 2 * x.toNat) = (o : Int) := z.2; omega)).symm
theorem LvQ.hit (h : LvQ mem m d Q u x) (e : y = x + 1) (h0 : 0 ≤ x) (hc : x < csN mem u) (ha : a = mem 3 (4 * u + 2 * x.toNat)) (h0a : 0 ≤ a) (hv : v = max (m (Q + 4) a.toNat) (mem (Q + 2) u + d * mem 3 (4 * u + 2 * x.toNat + 1) - mem (Q + 3) a.toNat + 1)) (em : ∀ o, m' (Q + 4) o = if o = a.toNat then v else m (Q + 4) o) : LvQ mem m' d Q u y := fun o ho => by
  rw [show y.toNat = x.toNat + 1 by omega, em]
  show _ = lvS (csN mem) (sAC mem) (sBC mem) (mem (Q + 2)) d (mem (Q + 3) o) o u x.toNat _
  rw [← h o ho]
  by_cases q : o = a.toNat
  · rw [if_pos q, lvS_yes (sa := sAC mem) (cs := csN mem) (u := u) (k := x.toNat) (by omega) (show sAC mem u x.toNat = (o : Int) from (show mem 3 (4 * u + 2 * x.toNat) = (o : Int) by omega)), hv, q]
    rfl
  · rw [if_neg q, lvS_no (fun z => q (by have w : mem 3 (4 * u + 2 * x.toNat) = (o : Int) := z.2; omega))]
theorem LvQ.out (h : LvQ mem m d Q x.toNat y) (hy : 0 ≤ y ∧ y ≤ 2) (hc : csN mem x.toNat ≤ y) (e : z = x + 1) (h0 : 0 ≤ x) : LvR mem m d Q z := fun o ho => by
  rw [show z.toNat = x.toNat + 1 by omega, h o ho]
  exact lvP_out (k := y.toNat) (by omega) (by omega)
theorem NmR.ini (h6 : m Q 6 = 0) (h7 : m Q 7 = 1) : NmR mem m d Q 0 := ⟨fun o ho => absurd ho (by omega), h6, h7⟩
theorem NmR.nxt (h : NmR mem m d Q x) (e : y = x + 1) (h0 : 0 ≤ x) (hv : v = cpF (mem 2 x.toNat) (mem (Q + 4) x.toNat) d) (e5 : ∀ o, m' (Q + 5) o = if o = x.toNat then v else m (Q + 5) o) (e6 : m' Q 6 = m Q 6 + v) (e7 : m' Q 7 = max (m Q 7) v) : NmR mem m' d Q y := by
  obtain ⟨h1, h2, h3⟩ := h
  have cg : ∀ i, i < x.toNat → m (Q + 5) i = m' (Q + 5) i := fun i hi => by rw [e5, if_neg (by omega)]
  have vv : m' (Q + 5) x.toNat = v := by rw [e5, if_pos rfl]
  refine ⟨fun o ho => ?_, ?_, ?_⟩
  · by_cases q : o = x.toNat
    · rw [q, vv, hv]
    · rw [e5, if_neg q]; exact h1 o (by omega)
  · rw [show y.toNat = x.toNat + 1 by omega]
    show _ = smF (m' (Q + 5)) x.toNat + m' (Q + 5) x.toNat
    rw [e6, h2, vv, smF_cg _ cg]
  · rw [show y.toNat = x.toNat + 1 by omega]
    show _ = max 1 (max (mxW (m' (Q + 5)) x.toNat) (m' (Q + 5) x.toNat))
    rw [e7, h3, vv, mxW_cg _ cg]
    omega
theorem NmR.cg (h : NmR mem m d Q x) (e5 : ∀ o, m' (Q + 5) o = m (Q + 5) o) (e6 : m' Q 6 = m Q 6) (e7 : m' Q 7 = m Q 7) : NmR mem m' d Q x := by
  unfold NmR
  rw [show m' (Q + 5) = m (Q + 5) from funext e5, e6, e7]
  exact h
theorem NmR.le (h : NmR mem m d Q x) {o : Nat} (ho : (o : Int) < x) : m (Q + 5) o ≤ m Q 7 := by
  have g := mxW_ge (f := m (Q + 5)) (i := o) x.toNat (by omega)
  rw [h.2.2]
  omega
def PrI (c all p : Int) : Prop := (c ≤ 0 ∧ p = c) ∨ (0 < c ∧ c ≤ p ∧ p ≤ all ∧ ∀ q : Int, c ≤ q → q < p → ¬ all % q = 0)
theorem PrI.ini {c all : Int} (h : c ≤ all) : PrI c all c := by
  by_cases q : 0 < c
  · exact Or.inr ⟨q, Int.le_refl _, h, fun r a b => by omega⟩
  · exact Or.inl ⟨by omega, rfl⟩
theorem PrI.nxt {c all p p' : Int} (h : PrI c all p) (e : p' = p + 1) (h0 : 0 < p) (hp : p < all) (hn : ¬ all % p = 0) : PrI c all p' := by
  rcases h with h | ⟨h1, h2, h3, h4⟩
  · omega
  · refine Or.inr ⟨h1, by omega, by omega, fun q a b => ?_⟩
    by_cases w : q = p
    · rw [w]; exact hn
    · exact h4 q a (by omega)
theorem PrI.fin {c all p : Int} (h : PrI c all p) (q : p ≤ 0 ∨ all ≤ p ∨ all % p = 0) : PrX c all p := by
  rcases h with h | ⟨h1, h2, h3, h4⟩
  · exact Or.inl h
  · refine Or.inr ⟨h1, h2, h3, ?_, h4⟩
    rcases q with q | q | q
    · omega
    · rw [show p = all by omega]
      exact Int.emod_self
    · exact q
theorem LvR.rg (hO : ChtOK mem Q) (hB : BodyOK mem) (hd : 1 ≤ d ∧ d ≤ 12) (h : LvR mem m d Q x) (hx : x ≤ 8) : ∀ o : Nat, (o : Int) < mem 1 0 → 0 ≤ m (Q + 4) o ∧ m (Q + 4) o ≤ 12000 := fun o ho => by
  rw [h o ho]
  have h8 := hB.1
  have c0 := (hO.2 o (by omega)).2.2
  refine lvN_rg (by omega) x.toNat (fun u k hu hk hs => ?_)
  have c2 := csN_le mem u
  have so := hB.src (o := u) (k := k) (by omega) hk
  have t := (hO.2 u (by omega)).2.1
  have sa : mem 3 (4 * u + 2 * k) = (o : Int) := hs
  have sb : sBC mem u k = mem 3 (4 * u + 2 * k + 1) := rfl
  unfold srcOK at so
  have dd := d7 (d := d) (x := mem 3 (4 * u + 2 * k + 1)) hd (by omega)
  rw [sb]
  omega
end LVC
def LnX (m : MM) (d : Int) (Q : Nat) : Prop := LvR m m d Q (m 1 0) ∧ NmR m m d Q (m 1 0) ∧ ∀ o : Nat, (o : Int) < m 1 0 → PrX (m (Q + 5) o) (m Q 7) (m (Q + 6) o)
theorem LnX.fr {m m' : MM} {d : Int} {Q : Nat} (h : LnX m d Q) (e : ∀ A i, (0 < A ∧ A < 9 ∧ ¬ A = 4) ∨ (A = Q ∧ 2 ≤ i) ∨ (Q < A ∧ A ≤ Q + 6) → m' A i = m A i) : LnX m' d Q := by
  have c1 : csN m' = csN m := funext fun o => by unfold csN; rw [e 2 o (by omega)]
  have c2 : sAC m' = sAC m := funext fun u => funext fun k => e 3 _ (by omega)
  have c3 : sBC m' = sBC m := funext fun u => funext fun k => e 3 _ (by omega)
  have r2 : m' (Q + 2) = m (Q + 2) := funext fun i => e _ i (by omega)
  have r3 : m' (Q + 3) = m (Q + 3) := funext fun i => e _ i (by omega)
  have r4 : m' (Q + 4) = m (Q + 4) := funext fun i => e _ i (by omega)
  have r5 : m' (Q + 5) = m (Q + 5) := funext fun i => e _ i (by omega)
  have r6 : m' (Q + 6) = m (Q + 6) := funext fun i => e _ i (by omega)
  have k2 : m' 2 = m 2 := funext fun i => e 2 i (by omega)
  unfold LnX LvR NmR
  rw [c1, c2, c3, r2, r3, r4, r5, r6, k2, e 1 0 (by omega), e Q 6 (by omega), e Q 7 (by omega)]
  exact h
theorem LnX.of {m0 m1 m2 : MM} {d : Int} {Q : Nat} (h1 : LvR m0 m1 d Q (m0 1 0)) (h2 : NmR m1 m2 d Q (m1 1 0)) (h3 : ∀ o : Nat, (o : Int) < m1 1 0 → PrX (m2 (Q + 5) o) (m2 Q 7) (m2 (Q + 6) o)) (F1 : Frm (pLi Q) m0 m1) (F2 : Frm (pNm Q) m1 m2) (hq : 38 ≤ Q) : LnX m2 d Q := by
  have e1 : ∀ A i, ¬ A = Q + 4 → m1 A i = m0 A i := fun A i q => F1 A i (by unfold pLi; omega)
  have e2 : ∀ A i, ¬ (A = Q ∧ (i = 6 ∨ i = 7)) → ¬ A = Q + 5 → ¬ A = Q + 6 → m2 A i = m1 A i := fun A i a b c => F2 A i (by unfold pNm; omega)
  have c1 : csN m2 = csN m0 := funext fun o => by unfold csN; rw [e2 2 o (by omega) (by omega) (by omega), e1 2 o (by omega)]
  have c2 : sAC m2 = sAC m0 := funext fun u => funext fun k => (e2 3 _ (by omega) (by omega) (by omega)).trans (e1 3 _ (by omega))
  have c3 : sBC m2 = sBC m0 := funext fun u => funext fun k => (e2 3 _ (by omega) (by omega) (by omega)).trans (e1 3 _ (by omega))
  have r2 : m2 (Q + 2) = m0 (Q + 2) := funext fun i => (e2 (Q + 2) i (by omega) (by omega) (by omega)).trans (e1 (Q + 2) i (by omega))
  have r3 : m2 (Q + 3) = m0 (Q + 3) := funext fun i => (e2 (Q + 3) i (by omega) (by omega) (by omega)).trans (e1 (Q + 3) i (by omega))
  have k1 : m2 1 0 = m1 1 0 := e2 1 0 (by omega) (by omega) (by omega)
  have k0 : m1 1 0 = m0 1 0 := e1 1 0 (by omega)
  refine ⟨fun o ho => ?_, ?_, fun o ho => h3 o (by omega)⟩
  · rw [e2 (Q + 4) o (by omega) (by omega) (by omega), c1, c2, c3, r2, r3, k1, k0]
    exact h1 o (by omega)
  · rw [k1]
    exact ⟨fun o ho => by rw [e2 2 o (by omega) (by omega) (by omega), e2 (Q + 4) o (by omega) (by omega) (by omega)]; exact h2.1 o ho, h2.2⟩
end
section
/-! laid by wip/hand/tg.py: lives and names, exactly -/
theorem f_15x {S : Nat × (Nat → Int32)} {n : Nat} {mem : MM} {K : Int → MM → Prop} {E : Nat → MM → Prop} (hB : BodyOK mem) {o k : Int} (ho : 0 ≤ o ∧ o < 8) (hk : 0 ≤ k ∧ k < csN mem o.toNat) (H : ∀ r, r = mem 3 (4 * o.toNat + 2 * k.toNat + 1) → K r mem) : CQI (Ex S (n + 1)) 15 [.inr 1, .inl o, .inl k] mem K E := by
  refine CY.of (k := 0) mt_15 rfl rfl (fun hv => ?_)
  have hC := Ex.mono S n
  have ii_o : InI o := hv (.inl o) (by simp)
  unfold InI at ii_o
  have ii_k : InI k := hv (.inl k) (by simp)
  unfold InI at ii_k
  clear hv
  have c2 := csN_le mem o.toNat
  show Tx (Ex S n) S M_15 (kI K E) 0 0 0 [some (.inr 1), some (.inl o), some (.inl k)] [] mem
  refine Tx.aload_n hC te_15_0 rfl ?_
  refine Tx.getR hC te_15_1 rfl rfl rfl ?_
  refine Tx.iload_n hC te_15_4 rfl ?_
  refine Tx.iconst hC te_15_5 rfl ?_
  refine Tx.imulW hC te_15_6 (fun z1 z1i z1e => ?_)
  unfold InI at z1i z1e
  first | replace z1e := z1e (by omega) | clear z1e
  refine Tx.iload_n hC te_15_7 rfl ?_
  refine Tx.iconst hC te_15_8 rfl ?_
  refine Tx.imulW hC te_15_9 (fun z2 z2i z2e => ?_)
  unfold InI at z2i z2e
  first | replace z2e := z2e (by omega) | clear z2e
  refine Tx.iaddW hC te_15_10 (fun z3 z3i z3e => ?_)
  unfold InI at z3i z3e
  first | replace z3e := z3e (by omega) | clear z3e
  refine Tx.iconst hC te_15_11 rfl ?_
  refine Tx.iaddW hC te_15_12 (fun z4 z4i z4e => ?_)
  unfold InI at z4i z4e
  first | replace z4e := z4e (by omega) | clear z4e
  refine Tx.iald hC te_15_13 rfl (by omega) (fun v5 v5e v5i => ?_)
  unfold InI at v5i
  exact Tx.ireturn hC te_15_14 rfl (fun hr => show K v5 mem from H _ (by rw [v5e]; congr 1; omega))
theorem f_33y {S : Nat × (Nat → Int32)} {n : Nat} {mem : MM} {K : Int → MM → Prop} {E : Nat → MM → Prop} {a b : Int} (ha : 0 ≤ a) (hb : 0 < b) (H : ∀ r, r = upV a b → K r mem) : CQI (Ex S (n + 2)) 33 [.inl a, .inl b] mem K E := by
  refine CY.of (k := 0) mt_33 rfl rfl (fun hv => ?_)
  have hC := Ex.mono S (n + 1)
  have ii_a : InI a := hv (.inl a) (by simp)
  unfold InI at ii_a
  have ii_b : InI b := hv (.inl b) (by simp)
  unfold InI at ii_b
  clear hv
  show Tx (Ex S (n + 1)) S M_33 (kI K E) 0 0 0 [some (.inl a), some (.inl b)] [] mem
  refine Tx.iload_n hC te_33_0 rfl ?_
  refine Tx.ifc hC (t := 8) te_33_1 (by decide) (fun q1 => ?_) (fun q1 => ?_)
  · replace q1 : 0 < (b : Int) := q1
    refine Tx.iload_n hC te_33_8 rfl ?_
    refine Tx.inegW hC te_33_9 (fun z2 z2i z2e => ?_)
    unfold InI at z2i z2e
    refine Tx.iload_n hC te_33_10 rfl ?_
    refine Tx.statI hC te_33_11 (by decide) mt_34 (args := [.inl z2, .inl b]) (rest := []) (c' := 0) (s' := 0) rfl rfl rfl rfl rfl rfl rfl ?_
    refine f_34 (by omega) (fun r3 r3a r3b r3i => ?_)
    unfold InI at r3i
    refine Tx.inegW hC te_33_14 (fun z6 z6i z6e => ?_)
    unfold InI at z6i z6e
    exact Tx.ireturn hC te_33_15 rfl (fun hr => show K z6 mem from H z6 (ru_fin0 (by omega) ha (z2e (by omega)) (by have := z2e (by omega); omega) r3a r3b (by omega) (by omega) z6e))
  · replace q1 : ¬ (0 < (b : Int)) := q1
    refine Tx.iconst hC te_33_4 rfl ?_
    refine Tx.goto hC (t := 15) te_33_5 (by decide) ?_
    exact Tx.ireturn hC te_33_15 rfl (fun hr => show K 0 mem from H 0 (by omega))
set_option maxHeartbeats 1000000 in
theorem f_109e {S : Nat × (Nat → Int32)} {n : Nat} {mem : MM} {K : MM → Prop} {E : Nat → MM → Prop} {Q : Nat} (hQ : ChSh Q) (hO : ChtOK mem Q) (hB : BodyOK mem) {d : Int} (hd : 1 ≤ d ∧ d ≤ 12) (h3 : mem Q 3 = d) (h2 : mem Q 2 = mem 1 0) (H : ∀ m', Frm (pLi Q) mem m' → LvR mem m' d Q (mem 1 0) → K m') : CQV (Ex S (n + 2)) 109 [.inr Q, .inr 1] mem K E := by
  refine CY.of (k := 4) mt_109 rfl rfl (fun hv => ?_)
  have hC := Ex.mono S (n + 1)
  clear hv
  have hq8 := hQ.rg
  have hO1 := hO.1
  have h8 := hB.1
  show Tx (Ex S (n + 1)) S M_109 (kV K E) 0 0 0 [some (.inr Q), some (.inr 1), none, none, none, none] [] mem
  have l_10 : ∀ (N : Nat) (x2 : Int) (m_10 : MM), (0 ≤ x2 ∧ x2 ≤ mem 1 0) → (LvR mem m_10 d Q x2) → ((8 - x2).toNat) < N → Frm (pLi Q) mem m_10 → Tx (Ex S (n + 1)) S M_109 (kV K E) 0 0 10 [some (.inr Q), some (.inr 1), some (.inl x2), none, none, none] [] m_10 := by
    intro N
    induction N with
    | zero => intros; omega
    | succ N ih_10 =>
      intro x2 m_10 i10_0 i10_1 hN_10 hF_10
      have l_20 : ∀ (N : Nat) (x3 : Int) (m_20 : MM), (0 ≤ x3 ∧ x3 ≤ 2) → (0 ≤ x2 ∧ x2 < mem 1 0) → (LvQ mem m_20 d Q x2.toNat x3) → ((3 - x3).toNat) < N → Frm (pLi Q) mem m_20 → Tx (Ex S (n + 1)) S M_109 (kV K E) 0 0 20 [some (.inr Q), some (.inr 1), some (.inl x2), some (.inl x3), none, none] [] m_20 := by
        intro N
        induction N with
        | zero => intros; omega
        | succ N ih_20 =>
          intro x3 m_20 i20_0 i20_1 i20_2 hN_20 hF_20
          have cr := csN_le mem x2.toNat
          refine Tx.iload_n hC te_109_20 rfl ?_
          refine Tx.aload_n hC te_109_21 rfl ?_
          refine Tx.iload_n hC te_109_22 rfl ?_
          refine Tx.virtI hC te_109_23 mt_13 (args := [.inr 1, .inl x2]) (rest := [.inl x3]) (c' := 0) (s' := 0) rfl rfl rfl rfl rfl rfl rfl rfl rfl rfl ?_
          refine f_13q (by omega) (fun r1 r1e r1a r1b r1i => ?_)
          have c13 : r1 = csN mem x2.toNat := by rw [r1e]; unfold csN; rw [hF_20 2 _ (by unfold pLi; omega)]
          unfold InI at r1i
          refine Tx.icmp hC (t := 97) te_109_26 (by decide) (fun q4 => ?_) (fun q4 => ?_)
          · replace q4 : r1 ≤ (x3 : Int) := q4
            refine Tx.iincW hC te_109_97 rfl rfl (fun z5 z5i z5e => ?_)
            unfold InI at z5i z5e
            first | replace z5e := z5e (by omega) | clear z5e
            refine Tx.goto hC (t := 10) te_109_100 (by decide) ?_
            exact Tx.weak (by repeat' (first | exact trivial | exact rfl | constructor)) (ih_10 z5 m_20 (by omega) (by
              first
              | exact LvQ.out i20_2 (by omega) (by omega) (by omega) (by omega)
              | exact (fun o ho => Xz o (by omega))) (by omega) hF_20)
          · replace q4 : ¬ (r1 ≤ (x3 : Int)) := q4
            refine Tx.aload_n hC te_109_29 rfl ?_
            refine Tx.iload_n hC te_109_30 rfl ?_
            refine Tx.iload_n hC te_109_31 rfl ?_
            refine Tx.virtI hC te_109_32 mt_14 (args := [.inr 1, .inl x2, .inl x3]) (rest := []) (c' := 0) (s' := 0) rfl rfl rfl rfl rfl rfl rfl rfl rfl rfl ?_
            have k14 : csN m_20 x2.toNat = csN mem x2.toNat := by unfold csN; rw [hF_20 2 _ (by unfold pLi; omega)]
            refine f_14s (hB.fr (fun A i a b => hF_20 A i (by unfold pLi; omega))) (by omega) (by omega) (fun r6 r6e r6a r6b r6i => ?_)
            have s14 : r6 = mem 3 (4 * x2.toNat + 2 * x3.toNat) := by rw [r6e, hF_20 3 _ (by unfold pLi; omega)]
            have so := hB.src (o := x2.toNat) (k := x3.toNat) (by omega) (by omega)
            unfold srcOK at so
            unfold InI at r6i
            refine Tx.istore hC te_109_35 rfl ?_
            refine Tx.iload hC te_109_37 rfl ?_
            refine Tx.ifc hC (t := 91) te_109_39 (by decide) (fun q9 => ?_) (fun q9 => ?_)
            · replace q9 : (r6 : Int) < 0 := q9
              refine Tx.iincW hC te_109_91 rfl rfl (fun z10 z10i z10e => ?_)
              unfold InI at z10i z10e
              first | replace z10e := z10e (by omega) | clear z10e
              refine Tx.goto hC (t := 20) te_109_94 (by decide) ?_
              exact Tx.weak (by repeat' (first | exact trivial | exact rfl | constructor)) (ih_20 z10 m_20 (by omega) (by omega) (by
                first
                | exact i10_1.inn
                | exact LvQ.no i20_2 (by omega) (by omega) (by omega)
                | exact LvQ.hit i20_2 (by omega) (by omega) (by omega) s14 (by omega) hv em) (by omega) hF_20)
            · replace q9 : ¬ ((r6 : Int) < 0) := q9
              refine Tx.aload_n hC te_109_42 rfl ?_
              refine Tx.getR hC te_109_43 hQ.s0 rfl rfl ?_
              refine Tx.iload_n hC te_109_46 rfl ?_
              refine Tx.iald hC te_109_47 hQ.s2 (by omega) (fun v11 v11e v11i => ?_)
              unfold InI at v11i
              rw [hF_20 (Q + 2) _ (by unfold pLi; omega)] at v11e
              have f12 := hO.2 (Int.toNat x2) (by omega)
              refine Tx.aload_n hC te_109_48 rfl ?_
              refine Tx.getI hC te_109_49 hQ.s0 rfl rfl (fun v13 v13e v13i => ?_)
              unfold InI at v13i
              rw [hF_20 Q _ (by unfold pLi; omega)] at v13e
              refine Tx.aload_n hC te_109_52 rfl ?_
              refine Tx.iload_n hC te_109_53 rfl ?_
              refine Tx.iload_n hC te_109_54 rfl ?_
              refine Tx.virtI hC te_109_55 mt_15 (args := [.inr 1, .inl x2, .inl x3]) (rest := [.inl v13, .inl v11]) (c' := 0) (s' := 0) rfl rfl rfl rfl rfl rfl rfl rfl rfl rfl ?_
              refine f_15x (hB.fr (fun A i a b => hF_20 A i (by unfold pLi; omega))) (by omega) (by omega) (fun r14 r14e r14i => ?_)
              have s15 : r14 = mem 3 (4 * x2.toNat + 2 * x3.toNat + 1) := by rw [r14e, hF_20 3 _ (by unfold pLi; omega)]
              have dd := d7 (d := mem Q 3) (x := r14) (by omega) (by omega)
              unfold InI at r14i
              have v13x : v13 * r14 = mem Q 3 * r14 := by rw [show v13 = mem Q 3 by omega]
              refine Tx.imulW hC te_109_58 (fun z17 z17i z17e => ?_)
              unfold InI at z17i z17e
              first | replace z17e := z17e (by omega) | clear z17e
              have zx : z17 = d * mem 3 (4 * x2.toNat + 2 * x3.toNat + 1) := by rw [← h3, ← s15, ← v13x]; omega
              refine Tx.iaddW hC te_109_59 (fun z18 z18i z18e => ?_)
              unfold InI at z18i z18e
              first | replace z18e := z18e (by omega) | clear z18e
              refine Tx.istore hC te_109_60 rfl ?_
              refine Tx.aload_n hC te_109_62 rfl ?_
              refine Tx.getR hC te_109_63 hQ.s0 rfl rfl ?_
              refine Tx.iload hC te_109_66 rfl ?_
              refine Tx.aload_n hC te_109_68 rfl ?_
              refine Tx.getR hC te_109_69 hQ.s0 rfl rfl ?_
              refine Tx.iload hC te_109_72 rfl ?_
              refine Tx.iald hC te_109_74 hQ.s4 (by omega) (fun v19 v19e v19i => ?_)
              unfold InI at v19i
              refine Tx.iload hC te_109_75 rfl ?_
              refine Tx.aload_n hC te_109_77 rfl ?_
              refine Tx.getR hC te_109_78 hQ.s0 rfl rfl ?_
              refine Tx.iload hC te_109_81 rfl ?_
              refine Tx.iald hC te_109_83 hQ.s3 (by omega) (fun v20 v20e v20i => ?_)
              unfold InI at v20i
              rw [hF_20 (Q + 3) _ (by unfold pLi; omega)] at v20e
              have f21 := hO.2 (Int.toNat r6) (by omega)
              refine Tx.isubW hC te_109_84 (fun z22 z22i z22e => ?_)
              unfold InI at z22i z22e
              first | replace z22e := z22e (by omega) | clear z22e
              refine Tx.iconst hC te_109_85 rfl ?_
              refine Tx.iaddW hC te_109_86 (fun z23 z23i z23e => ?_)
              unfold InI at z23i z23e
              first | replace z23e := z23e (by omega) | clear z23e
              refine Tx.statI hC te_109_87 (by decide) mt_40 (args := [.inl v19, .inl z23]) (rest := [.inl r6, .inr (Q + 4)]) (c' := 0) (s' := 0) rfl rfl rfl rfl rfl rfl rfl ?_
              refine f_40q (fun r24 r24a r24b r24c r24i => ?_)
              unfold InI at r24i
              have hv : r24 = max (m_20 (Q + 4) r6.toNat) (mem (Q + 2) x2.toNat + d * mem 3 (4 * x2.toNat + 2 * x3.toNat + 1) - mem (Q + 3) r6.toNat + 1) := by omega
              have em : ∀ o, upm m_20 (Q + 4) r6.toNat r24 (Q + 4) o = if o = r6.toNat then r24 else m_20 (Q + 4) o := fun o => by
                by_cases q : o = r6.toNat
                · rw [if_pos q, q]; exact upm_eq
                · rw [if_neg q]; exact upm_ne (by omega)
              refine Tx.iast hC te_109_90 hQ.s4 (by omega) ?_
              have hF28 : Frm (pLi Q) mem (upm m_20 (Q + 4) (Int.toNat r6) r24) := Frm.up hF_20 (by unfold pLi; omega)
              refine Tx.iincW hC te_109_91 rfl rfl (fun z29 z29i z29e => ?_)
              unfold InI at z29i z29e
              first | replace z29e := z29e (by omega) | clear z29e
              refine Tx.goto hC (t := 20) te_109_94 (by decide) ?_
              exact Tx.weak (by repeat' (first | exact trivial | exact rfl | constructor)) (ih_20 z29 (upm m_20 (Q + 4) (Int.toNat r6) r24) (by omega) (by omega) (by
                first
                | exact i10_1.inn
                | exact LvQ.no i20_2 (by omega) (by omega) (by omega)
                | exact LvQ.hit i20_2 (by omega) (by omega) (by omega) s14 (by omega) hv em) (by omega) hF28)
      refine Tx.iload_n hC te_109_10 rfl ?_
      refine Tx.aload_n hC te_109_11 rfl ?_
      refine Tx.getI hC te_109_12 hQ.s0 rfl rfl (fun v30 v30e v30i => ?_)
      unfold InI at v30i
      rw [hF_10 Q _ (by unfold pLi; omega)] at v30e
      refine Tx.icmp hC (t := 103) te_109_15 (by decide) (fun q31 => ?_) (fun q31 => ?_)
      · replace q31 : v30 ≤ (x2 : Int) := q31
        exact Tx.vret hC te_109_103 rfl (show K m_10 from H _ hF_10 (by rw [show mem 1 0 = x2 by omega]; exact i10_1))
      · replace q31 : ¬ (v30 ≤ (x2 : Int)) := q31
        refine Tx.iconst hC te_109_18 rfl ?_
        refine Tx.istore_n hC te_109_19 rfl ?_
        exact l_20 _ 0 m_10 (by omega) (by omega) (by
          first
          | exact i10_1.inn
          | exact LvQ.no i20_2 (by omega) (by omega) (by omega)
          | exact LvQ.hit i20_2 (by omega) (by omega) (by omega) s14 (by omega) hv em) (Nat.lt_succ_self _) hF_10
  refine Tx.aload_n hC te_109_0 rfl ?_
  refine Tx.getR hC te_109_1 hQ.s0 rfl rfl ?_
  refine Tx.iconst hC te_109_4 rfl ?_
  refine Tx.statV hC te_109_5 (by decide) mt_76 (args := [.inr (Q + 4), .inl 0]) (rest := []) (c' := 0) (s' := 0) rfl rfl rfl rfl rfl rfl rfl ?_
  refine f_76r (Z := Q + 4) (zn := 8) hQ.s4 (by omega) (fun m33 m33F m33z => ?_)
  have hF34n : Frm (pLi Q) mem m33 := m33F.mono (fun A i q => by unfold pRw at q; unfold pLi; exact q)
  refine Tx.iconst hC te_109_8 rfl ?_
  refine Tx.istore_n hC te_109_9 rfl ?_
  exact l_10 _ 0 m33 (by omega) (by
    first
    | exact LvQ.out i20_2 (by omega) (by omega) (by omega) (by omega)
    | exact (fun o ho => m33z o (by omega))) (Nat.lt_succ_self _) hF34n
set_option maxHeartbeats 2000000 in
theorem f_110e {S : Nat × (Nat → Int32)} {n : Nat} {mem : MM} {K : MM → Prop} {E : Nat → MM → Prop} {Q : Nat} (hQ : ChSh Q) (hO : ChtOK mem Q) (hB : BodyOK mem) {d : Int} (hd : 1 ≤ d ∧ d ≤ 12) (h3 : mem Q 3 = d) (h2 : mem Q 2 = mem 1 0) (hl : ∀ o : Nat, (o : Int) < mem 1 0 → 0 ≤ mem (Q + 4) o ∧ mem (Q + 4) o ≤ 12000) (H : ∀ m', Frm (pNm Q) mem m' → NmR mem m' d Q (mem 1 0) → (∀ o : Nat, (o : Int) < mem 1 0 → PrX (m' (Q + 5) o) (m' Q 7) (m' (Q + 6) o)) → K m') : CQV (Ex S (n + 3)) 110 [.inr Q, .inr 1] mem K E := by
  refine CY.of (k := 2) mt_110 rfl rfl (fun hv => ?_)
  have hC := Ex.mono S (n + 2)
  clear hv
  have hq8 := hQ.rg
  have hO1 := hO.1
  have h8 := hB.1
  show Tx (Ex S (n + 2)) S M_110 (kV K E) 0 0 0 [some (.inr Q), some (.inr 1), none, none] [] mem
  have l_107 : ∀ (N : Nat) (x2 : Int) (m_107 : MM), (0 ≤ x2 ∧ x2 ≤ mem 1 0) → (NmR mem m_107 d Q (mem 1 0)) → (1 ≤ m_107 Q 7 ∧ m_107 Q 7 ≤ 12000) → (∀ o : Nat, (o : Int) < x2 → PrX (m_107 (Q + 5) o) (m_107 Q 7) (m_107 (Q + 6) o)) → ((8 - x2).toNat) < N → Frm (pNm Q) mem m_107 → Tx (Ex S (n + 2)) S M_110 (kV K E) 0 0 107 [some (.inr Q), some (.inr 1), some (.inl x2), none] [] m_107 := by
    intro N
    induction N with
    | zero => intros; omega
    | succ N ih_107 =>
      intro x2 m_107 i107_0 i107_1 i107_2 i107_3 hN_107 hF_107
      have l_127 : ∀ (N : Nat) (m_127 : MM), (0 ≤ x2 ∧ x2 < mem 1 0) → (NmR mem m_127 d Q (mem 1 0)) → (1 ≤ m_127 Q 7 ∧ m_127 Q 7 ≤ 12000) → (∀ o : Nat, (o : Int) < x2 → PrX (m_127 (Q + 5) o) (m_127 Q 7) (m_127 (Q + 6) o)) → (PrI (m_127 (Q + 5) x2.toNat) (m_127 Q 7) (m_127 (Q + 6) x2.toNat)) → ((m_127 Q 7 - m_127 (Q + 6) (Int.toNat x2)).toNat) < N → Frm (pNm Q) mem m_127 → Tx (Ex S (n + 2)) S M_110 (kV K E) 0 0 127 [some (.inr Q), some (.inr 1), some (.inl x2), none] [] m_127 := by
        intro N
        induction N with
        | zero => intros; omega
        | succ N ih_127 =>
          intro m_127 i127_0 i127_1 i127_2 i127_3 i127_4 hN_127 hF_127
          refine Tx.aload_n hC te_110_127 rfl ?_
          refine Tx.getR hC te_110_128 hQ.s0 rfl rfl ?_
          refine Tx.iload_n hC te_110_131 rfl ?_
          refine Tx.iald hC te_110_132 hQ.s6 (by omega) (fun v1 v1e v1i => ?_)
          unfold InI at v1i
          refine Tx.ifc hC (t := 176) te_110_133 (by decide) (fun q2 => ?_) (fun q2 => ?_)
          · replace q2 : (v1 : Int) ≤ 0 := q2
            refine Tx.iincW hC te_110_176 rfl rfl (fun z3 z3i z3e => ?_)
            unfold InI at z3i z3e
            first | replace z3e := z3e (by omega) | clear z3e
            refine Tx.goto hC (t := 107) te_110_179 (by decide) ?_
            exact ih_107 z3 m_127 (by omega) (by first | exact i127_1 | (rw [show mem 1 0 = x2 by omega]; exact i12_1)) (by first | exact i127_2 | exact i12_3) (by
              intro o ho
              first
              | (exfalso; omega)
              | (by_cases q : (o : Int) < x2
                 · exact i127_3 o q
                 · rw [show o = x2.toNat by omega]
                   exact i127_4.fin (by omega))) (by omega) hF_127
          · replace q2 : ¬ ((v1 : Int) ≤ 0) := q2
            refine Tx.aload_n hC te_110_136 rfl ?_
            refine Tx.getR hC te_110_137 hQ.s0 rfl rfl ?_
            refine Tx.iload_n hC te_110_140 rfl ?_
            refine Tx.iald hC te_110_141 hQ.s6 (by omega) (fun v4 v4e v4i => ?_)
            unfold InI at v4i
            refine Tx.aload_n hC te_110_142 rfl ?_
            refine Tx.getI hC te_110_143 hQ.s0 rfl rfl (fun v5 v5e v5i => ?_)
            unfold InI at v5i
            refine Tx.icmp hC (t := 176) te_110_146 (by decide) (fun q6 => ?_) (fun q6 => ?_)
            · replace q6 : v5 ≤ (v4 : Int) := q6
              refine Tx.iincW hC te_110_176 rfl rfl (fun z7 z7i z7e => ?_)
              unfold InI at z7i z7e
              first | replace z7e := z7e (by omega) | clear z7e
              refine Tx.goto hC (t := 107) te_110_179 (by decide) ?_
              exact ih_107 z7 m_127 (by omega) (by first | exact i127_1 | (rw [show mem 1 0 = x2 by omega]; exact i12_1)) (by first | exact i127_2 | exact i12_3) (by
                intro o ho
                first
                | (exfalso; omega)
                | (by_cases q : (o : Int) < x2
                   · exact i127_3 o q
                   · rw [show o = x2.toNat by omega]
                     exact i127_4.fin (by omega))) (by omega) hF_127
            · replace q6 : ¬ (v5 ≤ (v4 : Int)) := q6
              refine Tx.aload_n hC te_110_149 rfl ?_
              refine Tx.getI hC te_110_150 hQ.s0 rfl rfl (fun v8 v8e v8i => ?_)
              unfold InI at v8i
              refine Tx.aload_n hC te_110_153 rfl ?_
              refine Tx.getR hC te_110_154 hQ.s0 rfl rfl ?_
              refine Tx.iload_n hC te_110_157 rfl ?_
              refine Tx.iald hC te_110_158 hQ.s6 (by omega) (fun v9 v9e v9i => ?_)
              unfold InI at v9i
              refine Tx.iremW hC te_110_159 (by omega) (fun z10 z10i z10e z10f => ?_)
              unfold InI at z10i
              have zm : z10 = m_127 Q 7 % m_127 (Q + 6) x2.toNat := by rw [z10e, v8e, v9e, Int.tmod_eq_emod_of_nonneg (by omega)]
              refine Tx.ifc hC (t := 176) te_110_160 (by decide) (fun q11 => ?_) (fun q11 => ?_)
              · replace q11 : (z10 : Int) = 0 := q11
                refine Tx.iincW hC te_110_176 rfl rfl (fun z12 z12i z12e => ?_)
                unfold InI at z12i z12e
                first | replace z12e := z12e (by omega) | clear z12e
                refine Tx.goto hC (t := 107) te_110_179 (by decide) ?_
                exact ih_107 z12 m_127 (by omega) (by first | exact i127_1 | (rw [show mem 1 0 = x2 by omega]; exact i12_1)) (by first | exact i127_2 | exact i12_3) (by
                  intro o ho
                  first
                  | (exfalso; omega)
                  | (by_cases q : (o : Int) < x2
                     · exact i127_3 o q
                     · rw [show o = x2.toNat by omega]
                       exact i127_4.fin (by omega))) (by omega) hF_127
              · replace q11 : ¬ ((z10 : Int) = 0) := q11
                refine Tx.aload_n hC te_110_163 rfl ?_
                refine Tx.getR hC te_110_164 hQ.s0 rfl rfl ?_
                refine Tx.iload_n hC te_110_167 rfl ?_
                refine Tx.dup2 hC te_110_168 ?_
                refine Tx.iald hC te_110_169 hQ.s6 (by omega) (fun v13 v13e v13i => ?_)
                unfold InI at v13i
                refine Tx.iconst hC te_110_170 rfl ?_
                refine Tx.iaddW hC te_110_171 (fun z14 z14i z14e => ?_)
                unfold InI at z14i z14e
                first | replace z14e := z14e (by omega) | clear z14e
                refine Tx.iast hC te_110_172 hQ.s6 (by omega) ?_
                have hF16 : Frm (pNm Q) mem (upm m_127 (Q + 6) (Int.toNat x2) z14) := Frm.up hF_127 (by unfold pNm; omega)
                have m15e : (upm m_127 (Q + 6) (Int.toNat x2) z14) (Q + 6) (Int.toNat x2) = z14 := upm_eq
                have m15n : ∀ B j, ¬ (B = (Q + 6) ∧ j = (Int.toNat x2)) → (upm m_127 (Q + 6) (Int.toNat x2) z14) B j = m_127 B j := fun B j q => upm_ne q
                generalize upm m_127 (Q + 6) (Int.toNat x2) z14 = m15 at hF16 m15e m15n ⊢
                refine Tx.goto hC (t := 127) te_110_173 (by decide) ?_
                exact ih_127 m15 (by omega) (by first | exact NmR.cg i107_1 (fun o => m15n _ _ (by omega)) (m15n _ _ (by omega)) (m15n _ _ (by omega)) | exact NmR.cg i127_1 (fun o => m15n _ _ (by omega)) (m15n _ _ (by omega)) (m15n _ _ (by omega))) (by first | (rw [m15n Q 7 (by omega)]; exact i107_2) | (rw [m15n Q 7 (by omega)]; exact i127_2)) (by
                  intro o ho
                  rw [m15n (Q + 5) o (by omega), m15n Q 7 (by omega), m15n (Q + 6) o (by omega)]
                  first
                  | exact i107_3 o ho
                  | exact i127_3 o ho) (by
                  rw [m15n (Q + 5) _ (by omega), m15n Q 7 (by omega)]
                  first
                  | (rw [m15e, v19e]; exact PrI.ini (i107_1.le (by omega)))
                  | exact PrI.nxt i127_4 (by omega) (by omega) (by omega) (by omega)) (by rw [m15n Q 7 (by omega), m15e]; omega) hF16
      refine Tx.iload_n hC te_110_107 rfl ?_
      refine Tx.aload_n hC te_110_108 rfl ?_
      refine Tx.getI hC te_110_109 hQ.s0 rfl rfl (fun v17 v17e v17i => ?_)
      unfold InI at v17i
      rw [hF_107 Q _ (by unfold pNm; omega)] at v17e
      refine Tx.icmp hC (t := 182) te_110_112 (by decide) (fun q18 => ?_) (fun q18 => ?_)
      · replace q18 : v17 ≤ (x2 : Int) := q18
        exact Tx.vret hC te_110_182 rfl (show K m_107 from H _ hF_107 i107_1 (fun o ho => i107_3 o (by omega)))
      · replace q18 : ¬ (v17 ≤ (x2 : Int)) := q18
        refine Tx.aload_n hC te_110_115 rfl ?_
        refine Tx.getR hC te_110_116 hQ.s0 rfl rfl ?_
        refine Tx.iload_n hC te_110_119 rfl ?_
        refine Tx.aload_n hC te_110_120 rfl ?_
        refine Tx.getR hC te_110_121 hQ.s0 rfl rfl ?_
        refine Tx.iload_n hC te_110_124 rfl ?_
        refine Tx.iald hC te_110_125 hQ.s5 (by omega) (fun v19 v19e v19i => ?_)
        unfold InI at v19i
        refine Tx.iast hC te_110_126 hQ.s6 (by omega) ?_
        have hF21 : Frm (pNm Q) mem (upm m_107 (Q + 6) (Int.toNat x2) v19) := Frm.up hF_107 (by unfold pNm; omega)
        have m20e : (upm m_107 (Q + 6) (Int.toNat x2) v19) (Q + 6) (Int.toNat x2) = v19 := upm_eq
        have m20n : ∀ B j, ¬ (B = (Q + 6) ∧ j = (Int.toNat x2)) → (upm m_107 (Q + 6) (Int.toNat x2) v19) B j = m_107 B j := fun B j q => upm_ne q
        generalize upm m_107 (Q + 6) (Int.toNat x2) v19 = m20 at hF21 m20e m20n ⊢
        exact l_127 _ m20 (by omega) (by first | exact NmR.cg i107_1 (fun o => m20n _ _ (by omega)) (m20n _ _ (by omega)) (m20n _ _ (by omega)) | exact NmR.cg i127_1 (fun o => m20n _ _ (by omega)) (m20n _ _ (by omega)) (m20n _ _ (by omega))) (by first | (rw [m20n Q 7 (by omega)]; exact i107_2) | (rw [m20n Q 7 (by omega)]; exact i127_2)) (by
          intro o ho
          rw [m20n (Q + 5) o (by omega), m20n Q 7 (by omega), m20n (Q + 6) o (by omega)]
          first
          | exact i107_3 o ho
          | exact i127_3 o ho) (by
          rw [m20n (Q + 5) _ (by omega), m20n Q 7 (by omega)]
          first
          | (rw [m20e, v19e]; exact PrI.ini (i107_1.le (by omega)))
          | exact PrI.nxt i127_4 (by omega) (by omega) (by omega) (by omega)) (Nat.lt_succ_self _) hF21
  have l_12 : ∀ (N : Nat) (x2 : Int) (m_12 : MM), (0 ≤ x2 ∧ x2 ≤ mem 1 0) → (NmR mem m_12 d Q x2) → (0 ≤ m_12 Q 6 ∧ m_12 Q 6 ≤ 12000 * x2) → (1 ≤ m_12 Q 7 ∧ m_12 Q 7 ≤ 12000) → ((8 - x2).toNat) < N → Frm (pNm Q) mem m_12 → Tx (Ex S (n + 2)) S M_110 (kV K E) 0 0 12 [some (.inr Q), some (.inr 1), some (.inl x2), none] [] m_12 := by
    intro N
    induction N with
    | zero => intros; omega
    | succ N ih_12 =>
      intro x2 m_12 i12_0 i12_1 i12_2 i12_3 hN_12 hF_12
      refine Tx.iload_n hC te_110_12 rfl ?_
      refine Tx.aload_n hC te_110_13 rfl ?_
      refine Tx.getI hC te_110_14 hQ.s0 rfl rfl (fun v22 v22e v22i => ?_)
      unfold InI at v22i
      rw [hF_12 Q _ (by unfold pNm; omega)] at v22e
      refine Tx.icmp hC (t := 105) te_110_17 (by decide) (fun q23 => ?_) (fun q23 => ?_)
      · replace q23 : v22 ≤ (x2 : Int) := q23
        refine Tx.iconst hC te_110_105 rfl ?_
        refine Tx.istore_n hC te_110_106 rfl ?_
        exact l_107 _ 0 m_12 (by omega) (by first | exact i127_1 | (rw [show mem 1 0 = x2 by omega]; exact i12_1)) (by first | exact i127_2 | exact i12_3) (by
          intro o ho
          first
          | (exfalso; omega)
          | (by_cases q : (o : Int) < x2
             · exact i127_3 o q
             · rw [show o = x2.toNat by omega]
               exact i127_4.fin (by omega))) (Nat.lt_succ_self _) hF_12
      · replace q23 : ¬ (v22 ≤ (x2 : Int)) := q23
        refine Tx.aload_n hC te_110_20 rfl ?_
        refine Tx.getR hC te_110_21 rfl rfl rfl ?_
        refine Tx.iload_n hC te_110_24 rfl ?_
        refine Tx.iald hC te_110_25 rfl (by omega) (fun v24 v24e v24i => ?_)
        unfold InI at v24i
        rw [hF_12 2 _ (by unfold pNm; omega)] at v24e
        refine Tx.iconst hC te_110_26 rfl ?_
        refine Tx.icmp hC (t := 34) te_110_27 (by decide) (fun q25 => ?_) (fun q25 => ?_)
        · replace q25 : ¬ (v24 : Int) = 5 := q25
          refine Tx.iconst hC te_110_34 rfl ?_
          refine Tx.istore_n hC te_110_35 rfl ?_
          refine Tx.aload_n hC te_110_36 rfl ?_
          refine Tx.getR hC te_110_37 hQ.s0 rfl rfl ?_
          refine Tx.iload_n hC te_110_40 rfl ?_
          refine Tx.iload_n hC te_110_41 rfl ?_
          refine Tx.ifc hC (t := 49) te_110_42 (by decide) (fun q => ?_) (fun q => absurd (show (0 : Int) = 0 by decide) q)
          refine Tx.iconst hC te_110_49 rfl ?_
          refine Tx.aload_n hC te_110_50 rfl ?_
          refine Tx.getR hC te_110_51 hQ.s0 rfl rfl ?_
          refine Tx.iload_n hC te_110_54 rfl ?_
          refine Tx.iald hC te_110_55 hQ.s4 (by omega) (fun v26 v26e v26i => ?_)
          unfold InI at v26i
          rw [hF_12 (Q + 4) _ (by unfold pNm; omega)] at v26e
          have f27 := hl (Int.toNat x2) (by omega)
          refine Tx.aload_n hC te_110_56 rfl ?_
          refine Tx.getI hC te_110_57 hQ.s0 rfl rfl (fun v28 v28e v28i => ?_)
          unfold InI at v28i
          rw [hF_12 Q _ (by unfold pNm; omega)] at v28e
          refine Tx.statI hC te_110_60 (by decide) mt_33 (args := [.inl v26, .inl v28]) (rest := [.inl 1, .inl x2, .inr (Q + 5)]) (c' := 0) (s' := 0) rfl rfl rfl rfl rfl rfl rfl ?_
          have hl2 := hl x2.toNat (by omega)
          refine f_33y (by omega) (by omega) (fun r29 r29e r29i => ?_)
          have rg29 := upV_rg (a := v26) (b := v28) (by omega) (by omega)
          unfold InI at r29i
          refine Tx.statI hC te_110_63 (by decide) mt_40 (args := [.inl 1, .inl r29]) (rest := [.inl x2, .inr (Q + 5)]) (c' := 0) (s' := 0) rfl rfl rfl rfl rfl rfl rfl ?_
          refine f_40q (fun r32 r32a r32b r32c r32i => ?_)
          unfold InI at r32i
          obtain ⟨cv, cve⟩ : ∃ z : Int, z = r32 := ⟨_, rfl⟩
          have cpv : cv = cpF (mem 2 x2.toNat) (mem (Q + 4) x2.toNat) d := by
            rw [cve]
            unfold cpF
            first
            | rw [if_pos (by omega)]
            | (rw [if_neg (by omega), ← h3, ← v28e, ← v26e, ← r29e]
               omega)
          have cpr : 0 ≤ cv ∧ cv ≤ 12000 := by omega
          refine Tx.iast hC te_110_66 hQ.s5 (by omega) ?_
          have hF36 : Frm (pNm Q) mem (upm m_12 (Q + 5) (Int.toNat x2) r32) := Frm.up hF_12 (by unfold pNm; omega)
          have m35e : (upm m_12 (Q + 5) (Int.toNat x2) r32) (Q + 5) (Int.toNat x2) = r32 := upm_eq
          have m35n : ∀ B j, ¬ (B = (Q + 5) ∧ j = (Int.toNat x2)) → (upm m_12 (Q + 5) (Int.toNat x2) r32) B j = m_12 B j := fun B j q => upm_ne q
          generalize upm m_12 (Q + 5) (Int.toNat x2) r32 = m35 at hF36 m35e m35n ⊢
          have a5 : ∀ o, m35 (Q + 5) o = if o = x2.toNat then cv else m_12 (Q + 5) o := fun o => by
            by_cases q : o = x2.toNat
            · rw [if_pos q, q, m35e, cve]
            · rw [if_neg q, m35n _ _ (by omega)]
          have a5x : m35 (Q + 5) x2.toNat = cv := by rw [m35e, cve]
          have a6 : m35 Q 6 = m_12 Q 6 := m35n Q 6 (by omega)
          have a7 : m35 Q 7 = m_12 Q 7 := m35n Q 7 (by omega)
          refine Tx.aload_n hC te_110_67 rfl ?_
          refine Tx.dup hC te_110_68 ?_
          refine Tx.getI hC te_110_69 hQ.s0 rfl rfl (fun v37 v37e v37i => ?_)
          unfold InI at v37i
          refine Tx.aload_n hC te_110_72 rfl ?_
          refine Tx.getR hC te_110_73 hQ.s0 rfl rfl ?_
          refine Tx.iload_n hC te_110_76 rfl ?_
          refine Tx.iald hC te_110_77 hQ.s5 (by omega) (fun v38 v38e v38i => ?_)
          unfold InI at v38i
          refine Tx.iaddW hC te_110_78 (fun z39 z39i z39e => ?_)
          unfold InI at z39i z39e
          first | replace z39e := z39e (by omega) | clear z39e
          refine Tx.putI hC te_110_79 hQ.s0 rfl rfl rfl ?_
          have hF41 : Frm (pNm Q) mem (upm m35 Q 6 z39) := Frm.up hF36 (by unfold pNm; omega)
          have m40e : (upm m35 Q 6 z39) Q 6 = z39 := upm_eq
          have m40n : ∀ B j, ¬ (B = Q ∧ j = 6) → (upm m35 Q 6 z39) B j = m35 B j := fun B j q => upm_ne q
          generalize upm m35 Q 6 z39 = m40 at hF41 m40e m40n ⊢
          have b5 : ∀ o, m40 (Q + 5) o = if o = x2.toNat then cv else m_12 (Q + 5) o := fun o => by rw [m40n _ _ (by omega)]; exact a5 o
          have b5x : m40 (Q + 5) x2.toNat = cv := by rw [m40n _ _ (by omega)]; exact a5x
          have b6 : m40 Q 6 = m_12 Q 6 + cv := by
            have w := m40e
            omega
          have b7 : m40 Q 7 = m_12 Q 7 := by rw [m40n Q 7 (by omega)]; exact a7
          refine Tx.aload_n hC te_110_82 rfl ?_
          refine Tx.aload_n hC te_110_83 rfl ?_
          refine Tx.getI hC te_110_84 hQ.s0 rfl rfl (fun v42 v42e v42i => ?_)
          unfold InI at v42i
          refine Tx.aload_n hC te_110_87 rfl ?_
          refine Tx.getR hC te_110_88 hQ.s0 rfl rfl ?_
          refine Tx.iload_n hC te_110_91 rfl ?_
          refine Tx.iald hC te_110_92 hQ.s5 (by omega) (fun v43 v43e v43i => ?_)
          unfold InI at v43i
          refine Tx.statI hC te_110_93 (by decide) mt_40 (args := [.inl v42, .inl v43]) (rest := [.inr Q]) (c' := 0) (s' := 0) rfl rfl rfl rfl rfl rfl rfl ?_
          refine f_40q (fun r44 r44a r44b r44c r44i => ?_)
          unfold InI at r44i
          refine Tx.putI hC te_110_96 hQ.s0 rfl rfl rfl ?_
          have hF48 : Frm (pNm Q) mem (upm m40 Q 7 r44) := Frm.up hF41 (by unfold pNm; omega)
          have m47e : (upm m40 Q 7 r44) Q 7 = r44 := upm_eq
          have m47n : ∀ B j, ¬ (B = Q ∧ j = 7) → (upm m40 Q 7 r44) B j = m40 B j := fun B j q => upm_ne q
          generalize upm m40 Q 7 r44 = m47 at hF48 m47e m47n ⊢
          have c5 : ∀ o, m47 (Q + 5) o = if o = x2.toNat then cv else m_12 (Q + 5) o := fun o => by rw [m47n _ _ (by omega)]; exact b5 o
          have c6 : m47 Q 6 = m_12 Q 6 + cv := by rw [m47n Q 6 (by omega)]; exact b6
          have c7 : m47 Q 7 = max (m_12 Q 7) cv := by
            have w := m47e
            omega
          refine Tx.iincW hC te_110_99 rfl rfl (fun z49 z49i z49e => ?_)
          unfold InI at z49i z49e
          first | replace z49e := z49e (by omega) | clear z49e
          refine Tx.goto hC (t := 12) te_110_102 (by decide) ?_
          exact Tx.weak (by repeat' (first | exact trivial | exact rfl | constructor)) (ih_12 z49 m47 (by omega) (by first | exact NmR.ini g6 m67e | exact NmR.nxt i12_1 (by omega) (by omega) cpv c5 c6 c7) (by omega) (by omega) (by omega) hF48)
        · replace q25 : ¬ (¬ (v24 : Int) = 5) := q25
          refine Tx.iconst hC te_110_30 rfl ?_
          refine Tx.goto hC (t := 35) te_110_31 (by decide) ?_
          refine Tx.istore_n hC te_110_35 rfl ?_
          refine Tx.aload_n hC te_110_36 rfl ?_
          refine Tx.getR hC te_110_37 hQ.s0 rfl rfl ?_
          refine Tx.iload_n hC te_110_40 rfl ?_
          refine Tx.iload_n hC te_110_41 rfl ?_
          refine Tx.ifc hC (t := 49) te_110_42 (by decide) (fun q => absurd q (show ¬ ((1 : Int) = 0) by decide)) (fun q => ?_)
          refine Tx.iconst hC te_110_45 rfl ?_
          refine Tx.goto hC (t := 66) te_110_46 (by decide) ?_
          obtain ⟨cv, cve⟩ : ∃ z : Int, z = 0 := ⟨_, rfl⟩
          have cpv : cv = cpF (mem 2 x2.toNat) (mem (Q + 4) x2.toNat) d := by
            rw [cve]
            unfold cpF
            first
            | rw [if_pos (by omega)]
            | (rw [if_neg (by omega), ← h3, ← v28e, ← v26e, ← r29e]
               omega)
          have cpr : 0 ≤ cv ∧ cv ≤ 12000 := by omega
          refine Tx.iast hC te_110_66 hQ.s5 (by omega) ?_
          have hF51 : Frm (pNm Q) mem (upm m_12 (Q + 5) (Int.toNat x2) 0) := Frm.up hF_12 (by unfold pNm; omega)
          have m50e : (upm m_12 (Q + 5) (Int.toNat x2) 0) (Q + 5) (Int.toNat x2) = 0 := upm_eq
          have m50n : ∀ B j, ¬ (B = (Q + 5) ∧ j = (Int.toNat x2)) → (upm m_12 (Q + 5) (Int.toNat x2) 0) B j = m_12 B j := fun B j q => upm_ne q
          generalize upm m_12 (Q + 5) (Int.toNat x2) 0 = m50 at hF51 m50e m50n ⊢
          have a5 : ∀ o, m50 (Q + 5) o = if o = x2.toNat then cv else m_12 (Q + 5) o := fun o => by
            by_cases q : o = x2.toNat
            · rw [if_pos q, q, m50e, cve]
            · rw [if_neg q, m50n _ _ (by omega)]
          have a5x : m50 (Q + 5) x2.toNat = cv := by rw [m50e, cve]
          have a6 : m50 Q 6 = m_12 Q 6 := m50n Q 6 (by omega)
          have a7 : m50 Q 7 = m_12 Q 7 := m50n Q 7 (by omega)
          refine Tx.aload_n hC te_110_67 rfl ?_
          refine Tx.dup hC te_110_68 ?_
          refine Tx.getI hC te_110_69 hQ.s0 rfl rfl (fun v52 v52e v52i => ?_)
          unfold InI at v52i
          refine Tx.aload_n hC te_110_72 rfl ?_
          refine Tx.getR hC te_110_73 hQ.s0 rfl rfl ?_
          refine Tx.iload_n hC te_110_76 rfl ?_
          refine Tx.iald hC te_110_77 hQ.s5 (by omega) (fun v53 v53e v53i => ?_)
          unfold InI at v53i
          refine Tx.iaddW hC te_110_78 (fun z54 z54i z54e => ?_)
          unfold InI at z54i z54e
          first | replace z54e := z54e (by omega) | clear z54e
          refine Tx.putI hC te_110_79 hQ.s0 rfl rfl rfl ?_
          have hF56 : Frm (pNm Q) mem (upm m50 Q 6 z54) := Frm.up hF51 (by unfold pNm; omega)
          have m55e : (upm m50 Q 6 z54) Q 6 = z54 := upm_eq
          have m55n : ∀ B j, ¬ (B = Q ∧ j = 6) → (upm m50 Q 6 z54) B j = m50 B j := fun B j q => upm_ne q
          generalize upm m50 Q 6 z54 = m55 at hF56 m55e m55n ⊢
          have b5 : ∀ o, m55 (Q + 5) o = if o = x2.toNat then cv else m_12 (Q + 5) o := fun o => by rw [m55n _ _ (by omega)]; exact a5 o
          have b5x : m55 (Q + 5) x2.toNat = cv := by rw [m55n _ _ (by omega)]; exact a5x
          have b6 : m55 Q 6 = m_12 Q 6 + cv := by
            have w := m55e
            omega
          have b7 : m55 Q 7 = m_12 Q 7 := by rw [m55n Q 7 (by omega)]; exact a7
          refine Tx.aload_n hC te_110_82 rfl ?_
          refine Tx.aload_n hC te_110_83 rfl ?_
          refine Tx.getI hC te_110_84 hQ.s0 rfl rfl (fun v57 v57e v57i => ?_)
          unfold InI at v57i
          refine Tx.aload_n hC te_110_87 rfl ?_
          refine Tx.getR hC te_110_88 hQ.s0 rfl rfl ?_
          refine Tx.iload_n hC te_110_91 rfl ?_
          refine Tx.iald hC te_110_92 hQ.s5 (by omega) (fun v58 v58e v58i => ?_)
          unfold InI at v58i
          refine Tx.statI hC te_110_93 (by decide) mt_40 (args := [.inl v57, .inl v58]) (rest := [.inr Q]) (c' := 0) (s' := 0) rfl rfl rfl rfl rfl rfl rfl ?_
          refine f_40q (fun r59 r59a r59b r59c r59i => ?_)
          unfold InI at r59i
          refine Tx.putI hC te_110_96 hQ.s0 rfl rfl rfl ?_
          have hF63 : Frm (pNm Q) mem (upm m55 Q 7 r59) := Frm.up hF56 (by unfold pNm; omega)
          have m62e : (upm m55 Q 7 r59) Q 7 = r59 := upm_eq
          have m62n : ∀ B j, ¬ (B = Q ∧ j = 7) → (upm m55 Q 7 r59) B j = m55 B j := fun B j q => upm_ne q
          generalize upm m55 Q 7 r59 = m62 at hF63 m62e m62n ⊢
          have c5 : ∀ o, m62 (Q + 5) o = if o = x2.toNat then cv else m_12 (Q + 5) o := fun o => by rw [m62n _ _ (by omega)]; exact b5 o
          have c6 : m62 Q 6 = m_12 Q 6 + cv := by rw [m62n Q 6 (by omega)]; exact b6
          have c7 : m62 Q 7 = max (m_12 Q 7) cv := by
            have w := m62e
            omega
          refine Tx.iincW hC te_110_99 rfl rfl (fun z64 z64i z64e => ?_)
          unfold InI at z64i z64e
          first | replace z64e := z64e (by omega) | clear z64e
          refine Tx.goto hC (t := 12) te_110_102 (by decide) ?_
          exact Tx.weak (by repeat' (first | exact trivial | exact rfl | constructor)) (ih_12 z64 m62 (by omega) (by first | exact NmR.ini g6 m67e | exact NmR.nxt i12_1 (by omega) (by omega) cpv c5 c6 c7) (by omega) (by omega) (by omega) hF63)
  refine Tx.aload_n hC te_110_0 rfl ?_
  refine Tx.iconst hC te_110_1 rfl ?_
  refine Tx.putI hC te_110_2 hQ.s0 rfl rfl rfl ?_
  have hF66 : Frm (pNm Q) mem (upm mem Q 6 0) := Frm.up Frm.rf (by unfold pNm; omega)
  have m65e : (upm mem Q 6 0) Q 6 = 0 := upm_eq
  have m65n : ∀ B j, ¬ (B = Q ∧ j = 6) → (upm mem Q 6 0) B j = mem B j := fun B j q => upm_ne q
  generalize upm mem Q 6 0 = m65 at hF66 m65e m65n ⊢
  refine Tx.aload_n hC te_110_5 rfl ?_
  refine Tx.iconst hC te_110_6 rfl ?_
  refine Tx.putI hC te_110_7 hQ.s0 rfl rfl rfl ?_
  have hF68 : Frm (pNm Q) mem (upm m65 Q 7 1) := Frm.up hF66 (by unfold pNm; omega)
  have m67e : (upm m65 Q 7 1) Q 7 = 1 := upm_eq
  have m67n : ∀ B j, ¬ (B = Q ∧ j = 7) → (upm m65 Q 7 1) B j = m65 B j := fun B j q => upm_ne q
  generalize upm m65 Q 7 1 = m67 at hF68 m67e m67n ⊢
  have g6 : m67 Q 6 = 0 := by rw [m67n Q 6 (by omega), m65e]
  refine Tx.iconst hC te_110_10 rfl ?_
  refine Tx.istore_n hC te_110_11 rfl ?_
  exact l_12 _ 0 m67 (by omega) (by first | exact NmR.ini g6 m67e | exact NmR.nxt i12_1 (by omega) (by omega) cpv c5 c6 c7) (by omega) (by omega) (Nat.lt_succ_self _) hF68
end
section
/-! what the class keeps of each step's chart -/
theorem WyV.rg {E : Nat → Nat → Int → Prop} {k : Nat} {nn w : Int} {a b : Nat} (h : WyV E nn a b w) (hE : FwH E k) : w = nn ∨ (-801 ≤ w ∧ w ≤ 54) := by
  rcases h with ⟨e, -⟩ | ⟨-, ⟨p, g⟩, u⟩
  · exact Or.inl e
  · obtain ⟨p', v', g1, -, g3, g4⟩ := Wk.red hE.2.1 p a b w g
    have r := hE.rg g1 g3
    have := u _ _ g3
    have := hE.up g
    exact Or.inr (by omega)
theorem TiW.of {m m' : MM} {d : Int} {k : Nat} (hk : (CPb m d).n = k) (hE : FwH (CPb m d).E k) (hW : WyC (CPb m d) (WM m 20) (-100000)) (e : ∀ i, m' 20 i = m 20 i) : TiW (CPb m d) (WM m 20) m' := by
  have ne : ∀ a b, a < k → b < k → (¬ WM m 20 a b = -100000 ↔ Rch (CPb m d).E a b) := fun a b ha hb => by
    rcases hW a b (by omega) (by omega) with ⟨w1, w2⟩ | ⟨w1, ⟨l, w2⟩, w3⟩
    · exact ⟨fun z => absurd w1 z, fun ⟨l, v, g⟩ => absurd g (w2 l v)⟩
    · exact ⟨fun _ => ⟨l, _, w2⟩, fun _ => w1⟩
  refine ⟨fun a b ha hb hn => ?_, fun a b t => ?_, fun a t => ?_⟩
  · unfold TiB
    rw [e, e]
    have n1 := ne a b (by omega) (by omega)
    have n2 := ne b a (by omega) (by omega)
    exact ⟨fun z => ⟨hn, n1.mp z.1, n2.mp z.2⟩, fun z => ⟨n1.mpr z.2.1, n2.mpr z.2.2⟩⟩
  · obtain ⟨l, v, g⟩ := t.2.1
    have va := Wk.ends (fun a b x h => hE.v a b x h) g
    rw [e]
    refine ⟨rfl, ?_⟩
    have z := (ne a b va.1 va.2.1).mpr t.2.1
    have y := (hW a b (by omega) (by omega)).rg hE
    omega
  · obtain ⟨j, t⟩ := t
    have rr := t.2.1.tr t.2.2
    obtain ⟨l, v, g⟩ := rr
    have va := Wk.ends (fun a b x h => hE.v a b x h) g
    have z := (ne a a va.1 va.1).mpr ⟨l, v, g⟩
    rcases hW a a (by omega) (by omega) with ⟨w1, w2⟩ | ⟨w1, ⟨l2, w2⟩, w3⟩
    · exact absurd w1 z
    · have y := (hW a a (by omega) (by omega)).rg hE
      obtain ⟨l3, v3, g1, -, g3, g4⟩ := Wk.red hE.2.1 l2 a a _ w2
      have u := hE.2.1 a l3 v3 g1 g3
      rw [e]
      show -100000 ≤ WM m 20 a a ∧ WM m 20 a a ≤ 0
      omega
def ChX (m : MM) (d : Int) (Q : Nat) : Prop := (m Q 2 = m 1 0 ∧ m Q 3 = d) ∧ LstP (CPb m d) (m (Q + 1)) ∧ TmL (CPb m d) (m (Q + 1)) (m (Q + 2)) ∧ (∀ o : Nat, (o : Int) < m 1 0 → m (Q + 3) o = m (Q + 2) o + cLa m o) ∧ m Q 4 = mxW (fun o => m (Q + 2) o + cLa m o) (m 1 0).toNat ∧ (m Q 5 = 1 + mxW (fun o => m (Q + 2) o / d) (m 1 0).toNat) ∧ LnX m d Q
def DrX (m : MM) (d : Int) (Q : Nat) : Prop := (m Q 1 = 0 ∧ (d < upV (m 9 5) (m 9 6) ∨ ∀ v, ¬ Fsb (CPb m d) v)) ∨ (m Q 1 = 1 ∧ upV (m 9 5) (m 9 6) ≤ d ∧ ChX m d Q)
def ChtX (m : MM) : Prop := ∀ k : Nat, 1 ≤ k → k ≤ 12 → ¬ m (38 + 7 * k) 0 = 0 → DrX m k (38 + 7 * k)
section DRX
variable {m m' : MM} {d : Int} {Q : Nat}
theorem CPb.cg (e : ∀ A i, (0 < A ∧ A < 9 ∧ ¬ A = 4) ∨ (A = 9 ∧ i = 0) ∨ (10 ≤ A ∧ A ≤ 13) → m' A i = m A i) : CPb m' d = CPb m d := by
  have e1 : cUn m' = cUn m := funext fun o => by
    unfold cUn
    rw [e 2 o (by omega), e 5 _ (by omega)]
  have e2 : cBu m' = cBu m := funext fun o => by
    unfold cBu
    rw [e 2 o (by omega), e 7 _ (by omega)]
  have e3 : (fun u => m' 8 u) = fun u => m 8 u := funext fun u => e 8 u (by omega)
  have e4 : cwq m' 9 = cwq m 9 := funext fun i => by
    unfold cwq
    rw [e (9 + 1) i (by omega), e (9 + 2) i (by omega), e (9 + 3) i (by omega), e (9 + 4) i (by omega)]
  unfold CPb
  rw [e1, e2, e3, e4, e 1 0 (by omega), e 9 0 (by omega)]
theorem cLa.cg (e : ∀ A i, (0 < A ∧ A < 9 ∧ ¬ A = 4) → m' A i = m A i) : cLa m' = cLa m := funext fun o => by
  unfold cLa
  rw [e 2 o (by omega), e 6 _ (by omega)]
theorem ChX.fr (h : ChX m d Q) (e : ∀ A i, (0 < A ∧ A < 9 ∧ ¬ A = 4) ∨ (A = 9 ∧ i = 0) ∨ (10 ≤ A ∧ A ≤ 13) ∨ (A = Q ∧ 2 ≤ i) ∨ (Q < A ∧ A ≤ Q + 6) → m' A i = m A i) : ChX m' d Q := by
  have r1 : m' (Q + 1) = m (Q + 1) := funext fun i => e _ i (by omega)
  have r2 : m' (Q + 2) = m (Q + 2) := funext fun i => e _ i (by omega)
  have r3 : m' (Q + 3) = m (Q + 3) := funext fun i => e _ i (by omega)
  unfold ChX
  rw [CPb.cg (fun A i q => e A i (by omega)), cLa.cg (fun A i q => e A i (by omega)), r1, r2, r3, e Q 2 (by omega), e Q 3 (by omega), e Q 4 (by omega), e Q 5 (by omega), e 1 0 (by omega)]
  exact ⟨h.1, h.2.1, h.2.2.1, h.2.2.2.1, h.2.2.2.2.1, h.2.2.2.2.2.1, h.2.2.2.2.2.2.fr (fun A i q => e A i (by omega))⟩
theorem DrX.fr (h : DrX m d Q) (e : ∀ A i, (0 < A ∧ A < 9 ∧ ¬ A = 4) ∨ (A = 9 ∧ (i = 0 ∨ i = 5 ∨ i = 6)) ∨ (10 ≤ A ∧ A ≤ 13) ∨ (A = Q ∧ 1 ≤ i) ∨ (Q < A ∧ A ≤ Q + 6) → m' A i = m A i) : DrX m' d Q := by
  unfold DrX
  rw [CPb.cg (fun A i q => e A i (by omega)), e Q 1 (by omega), e 9 5 (by omega), e 9 6 (by omega)]
  exact h.imp id (fun w => ⟨w.1, w.2.1, w.2.2.fr (fun A i q => e A i (by omega))⟩)
theorem ChtX.fr (h : ChtX m) (e : ∀ A i, (0 < A ∧ A < 9 ∧ ¬ A = 4) ∨ (A = 9 ∧ (i = 0 ∨ i = 5 ∨ i = 6)) ∨ (10 ≤ A ∧ A ≤ 13) ∨ (38 ≤ A ∧ A ≤ 128) → m' A i = m A i) : ChtX m' := fun k k1 k2 z => by
  rw [e (38 + 7 * k) 0 (by omega)] at z
  exact (h k k1 k2 z).fr (fun A i q => e A i (by omega))
theorem ChtX.but {k : Nat} (h : ChtX m) (e : ∀ A i, (0 < A ∧ A < 9 ∧ ¬ A = 4) ∨ (A = 9 ∧ (i = 0 ∨ i = 5 ∨ i = 6)) ∨ (10 ≤ A ∧ A ≤ 13) ∨ (38 ≤ A ∧ A ≤ 128 ∧ ¬ (38 + 7 * k ≤ A ∧ A ≤ 38 + 7 * k + 6)) → m' A i = m A i) (g : DrX m' k (38 + 7 * k)) : ChtX m' := fun j k1 k2 z => by
  by_cases q : j = k
  · subst q; exact g
  · rw [e (38 + 7 * j) 0 (by omega)] at z
    exact (h j k1 k2 z).fr (fun A i w => e A i (by omega))
end DRX
def CcX (m : MM) : Prop := RchX m ∧ ChtX m
theorem CcX.fr {m m' : MM} (h : CcX m) (e : ∀ A i, (A = 19 ∧ i < 2) ∨ A = 20 ∨ (A = 9 ∧ (i = 0 ∨ i = 5 ∨ i = 6)) ∨ (10 ≤ A ∧ A ≤ 13) ∨ (0 < A ∧ A < 9 ∧ ¬ A = 4) ∨ (38 ≤ A ∧ A ≤ 128) → m' A i = m A i) : CcX m' := ⟨h.1.fr (fun A i q => e A i (by omega)), h.2.fr (fun A i q => e A i (by omega))⟩
end
section
/-! laid by wip/hand/tg.py: a chart is drawn, exactly -/
def DwI (mem m : MM) (d : Int) (Q : Nat) (x : Int) : Prop := (m Q 2 = mem 1 0 ∧ m Q 3 = d) ∧ LstP (CPb mem d) (m (Q + 1)) ∧ TmL (CPb mem d) (m (Q + 1)) (m (Q + 2)) ∧ (∀ o : Nat, (o : Int) < x → m (Q + 3) o = m (Q + 2) o + cLa mem o) ∧ m Q 4 = mxW (fun o => m (Q + 2) o + cLa mem o) x.toNat ∧ m Q 5 = 1 + mxW (fun o => m (Q + 2) o / d) x.toNat
theorem Fsb.cgv {p : Prb} {s s' : Nat → Int} (hP : PrW p) (h : Fsb p s) (e : ∀ o, o < p.n → s o = s' o) : Fsb p s' := by
  obtain ⟨h1, h2, t, ht⟩ := h
  refine ⟨fun o ho => by rw [← e o ho]; exact h1 o ho, fun u k a b c d => ?_, t, fun a b x hx => ?_⟩
  · have w := h2 u k a b c d
    unfold Prb.us at w ⊢
    rw [← usM_cg p.n (fun o ho _ => ⟨Iff.rfl, fun _ => e o ho⟩)]
    exact w
  · have v := (hP.2.1 a b x hx).1
    rw [← e a v.1, ← e b v.2]
    exact ht a b x hx
theorem LstP.cgv {p : Prb} {s s' : Nat → Int} (hP : PrW p) (h : LstP p s) (e : ∀ o, o < p.n → s o = s' o) : LstP p s' := ⟨h.1.cgv hP e, fun v hv j hj k => by
  rw [← e j hj]
  exact h.2 v hv j hj (fun i hi => (k i hi).trans (e i (by omega)).symm)⟩
section DRW
variable {mem m m' : MM} {d x y : Int} {Q : Nat}
theorem DwI.ini (h1 : m Q 2 = mem 1 0 ∧ m Q 3 = d) (h2 : LstP (CPb mem d) (m (Q + 1))) (h3 : TmL (CPb mem d) (m (Q + 1)) (m (Q + 2))) (h4 : m Q 4 = 0) (h5 : m Q 5 = 1) : DwI mem m d Q 0 := ⟨h1, h2, h3, fun o ho => absurd ho (by omega), h4, h5⟩
theorem DwI.nxt (h : DwI mem m d Q x) (e : y = x + 1) (h0 : 0 ≤ x) (en : ∀ B j, ¬ (B = Q + 3 ∧ j = x.toNat) → ¬ (B = Q ∧ j = 4) → ¬ (B = Q ∧ j = 5) → m' B j = m B j) (e3 : m' (Q + 3) x.toNat = m (Q + 2) x.toNat + cLa mem x.toNat) (e4 : m' Q 4 = max (m Q 4) (m (Q + 2) x.toNat + cLa mem x.toNat)) (e5 : m' Q 5 = max (m Q 5) (m (Q + 2) x.toNat / d + 1)) : DwI mem m' d Q y := by
  obtain ⟨h1, h2, h3, h4, h5, h6⟩ := h
  have r1 : m' (Q + 1) = m (Q + 1) := funext fun i => en _ i (by omega) (by omega) (by omega)
  have r2 : m' (Q + 2) = m (Q + 2) := funext fun i => en _ i (by omega) (by omega) (by omega)
  unfold DwI
  rw [r1, r2, en Q 2 (by omega) (by omega) (by omega), en Q 3 (by omega) (by omega) (by omega)]
  refine ⟨h1, h2, h3, fun o ho => ?_, ?_, ?_⟩
  · by_cases q : o = x.toNat
    · subst q; exact e3
    · rw [en _ o (by omega) (by omega) (by omega)]; exact h4 o (by omega)
  · rw [e, mxW_st h0, e4, h5]
  · rw [e, mxW_st h0, e5, h6]
    omega
theorem DwI.chx (h : DwI mem m d Q (mem 1 0)) (g : LnX m d Q) (e : ∀ A i, (0 < A ∧ A < 9 ∧ ¬ A = 4) ∨ (A = 9 ∧ i = 0) ∨ (10 ≤ A ∧ A ≤ 13) → m A i = mem A i) : ChX m d Q := by
  unfold ChX
  rw [CPb.cg e, cLa.cg (fun A i q => e A i (by omega)), e 1 0 (by omega)]
  exact ⟨h.1, h.2.1, h.2.2.1, h.2.2.2.1, h.2.2.2.2.1, h.2.2.2.2.2, g⟩
theorem DwI.fin (h : DwI mem m d Q x) (q : x = mem 1 0) (e : ∀ A i, ¬ (A = Q ∧ (i = 6 ∨ i = 7)) → ¬ A = Q + 4 → ¬ A = Q + 5 → ¬ A = Q + 6 → m' A i = m A i) : DwI mem m' d Q (mem 1 0) := by
  rw [q] at h
  have r1 : m' (Q + 1) = m (Q + 1) := funext fun i => e _ i (by omega) (by omega) (by omega) (by omega)
  have r2 : m' (Q + 2) = m (Q + 2) := funext fun i => e _ i (by omega) (by omega) (by omega) (by omega)
  have r3 : m' (Q + 3) = m (Q + 3) := funext fun i => e _ i (by omega) (by omega) (by omega) (by omega)
  unfold DwI
  rw [r1, r2, r3, e Q 2 (by omega) (by omega) (by omega) (by omega), e Q 3 (by omega) (by omega) (by omega) (by omega), e Q 4 (by omega) (by omega) (by omega) (by omega), e Q 5 (by omega) (by omega) (by omega) (by omega)]
  exact h
end DRW
theorem f_108e {S : Nat × (Nat → Int32)} {n : Nat} {mem : MM} {K : Int → MM → Prop} {E : Nat → MM → Prop} {Q : Nat} (hQ : ChSh Q) (hO : ChtOK mem Q) {o : Int} (ho : 0 ≤ o ∧ o < 8) (h3 : 1 ≤ mem Q 3) (H : ∀ r, r = mem (Q + 2) o.toNat / mem Q 3 → 0 ≤ r → r ≤ 11000 → K r mem) : CQI (Ex S (n + 1)) 108 [.inr Q, .inl o] mem K E := by
  refine CY.of (k := 0) mt_108 rfl rfl (fun hv => ?_)
  have hC := Ex.mono S n
  have ii_o : InI o := hv (.inl o) (by simp)
  unfold InI at ii_o
  clear hv
  have hq8 := hQ.rg
  have hO1 := hO.1
  show Tx (Ex S n) S M_108 (kI K E) 0 0 0 [some (.inr Q), some (.inl o)] [] mem
  refine Tx.aload_n hC te_108_0 rfl ?_
  refine Tx.getI hC te_108_1 hQ.s0 rfl rfl (fun v1 v1e v1i => ?_)
  unfold InI at v1i
  refine Tx.ifc hC (t := 11) te_108_4 (by decide) (fun q2 => ?_) (fun q2 => ?_)
  · replace q2 : 0 < (v1 : Int) := q2
    refine Tx.aload_n hC te_108_11 rfl ?_
    refine Tx.getR hC te_108_12 hQ.s0 rfl rfl ?_
    refine Tx.iload_n hC te_108_15 rfl ?_
    refine Tx.iald hC te_108_16 hQ.s2 (by omega) (fun v3 v3e v3i => ?_)
    unfold InI at v3i
    have f4 := hO.2 (Int.toNat o) (by omega)
    refine Tx.aload_n hC te_108_17 rfl ?_
    refine Tx.getI hC te_108_18 hQ.s0 rfl rfl (fun v5 v5e v5i => ?_)
    unfold InI at v5i
    refine Tx.idivW hC te_108_21 (by omega) (fun z6 z6i z6e z6f => ?_)
    unfold InI at z6i
    exact Tx.ireturn hC te_108_22 rfl (fun hr => show K z6 mem from (by first | (exfalso; omega) | (refine H _ ?_ (by omega) (by omega); simp_all [Int.tdiv_eq_ediv_of_nonneg])))
  · replace q2 : ¬ (0 < (v1 : Int)) := q2
    refine Tx.iconst hC te_108_7 rfl ?_
    refine Tx.goto hC (t := 22) te_108_8 (by decide) ?_
    exact Tx.ireturn hC te_108_22 rfl (fun hr => show K 0 mem from (by first | (exfalso; omega) | (refine H _ ?_ (by omega) (by omega); simp_all [Int.tdiv_eq_ediv_of_nonneg])))
set_option maxHeartbeats 1000000 in
theorem f_106e {S : Nat × (Nat → Int32)} {n : Nat} {mem : MM} {K : MM → Prop} {E : Nat → MM → Prop} {Q : Nat} (hQ : ChSh Q) (hO : ChtOK mem Q) (hB : BodyOK mem) (hW9 : WbOK mem 9) (hWS : WbS mem) (hSl : ∀ o, o < 8 → 0 ≤ mem 22 o ∧ mem 22 o ≤ 11) {d : Int} (hd : 1 ≤ d ∧ d ≤ 12) (hP : PrW (CPb mem d)) (hL : LstP (CPb mem d) (mem 22)) (H : ∀ m', Frm (pCh Q) mem m' → ChtOK m' Q → DwI mem m' d Q (mem 1 0) → m' Q 1 = mem Q 1 → LnX m' d Q → K m') : CQV (Ex S (n + 4)) 106 [.inr Q, .inr 1, .inr 9, .inr 22, .inl d] mem K E := by
  refine CY.of (k := 1) mt_106 rfl rfl (fun hv => ?_)
  have hC := Ex.mono S (n + 3)
  have ii_d : InI d := hv (.inl d) (by simp)
  unfold InI at ii_d
  clear hv
  have hq8 := hQ.rg
  show Tx (Ex S (n + 3)) S M_106 (kV K E) 0 0 0 [some (.inr Q), some (.inr 1), some (.inr 9), some (.inr 22), some (.inl d), none] [] mem
  have l_44 : ∀ (N : Nat) (x5 : Int) (m_44 : MM), (0 ≤ x5 ∧ x5 ≤ mem 1 0) → (ChtOK m_44 Q) → (DwI mem m_44 d Q x5) → (m_44 Q 1 = mem Q 1) → ((8 - x5).toNat) < N → Frm (pCh Q) mem m_44 → Tx (Ex S (n + 3)) S M_106 (kV K E) 0 0 44 [some (.inr Q), some (.inr 1), some (.inr 9), some (.inr 22), some (.inl d), some (.inl x5)] [] m_44 := by
    intro N
    induction N with
    | zero => intros; omega
    | succ N ih_44 =>
      intro x5 m_44 i44_0 i44_1 i44_2 i44_3 hN_44 hF_44
      have dw := i44_2.1
      have h8 := hB.1
      refine Tx.iload hC te_106_44 rfl ?_
      refine Tx.aload_n hC te_106_46 rfl ?_
      refine Tx.getI hC te_106_47 hQ.s0 rfl rfl (fun v1 v1e v1i => ?_)
      unfold InI at v1i
      have f2 := i44_1.1
      refine Tx.icmp hC (t := 117) te_106_50 (by decide) (fun q3 => ?_) (fun q3 => ?_)
      · replace q3 : v1 ≤ (x5 : Int) := q3
        refine Tx.aload_n hC te_106_117 rfl ?_
        refine Tx.aload_n hC te_106_118 rfl ?_
        refine Tx.virtV hC te_106_119 mt_109 (args := [.inr Q, .inr 1]) (rest := []) (c' := 0) (s' := 0) rfl rfl rfl rfl rfl rfl rfl rfl hQ.s0 rfl ?_
        refine f_109e hQ i44_1 (hB.fr (fun A i a b => hF_44 A i (by unfold pCh; omega))) hd dw.2 (by rw [dw.1]; exact (hF_44 1 0 (by unfold pCh; omega)).symm) (fun m5 hF6 r4L => ?_)
        have r4I := ChtOK.fr2 i44_1 (fun A i q => hF6 A i (by unfold pLi; omega))
        have bb := (hB.fr (fun A i a b => hF_44 A i (by unfold pCh; omega)))
        have fn := hF_44 1 0 (by unfold pCh; omega)
        have hF6n : Frm (pCh Q) mem m5 := hF_44.tr (hF6.mono (fun A i q => by unfold pLi at q; unfold pCh; omega))
        refine Tx.aload_n hC te_106_122 rfl ?_
        refine Tx.aload_n hC te_106_123 rfl ?_
        refine Tx.virtV hC te_106_124 mt_110 (args := [.inr Q, .inr 1]) (rest := []) (c' := 0) (s' := 0) rfl rfl rfl rfl rfl rfl rfl rfl hQ.s0 rfl ?_
        refine f_110e hQ r4I (hB.fr (fun A i a b => hF6n A i (by unfold pCh; omega))) hd (by rw [hF6 Q 3 (by unfold pLi; omega)]; exact dw.2) (by rw [hF6 Q 2 (by unfold pLi; omega), hF6 1 0 (by unfold pLi; omega), dw.1]; exact fn.symm) (fun o ho => r4L.rg i44_1 bb hd (by omega) o (by rw [← hF6 1 0 (by unfold pLi; omega)]; exact ho)) (fun m8 hF9 r7N r7P => ?_)
        have r7I := ChtOK.fr2 r4I (fun A i q => hF9 A i (by unfold pNm; omega))
        have hF9n : Frm (pCh Q) mem m8 := hF6n.tr (hF9.mono (fun A i q => by unfold pNm at q; unfold pCh; omega))
        exact Tx.vret hC te_106_127 rfl (show K m8 from H _ hF9n r7I (i44_2.fin (by omega) (fun A i a b c e => (hF9 A i (by unfold pNm; omega)).trans (hF6 A i (by unfold pLi; omega)))) ((hF9 Q 1 (by unfold pNm; omega)).trans ((hF6 Q 1 (by unfold pLi; omega)).trans i44_3)) (LnX.of r4L r7N r7P hF6 hF9 hq8.1))
      · replace q3 : ¬ (v1 ≤ (x5 : Int)) := q3
        refine Tx.aload_n hC te_106_53 rfl ?_
        refine Tx.getR hC te_106_54 hQ.s0 rfl rfl ?_
        refine Tx.iload hC te_106_57 rfl ?_
        refine Tx.aload_n hC te_106_59 rfl ?_
        refine Tx.getR hC te_106_60 hQ.s0 rfl rfl ?_
        refine Tx.iload hC te_106_63 rfl ?_
        refine Tx.iald hC te_106_65 hQ.s2 (by omega) (fun v10 v10e v10i => ?_)
        unfold InI at v10i
        have f11 := i44_1.2 (Int.toNat x5) (by omega)
        refine Tx.aload_n hC te_106_66 rfl ?_
        refine Tx.iload hC te_106_67 rfl ?_
        refine Tx.virtI hC te_106_69 mt_19 (args := [.inr 1, .inl x5]) (rest := [.inl v10, .inl x5, .inr (Q + 3)]) (c' := 0) (s' := 0) rfl rfl rfl rfl rfl rfl rfl rfl rfl rfl ?_
        refine CWI.q hC (f_19e (hB.fr (fun A i a b => hF_44 A i (by unfold pCh; omega))) (by omega) (fun r12a r12b r12i => ?_))
        have la : cLa2 m_44 (Int.toNat x5) = cLa mem x5.toNat := by
          unfold cLa2 cLa
          rw [hF_44 2 _ (by unfold pCh; omega), hF_44 6 _ (by unfold pCh; omega)]
        refine Tx.iaddW hC te_106_72 (fun z15 z15i z15e => ?_)
        unfold InI at z15i z15e
        first | replace z15e := z15e (by omega) | clear z15e
        refine Tx.iast hC te_106_73 hQ.s3 (by omega) ?_
        have hF17 : Frm (pCh Q) mem (upm m_44 (Q + 3) (Int.toNat x5) z15) := Frm.up hF_44 (by unfold pCh; omega)
        have hI18 : ChtOK (upm m_44 (Q + 3) (Int.toNat x5) z15) Q := ChtOK.up3 i44_1 (by omega)
        have m16e : (upm m_44 (Q + 3) (Int.toNat x5) z15) (Q + 3) (Int.toNat x5) = z15 := upm_eq
        have m16n : ∀ B j, ¬ (B = (Q + 3) ∧ j = (Int.toNat x5)) → (upm m_44 (Q + 3) (Int.toNat x5) z15) B j = m_44 B j := fun B j q => upm_ne q
        generalize upm m_44 (Q + 3) (Int.toNat x5) z15 = m16 at hF17 hI18 m16e m16n ⊢
        refine Tx.aload_n hC te_106_74 rfl ?_
        refine Tx.aload_n hC te_106_75 rfl ?_
        refine Tx.getI hC te_106_76 hQ.s0 rfl rfl (fun v19 v19e v19i => ?_)
        unfold InI at v19i
        refine Tx.aload_n hC te_106_79 rfl ?_
        refine Tx.getR hC te_106_80 hQ.s0 rfl rfl ?_
        refine Tx.iload hC te_106_83 rfl ?_
        refine Tx.iald hC te_106_85 hQ.s3 (by omega) (fun v20 v20e v20i => ?_)
        unfold InI at v20i
        refine Tx.statI hC te_106_86 (by decide) mt_40 (args := [.inl v19, .inl v20]) (rest := [.inr Q]) (c' := 0) (s' := 0) rfl rfl rfl rfl rfl rfl rfl ?_
        refine f_40q (fun r21 r21a r21b r21c r21i => ?_)
        unfold InI at r21i
        refine Tx.putI hC te_106_89 hQ.s0 rfl rfl rfl ?_
        have hF25 : Frm (pCh Q) mem (upm m16 Q 4 r21) := Frm.up hF17 (by unfold pCh; omega)
        have hI26 : ChtOK (upm m16 Q 4 r21) Q := ChtOK.fr2 hI18 (fun A i q => upm_ne (by omega))
        have m24e : (upm m16 Q 4 r21) Q 4 = r21 := upm_eq
        have m24n : ∀ B j, ¬ (B = Q ∧ j = 4) → (upm m16 Q 4 r21) B j = m16 B j := fun B j q => upm_ne q
        generalize upm m16 Q 4 r21 = m24 at hF25 hI26 m24e m24n ⊢
        refine Tx.aload_n hC te_106_92 rfl ?_
        refine Tx.aload_n hC te_106_93 rfl ?_
        refine Tx.getI hC te_106_94 hQ.s0 rfl rfl (fun v27 v27e v27i => ?_)
        unfold InI at v27i
        refine Tx.aload_n hC te_106_97 rfl ?_
        refine Tx.iload hC te_106_98 rfl ?_
        refine Tx.virtI hC te_106_100 mt_108 (args := [.inr Q, .inl x5]) (rest := [.inl v27, .inr Q]) (c' := 0) (s' := 0) rfl rfl rfl rfl rfl rfl rfl rfl hQ.s0 rfl ?_
        have q3 : m24 Q 3 = d := by rw [m24n Q 3 (by omega), m16n Q 3 (by omega)]; exact dw.2
        refine f_108e hQ hI26 (by omega) (by omega) (fun r28 r28e r28a r28b r28i => ?_)
        unfold InI at r28i
        refine Tx.iconst hC te_106_103 rfl ?_
        refine Tx.iaddW hC te_106_104 (fun z31 z31i z31e => ?_)
        unfold InI at z31i z31e
        first | replace z31e := z31e (by omega) | clear z31e
        refine Tx.statI hC te_106_105 (by decide) mt_40 (args := [.inl v27, .inl z31]) (rest := [.inr Q]) (c' := 0) (s' := 0) rfl rfl rfl rfl rfl rfl rfl ?_
        refine f_40q (fun r32 r32a r32b r32c r32i => ?_)
        unfold InI at r32i
        refine Tx.putI hC te_106_108 hQ.s0 rfl rfl rfl ?_
        have hF36 : Frm (pCh Q) mem (upm m24 Q 5 r32) := Frm.up hF25 (by unfold pCh; omega)
        have hI37 : ChtOK (upm m24 Q 5 r32) Q := ChtOK.fr2 hI26 (fun A i q => upm_ne (by omega))
        have m35e : (upm m24 Q 5 r32) Q 5 = r32 := upm_eq
        have m35n : ∀ B j, ¬ (B = Q ∧ j = 5) → (upm m24 Q 5 r32) B j = m24 B j := fun B j q => upm_ne q
        generalize upm m24 Q 5 r32 = m35 at hF36 hI37 m35e m35n ⊢
        have w3 : m35 (Q + 3) x5.toNat = m_44 (Q + 2) x5.toNat + cLa mem x5.toNat := by
          rw [m35n _ _ (by omega), m24n _ _ (by omega), m16e]
          omega
        have w4 : m35 Q 4 = max (m_44 Q 4) (m_44 (Q + 2) x5.toNat + cLa mem x5.toNat) := by
          rw [m35n Q 4 (by omega), m24e]
          have a : v19 = m_44 Q 4 := by rw [v19e, m16n Q 4 (by omega)]
          have b : v20 = z15 := by rw [v20e, m16e]
          omega
        have w5 : m35 Q 5 = max (m_44 Q 5) (m_44 (Q + 2) x5.toNat / d + 1) := by
          rw [m35e]
          have a : v27 = m_44 Q 5 := by rw [v27e, m24n Q 5 (by omega), m16n Q 5 (by omega)]
          have b : r28 = m_44 (Q + 2) x5.toNat / d := by rw [r28e, q3, m24n (Q + 2) _ (by omega), m16n (Q + 2) _ (by omega)]
          rw [← b]
          omega
        have en : ∀ B j, ¬ (B = Q + 3 ∧ j = x5.toNat) → ¬ (B = Q ∧ j = 4) → ¬ (B = Q ∧ j = 5) → m35 B j = m_44 B j := fun B j a b c => by rw [m35n B j (by omega), m24n B j (by omega), m16n B j (by omega)]
        refine Tx.iincW hC te_106_111 rfl rfl (fun z38 z38i z38e => ?_)
        unfold InI at z38i z38e
        first | replace z38e := z38e (by omega) | clear z38e
        refine Tx.goto hC (t := 44) te_106_114 (by decide) ?_
        exact ih_44 z38 m35 (by omega) (hI37) (by first | exact gw | exact i44_2.nxt (by omega) (by omega) en w3 w4 w5) (by first | exact g1q | exact (en Q 1 (by omega) (by omega) (by omega)).trans i44_3) (by omega) hF36
  refine Tx.aload_n hC te_106_0 rfl ?_
  refine Tx.aload_n hC te_106_1 rfl ?_
  refine Tx.getI hC te_106_2 rfl rfl rfl (fun v39 v39e v39i => ?_)
  unfold InI at v39i
  refine Tx.putI hC te_106_5 hQ.s0 rfl rfl rfl ?_
  have hF41 : Frm (pCh Q) mem (upm mem Q 2 v39) := Frm.up Frm.rf (by unfold pCh; omega)
  refine Tx.aload_n hC te_106_8 rfl ?_
  refine Tx.iload hC te_106_9 rfl ?_
  refine Tx.putI hC te_106_11 hQ.s0 rfl rfl rfl ?_
  have hF43 : Frm (pCh Q) mem (upm (upm mem Q 2 v39) Q 3 d) := Frm.up hF41 (by unfold pCh; omega)
  refine Tx.aload_n hC te_106_14 rfl ?_
  refine Tx.iconst hC te_106_15 rfl ?_
  refine Tx.aload_n hC te_106_16 rfl ?_
  refine Tx.getR hC te_106_17 hQ.s0 rfl rfl ?_
  refine Tx.iconst hC te_106_20 rfl ?_
  refine Tx.bipush hC te_106_21 rfl rfl ?_
  refine Tx.copy hC te_106_23 rfl hQ.s1 (by omega) rfl (fun m44 m44a m44b => ?_)
  have hD1 := dr_start hQ hO hB hSl (by assumption) hd m44a m44b
  refine Tx.aload_n hC te_106_26 rfl ?_
  refine Tx.aload_n hC te_106_27 rfl ?_
  refine Tx.virtV hC te_106_28 mt_107 (args := [.inr Q, .inr 9]) (rest := []) (c' := 0) (s' := 0) rfl rfl rfl rfl rfl rfl rfl rfl hQ.s0 rfl ?_
  have e1 : m44 (Q + 1) = fun i => if i < 8 then mem 22 i else m44 (Q + 1) i := funext fun i => by
    by_cases q : i < 8
    · rw [if_pos q, m44b i, if_pos (by omega), upm_ne (by omega), upm_ne (by omega)]
      congr 1
      omega
    · rw [if_neg q]
  have e3 : m44 Q 3 = d := by rw [m44a Q 3 (by omega), upm_eq]
  have ec : CPb m44 d = CPb mem d := CPb.cg (fun A i q => hD1.2.2 A i (by unfold pCh; omega))
  have n8 := hB.1
  have hL2 : LstP (CPb mem d) (m44 (Q + 1)) := hL.cgv hP (fun o ho => by
    have w : o < (mem 1 0).toNat := ho
    rw [e1]
    exact (if_pos (by omega)).symm)
  refine f_107e hQ (by rw [hD1.2.1, hD1.2.2 1 0 (by unfold pCh; omega)]) (by rw [hD1.2.2 1 0 (by unfold pCh; omega)]; exact hB.1) hD1.1.1.2.1 (fun o ho => (hD1.1.2 o ho).1) (fun o ho => ⟨(hD1.1.2 o ho).2.1, fun z => by omega⟩) (hW9.fr (fun A i a b => hD1.2.2 A i (by unfold pCh; omega))) (hWS.fr (fun A i a => hD1.2.2 A i (by unfold pCh; omega))) (by rw [e3, ec]; exact hP) (by rw [e3, ec]; exact hL2.1.2.2) (fun m47 hF48 r46D r46T => ?_)
  have r46I := dr_times hD1.1 hF48 r46D
  rw [e3, ec] at r46T
  have k1 : m47 (Q + 1) = m44 (Q + 1) := funext fun i => hF48 (Q + 1) i (by unfold pTm; omega)
  have k2 : m47 Q 2 = mem 1 0 := (hF48 Q 2 (by unfold pTm; omega)).trans hD1.2.1
  have k4 : m47 Q 1 = mem Q 1 := (hF48 Q 1 (by unfold pTm; omega)).trans (by rw [m44a Q 1 (by omega), upm_ne (by omega), upm_ne (by omega)])
  have k3 : m47 Q 3 = d := (hF48 Q 3 (by unfold pTm; omega)).trans e3
  rw [← k1] at hL2 r46T
  have tk := r46T
  have hF48n : Frm (pCh Q) mem m47 := hD1.2.2.tr (hF48.mono (fun A i q => by unfold pTm at q; unfold pCh; omega))
  refine Tx.aload_n hC te_106_31 rfl ?_
  refine Tx.iconst hC te_106_32 rfl ?_
  refine Tx.putI hC te_106_33 hQ.s0 rfl rfl rfl ?_
  have hF50 : Frm (pCh Q) mem (upm m47 Q 4 0) := Frm.up hF48n (by unfold pCh; omega)
  have hI51 : ChtOK (upm m47 Q 4 0) Q := ChtOK.fr2 r46I (fun A i q => upm_ne (by omega))
  have m49e : (upm m47 Q 4 0) Q 4 = 0 := upm_eq
  have m49n : ∀ B j, ¬ (B = Q ∧ j = 4) → (upm m47 Q 4 0) B j = m47 B j := fun B j q => upm_ne q
  generalize upm m47 Q 4 0 = m49 at hF50 hI51 m49e m49n ⊢
  refine Tx.aload_n hC te_106_36 rfl ?_
  refine Tx.iconst hC te_106_37 rfl ?_
  refine Tx.putI hC te_106_38 hQ.s0 rfl rfl rfl ?_
  have hF53 : Frm (pCh Q) mem (upm m49 Q 5 1) := Frm.up hF50 (by unfold pCh; omega)
  have hI54 : ChtOK (upm m49 Q 5 1) Q := ChtOK.fr2 hI51 (fun A i q => upm_ne (by omega))
  have m52e : (upm m49 Q 5 1) Q 5 = 1 := upm_eq
  have m52n : ∀ B j, ¬ (B = Q ∧ j = 5) → (upm m49 Q 5 1) B j = m49 B j := fun B j q => upm_ne q
  generalize upm m49 Q 5 1 = m52 at hF53 hI54 m52e m52n ⊢
  have g1 : m52 (Q + 1) = m47 (Q + 1) := funext fun i => by rw [m52n _ _ (by omega), m49n _ _ (by omega)]
  have g2 : m52 (Q + 2) = m47 (Q + 2) := funext fun i => by rw [m52n _ _ (by omega), m49n _ _ (by omega)]
  have g1q : m52 Q 1 = mem Q 1 := by rw [m52n Q 1 (by omega), m49n Q 1 (by omega)]; exact k4
  have gw : DwI mem m52 d Q 0 := DwI.ini ⟨by rw [m52n Q 2 (by omega), m49n Q 2 (by omega)]; exact k2, by rw [m52n Q 3 (by omega), m49n Q 3 (by omega)]; exact k3⟩ (by rw [g1]; exact hL2) (by rw [g1, g2]; exact tk) (by rw [m52n Q 4 (by omega), m49e]) m52e
  refine Tx.iconst hC te_106_41 rfl ?_
  refine Tx.istore hC te_106_42 rfl ?_
  exact l_44 _ 0 m52 (by omega) (hI54) (by first | exact gw | exact i44_2.nxt (by omega) (by omega) en w3 w4 w5) (by first | exact g1q | exact (en Q 1 (by omega) (by omega) (by omega)).trans i44_3) (Nat.lt_succ_self _) hF53
end
section
/-! the class between its calls: what holds, and what each part of it leaves -/
theorem ChtOK.fr3 {m m' : MM} {Q : Nat} (h : ChtOK m Q) (e : ∀ A i, (A = Q ∧ 0 < i ∧ i < 4) ∨ (Q < A ∧ A ≤ Q + 3) → m' A i = m A i) : ChtOK m' Q := by
  refine ⟨?_, fun o ho => ?_⟩
  · rw [e Q 1 (by omega), e Q 2 (by omega), e Q 3 (by omega)]; exact h.1
  · rw [e (Q + 1) o (by omega), e (Q + 2) o (by omega), e (Q + 3) o (by omega)]; exact h.2 o ho
theorem HsOK.fr {m m' : MM} (h : HsOK m) (e : ∀ A i, 129 ≤ A → A ≤ 133 → m' A i = m A i) : HsOK m' := by
  obtain ⟨h1, h2, h3, h4⟩ := h
  refine ⟨fun o ho => ?_, ?_, ?_, ?_⟩
  · rw [e 130 o (by omega) (by omega), e 131 o (by omega) (by omega)]; exact h1 o ho
  · rw [e 129 0 (by omega) (by omega)]; exact h2
  · rw [e 129 1 (by omega) (by omega)]; exact h3
  · rw [e 129 2 (by omega) (by omega)]; exact h4
theorem ChSh.ap {Q Q' : Nat} (h : ChSh Q) (h' : ChSh Q') : Q = Q' ∨ Q + 7 ≤ Q' ∨ Q' + 7 ≤ Q := by
  obtain ⟨⟨k, h1, h2⟩, -⟩ := h
  obtain ⟨⟨k', h1', h2'⟩, -⟩ := h'
  omega
def CJ (m : MM) : Prop := BodyOK m ∧ WbOK m 9 ∧ WbOK m 14 ∧ (0 ≤ m 19 0 ∧ m 19 0 ≤ 8) ∧ HsOK m ∧ (∀ o, o < 8 → (0 ≤ m 24 o ∧ m 24 o ≤ 2) ∧ 0 ≤ m 22 o ∧ m 22 o ≤ 11) ∧ (∀ Q, ChSh Q → ChtOK m Q) ∧ (0 ≤ m 0 10 ∧ m 0 10 ≤ 1) ∧ 0 ≤ m 0 11 ∧ m 0 11 ≤ 1
theorem CJ.b {m : MM} (h : CJ m) : BodyOK m := h.1
theorem CJ.w {m : MM} (h : CJ m) : WbOK m 9 := h.2.1
theorem CJ.w2 {m : MM} (h : CJ m) : WbOK m 14 := h.2.2.1
theorem CJ.r {m : MM} (h : CJ m) : 0 ≤ m 19 0 ∧ m 19 0 ≤ 8 := h.2.2.2.1
theorem CJ.hs {m : MM} (h : CJ m) : HsOK m := h.2.2.2.2.1
theorem CJ.us {m : MM} (h : CJ m) : ∀ o, o < 8 → (0 ≤ m 24 o ∧ m 24 o ≤ 2) ∧ 0 ≤ m 22 o ∧ m 22 o ≤ 11 := h.2.2.2.2.2.1
theorem CJ.ch {m : MM} (h : CJ m) : ∀ Q, ChSh Q → ChtOK m Q := h.2.2.2.2.2.2.1
theorem CJ.so {m : MM} (h : CJ m) : 0 ≤ m 0 10 ∧ m 0 10 ≤ 1 := h.2.2.2.2.2.2.2.1
theorem CJ.st {m : MM} (h : CJ m) : 0 ≤ m 0 11 ∧ m 0 11 ≤ 1 := h.2.2.2.2.2.2.2.2
def ClS (m : MM) : Prop := CJ m ∧ (m 0 11 = 0 → m 0 10 = 1 → WbX m ∧ CcX m) ∧ (m 0 11 = 0 → (m 0 10 = 1 ↔ SndX m))
def RfC (m : MM) : Prop := CJ m ∧ m 0 11 = 0 ∧ (m 0 10 = 1 → WbX m) ∧ (m 0 10 = 1 ↔ SndX m)
def RfD (m : MM) : Prop := RfC m ∧ (m 0 10 = 1 → CcX m)
def Rdy (m : MM) : Prop := CJ m ∧ (m 0 11 = 0 ∧ CcX m) ∧ m 0 10 = 1 ∧ WbX m ∧ SndX m
def RdC (m : MM) : Prop := CJ m ∧ (m 0 11 = 0 ∧ RchX m) ∧ m 0 10 = 1 ∧ WbX m ∧ SndX m
theorem Rdy.c {m : MM} (h : Rdy m) : RdC m := ⟨h.1, ⟨h.2.1.1, h.2.1.2.1⟩, h.2.2⟩
theorem RdC.y {m : MM} (h : RdC m) (g : ChtX m) : Rdy m := ⟨h.1, ⟨h.2.1.1, h.2.1.2, g⟩, h.2.2⟩
theorem RfD.cs {m : MM} (h : RfD m) : ClS m := ⟨h.1.1, fun _ q => ⟨h.1.2.2.1 q, h.2 q⟩, fun _ => h.1.2.2.2⟩
theorem RfD.rdy {m : MM} (h : RfD m) (q : m 0 10 = 1) : Rdy m := ⟨h.1.1, ⟨h.1.2.1, h.2 q⟩, q, h.1.2.2.1 q, h.1.2.2.2.mp q⟩
theorem Rdy.cs {m : MM} (h : Rdy m) : ClS m := ⟨h.1, fun _ _ => ⟨h.2.2.2.1, h.2.1.2⟩, fun _ => ⟨fun _ => h.2.2.2.2, fun _ => h.2.2.1⟩⟩
theorem NdC.up {m : MM} {q : Int} {x : Q4} (hB : BodyOK m) (hs : SndX m) (h : NdC m q x) : 0 ≤ x.2.2.1 ∧ (x.2.2.1 = 0 → x.1 < x.2.1) := by
  have h8 := hB.1
  rcases h with ⟨o, k, h1, h2, h3, h4⟩ | ⟨s, o, h1, h2, h3, h4, h5, h6⟩
  · subst h4
    have c := hs o k h1 h2
    have so := hB.src (o := o) (k := k) (by omega) h2
    unfold SrcC at c
    unfold srcOK at so
    show 0 ≤ m 3 (4 * o + 2 * k + 1) ∧ (m 3 (4 * o + 2 * k + 1) = 0 → m 3 (4 * o + 2 * k) < (o : Int))
    omega
  · rcases h6 with ⟨g1, g2, g3⟩ | ⟨g1, g2, g3⟩ | ⟨g1, g2, g3⟩
    · subst g3
      show 0 ≤ plcB m s - plcB m o ∧ (plcB m s - plcB m o = 0 → (s : Int) < (o : Int))
      omega
    · subst g3
      show 0 ≤ plcB m o - plcB m s ∧ (plcB m o - plcB m s = 0 → (o : Int) < (s : Int))
      omega
    · subst g3
      show 0 ≤ plcB m s - plcB m o ∧ (plcB m s - plcB m o = 0 → (s : Int) < (o : Int))
      omega
theorem Rdy.edv {m : MM} (h : Rdy m) : EdV (cwq m 9) (m 9 0).toNat (m 1 0).toNat := by
  intro j hj
  have w := h.2.2.2.1.1 j (by omega)
  have g : Rg (m 10 j) (m 11 j) (m 12 j) (m 13 j) := h.1.2.1.1 j (by have := h.1.2.1.2; omega)
  unfold Rg at g
  have u := NdC.up h.1.1 h.2.2.2.2 (h.2.2.2.1.2.1.2.1 j hj)
  refine ⟨⟨(m 10 j).toNat, (m 11 j).toNat, ?_, ?_, by omega, by omega⟩, u.1, u.2⟩
  · show m 10 j = _; omega
  · show m 11 j = _; omega
theorem Rdy.noup {m : MM} {d : Int} (h : Rdy m) (hd : 0 ≤ d) (q : upV (m 9 5) (m 9 6) ≤ d) : NoUp (EdQ (cwq m 9) (m 9 0).toNat d) := by
  have h8 := h.1.1.1
  obtain ⟨⟨t1, t2⟩, t3, t4⟩ := h.2.2.2.1.2.2.1
  exact (RtL.noup (by omega) h.edv h.2.2.2.1.2.2.2 hd).mpr ((upV_le t1 (by omega) hd).mp q)
theorem RdC.edv {m : MM} (h : RdC m) : EdV (cwq m 9) (m 9 0).toNat (m 1 0).toNat := by
  intro j hj
  have w := h.2.2.2.1.1 j (by omega)
  have g : Rg (m 10 j) (m 11 j) (m 12 j) (m 13 j) := h.1.2.1.1 j (by have := h.1.2.1.2; omega)
  unfold Rg at g
  have u := NdC.up h.1.1 h.2.2.2.2 (h.2.2.2.1.2.1.2.1 j hj)
  refine ⟨⟨(m 10 j).toNat, (m 11 j).toNat, ?_, ?_, by omega, by omega⟩, u.1, u.2⟩
  · show m 10 j = _; omega
  · show m 11 j = _; omega
theorem RdC.noup {m : MM} {d : Int} (h : RdC m) (hd : 0 ≤ d) (q : upV (m 9 5) (m 9 6) ≤ d) : NoUp (EdQ (cwq m 9) (m 9 0).toNat d) := by
  have h8 := h.1.1.1
  obtain ⟨⟨t1, t2⟩, t3, t4⟩ := h.2.2.2.1.2.2.1
  exact (RtL.noup (by omega) h.edv h.2.2.2.1.2.2.2 hd).mpr ((upV_le t1 (by omega) hd).mp q)
def pCl (A _i : Nat) : Prop := A < 143
def pNb (A _i : Nat) : Prop := A < 143 ∧ ¬ (0 < A ∧ A < 9)
def pHs (A _i : Nat) : Prop := 129 ≤ A ∧ A ≤ 133
def pW9c (A i : Nat) : Prop := A = 9 ∧ (i = 5 ∨ i = 6 ∨ i = 7)
def pW14c (A i : Nat) : Prop := A = 14 ∧ (i = 5 ∨ i = 6 ∨ i = 7)
def p11 (A i : Nat) : Prop := A = 0 ∧ i = 11
def p10 (A i : Nat) : Prop := A = 0 ∧ i = 10
def p191 (A i : Nat) : Prop := A = 19 ∧ i = 1
def p129 (A i : Nat) : Prop := A = 129 ∧ i = 0
def pQ0 (Q A i : Nat) : Prop := A = Q ∧ i = 0
def pQ1 (Q A i : Nat) : Prop := A = Q ∧ i = 1
def pBd (A i : Nat) : Prop := (0 < A ∧ A < 9) ∨ (A = 0 ∧ i = 11)
def p4f (A _i : Nat) : Prop := A = 4
theorem CJ.e_span {m m' : MM} (h : CJ m) (hF : Frm pRe m m') (hz : 0 ≤ m' 19 0 ∧ m' 19 0 ≤ 8) (hx : RchX m') : CJ m' := by
  exact ⟨h.b.fr (fun A i a b => hF A i (by unfold pRe; omega)), h.w.fr (fun A i a b => hF A i (by unfold pRe; omega)), h.w2.fr (fun A i a b => hF A i (by unfold pRe; omega)), hz, h.hs.fr (fun A i a b => hF A i (by unfold pRe; omega)), fun o ho => by rw [hF 24 o (by unfold pRe; omega), hF 22 o (by unfold pRe; omega)]; exact h.us o ho, fun Q' hQ' => (h.ch Q' hQ').fr3 (fun A i q => hF A i (by have := hQ'.rg; unfold pRe; omega)), by rw [hF 0 10 (by unfold pRe; omega)]; exact h.so, by rw [hF 0 11 (by unfold pRe; omega)]; exact h.st⟩
theorem RdC.e_span {m m' : MM} (h : RdC m) (hF : Frm pRe m m') (hz : 0 ≤ m' 19 0 ∧ m' 19 0 ≤ 8) (hx : RchX m') : RdC m' := by
  exact ⟨CJ.e_span h.1 hF hz hx, ⟨by rw [hF 0 11 (by unfold pRe; omega)]; exact h.2.1.1, hx⟩, by rw [hF 0 10 (by unfold pRe; omega)]; exact h.2.2.1, h.2.2.2.1.fr (fun A i q => hF A i (by unfold pRe; omega)), h.2.2.2.2.fr (fun A i a b => hF A i (by unfold pRe; omega))⟩
theorem Rdy.e_span {m m' : MM} (h : Rdy m) (hF : Frm pRe m m') (hz : 0 ≤ m' 19 0 ∧ m' 19 0 ≤ 8) (hx : RchX m') : Rdy m' := by
  exact ⟨CJ.e_span h.1 hF hz hx, ⟨by rw [hF 0 11 (by unfold pRe; omega)]; exact h.2.1.1, ⟨hx, h.2.1.2.2.fr (fun A i q => hF A i (by unfold pRe; omega))⟩⟩, by rw [hF 0 10 (by unfold pRe; omega)]; exact h.2.2.1, h.2.2.2.1.fr (fun A i q => hF A i (by unfold pRe; omega)), h.2.2.2.2.fr (fun A i a b => hF A i (by unfold pRe; omega))⟩
theorem RfC.e_span {m m' : MM} (h : RfC m) (hF : Frm pRe m m') (hz : 0 ≤ m' 19 0 ∧ m' 19 0 ≤ 8) (hx : RchX m') : RfC m' := by
  exact ⟨CJ.e_span h.1 hF hz hx, by rw [hF 0 11 (by unfold pRe; omega)]; exact h.2.1, fun z => by
    rw [hF 0 10 (by unfold pRe; omega)] at z
    exact (h.2.2.1 z).fr (fun A i q => hF A i (by unfold pRe; omega)), SX.fr h.2.2.2 (hF 0 10 (by unfold pRe; omega)) (fun A i a b => hF A i (by unfold pRe; omega))⟩
theorem CJ.e_seek {m m' : MM} (h : CJ m) (hF : Frm pHs m m') (hz : HsOK m') : CJ m' := by
  exact ⟨h.b.fr (fun A i a b => hF A i (by unfold pHs; omega)), h.w.fr (fun A i a b => hF A i (by unfold pHs; omega)), h.w2.fr (fun A i a b => hF A i (by unfold pHs; omega)), by rw [hF 19 0 (by unfold pHs; omega)]; exact h.r, hz, fun o ho => by rw [hF 24 o (by unfold pHs; omega), hF 22 o (by unfold pHs; omega)]; exact h.us o ho, fun Q' hQ' => (h.ch Q' hQ').fr3 (fun A i q => hF A i (by have := hQ'.rg; unfold pHs; omega)), by rw [hF 0 10 (by unfold pHs; omega)]; exact h.so, by rw [hF 0 11 (by unfold pHs; omega)]; exact h.st⟩
theorem Rdy.e_seek {m m' : MM} (h : Rdy m) (hF : Frm pHs m m') (hz : HsOK m') : Rdy m' := by
  exact ⟨CJ.e_seek h.1 hF hz, ⟨by rw [hF 0 11 (by unfold pHs; omega)]; exact h.2.1.1, h.2.1.2.fr (fun A i q => hF A i (by unfold pHs; omega))⟩, by rw [hF 0 10 (by unfold pHs; omega)]; exact h.2.2.1, h.2.2.2.1.fr (fun A i q => hF A i (by unfold pHs; omega)), h.2.2.2.2.fr (fun A i a b => hF A i (by unfold pHs; omega))⟩
theorem RfC.e_seek {m m' : MM} (h : RfC m) (hF : Frm pHs m m') (hz : HsOK m') : RfC m' := by
  exact ⟨CJ.e_seek h.1 hF hz, by rw [hF 0 11 (by unfold pHs; omega)]; exact h.2.1, fun z => by
    rw [hF 0 10 (by unfold pHs; omega)] at z
    exact (h.2.2.1 z).fr (fun A i q => hF A i (by unfold pHs; omega)), SX.fr h.2.2.2 (hF 0 10 (by unfold pHs; omega)) (fun A i a b => hF A i (by unfold pHs; omega))⟩
theorem CJ.e_hold {m m' : MM} (h : CJ m) (hF : Frm pT6 m m') (hu : ∀ o, o < 8 → 0 ≤ m' 24 o ∧ m' 24 o ≤ 2) (hz : ∀ o, m' 22 o = m 22 o ∨ (0 ≤ m' 22 o ∧ m' 22 o ≤ 11)) : CJ m' := by
  exact ⟨h.b.fr (fun A i a b => hF A i (by unfold pT6; omega)), h.w.fr (fun A i a b => hF A i (by unfold pT6; omega)), h.w2.fr (fun A i a b => hF A i (by unfold pT6; omega)), by rw [hF 19 0 (by unfold pT6; omega)]; exact h.r, h.hs.fr (fun A i a b => hF A i (by unfold pT6; omega)), fun o ho => ⟨hu o ho, by have := hz o; have := (h.us o ho).2; omega⟩, fun Q' hQ' => (h.ch Q' hQ').fr3 (fun A i q => hF A i (by have := hQ'.rg; unfold pT6; omega)), by rw [hF 0 10 (by unfold pT6; omega)]; exact h.so, by rw [hF 0 11 (by unfold pT6; omega)]; exact h.st⟩
theorem RdC.e_hold {m m' : MM} (h : RdC m) (hF : Frm pT6 m m') (hu : ∀ o, o < 8 → 0 ≤ m' 24 o ∧ m' 24 o ≤ 2) (hz : ∀ o, m' 22 o = m 22 o ∨ (0 ≤ m' 22 o ∧ m' 22 o ≤ 11)) : RdC m' := by
  exact ⟨CJ.e_hold h.1 hF hu hz, ⟨by rw [hF 0 11 (by unfold pT6; omega)]; exact h.2.1.1, h.2.1.2.fr (fun A i q => hF A i (by unfold pT6; omega))⟩, by rw [hF 0 10 (by unfold pT6; omega)]; exact h.2.2.1, h.2.2.2.1.fr (fun A i q => hF A i (by unfold pT6; omega)), h.2.2.2.2.fr (fun A i a b => hF A i (by unfold pT6; omega))⟩
theorem Rdy.e_hold {m m' : MM} (h : Rdy m) (hF : Frm pT6 m m') (hu : ∀ o, o < 8 → 0 ≤ m' 24 o ∧ m' 24 o ≤ 2) (hz : ∀ o, m' 22 o = m 22 o ∨ (0 ≤ m' 22 o ∧ m' 22 o ≤ 11)) : Rdy m' := by
  exact ⟨CJ.e_hold h.1 hF hu hz, ⟨by rw [hF 0 11 (by unfold pT6; omega)]; exact h.2.1.1, h.2.1.2.fr (fun A i q => hF A i (by unfold pT6; omega))⟩, by rw [hF 0 10 (by unfold pT6; omega)]; exact h.2.2.1, h.2.2.2.1.fr (fun A i q => hF A i (by unfold pT6; omega)), h.2.2.2.2.fr (fun A i a b => hF A i (by unfold pT6; omega))⟩
theorem RfC.e_hold {m m' : MM} (h : RfC m) (hF : Frm pT6 m m') (hu : ∀ o, o < 8 → 0 ≤ m' 24 o ∧ m' 24 o ≤ 2) (hz : ∀ o, m' 22 o = m 22 o ∨ (0 ≤ m' 22 o ∧ m' 22 o ≤ 11)) : RfC m' := by
  exact ⟨CJ.e_hold h.1 hF hu hz, by rw [hF 0 11 (by unfold pT6; omega)]; exact h.2.1, fun z => by
    rw [hF 0 10 (by unfold pT6; omega)] at z
    exact (h.2.2.1 z).fr (fun A i q => hF A i (by unfold pT6; omega)), SX.fr h.2.2.2 (hF 0 10 (by unfold pT6; omega)) (fun A i a b => hF A i (by unfold pT6; omega))⟩
theorem CJ.e_find {m m' : MM} (h : CJ m) (hF : Frm pSk m m') (hz : ∀ o, m' 22 o = m 22 o ∨ (0 ≤ m' 22 o ∧ m' 22 o ≤ 11)) : CJ m' := by
  exact ⟨h.b.fr (fun A i a b => hF A i (by unfold pSk; omega)), h.w.fr (fun A i a b => hF A i (by unfold pSk; omega)), h.w2.fr (fun A i a b => hF A i (by unfold pSk; omega)), by rw [hF 19 0 (by unfold pSk; omega)]; exact h.r, h.hs.fr (fun A i a b => hF A i (by unfold pSk; omega)), fun o ho => ⟨by rw [hF 24 o (by unfold pSk; omega)]; exact (h.us o ho).1, by have := hz o; have := (h.us o ho).2; omega⟩, fun Q' hQ' => (h.ch Q' hQ').fr3 (fun A i q => hF A i (by have := hQ'.rg; unfold pSk; omega)), by rw [hF 0 10 (by unfold pSk; omega)]; exact h.so, by rw [hF 0 11 (by unfold pSk; omega)]; exact h.st⟩
theorem RdC.e_find {m m' : MM} (h : RdC m) (hF : Frm pSk m m') (hz : ∀ o, m' 22 o = m 22 o ∨ (0 ≤ m' 22 o ∧ m' 22 o ≤ 11)) : RdC m' := by
  exact ⟨CJ.e_find h.1 hF hz, ⟨by rw [hF 0 11 (by unfold pSk; omega)]; exact h.2.1.1, h.2.1.2.fr (fun A i q => hF A i (by unfold pSk; omega))⟩, by rw [hF 0 10 (by unfold pSk; omega)]; exact h.2.2.1, h.2.2.2.1.fr (fun A i q => hF A i (by unfold pSk; omega)), h.2.2.2.2.fr (fun A i a b => hF A i (by unfold pSk; omega))⟩
theorem Rdy.e_find {m m' : MM} (h : Rdy m) (hF : Frm pSk m m') (hz : ∀ o, m' 22 o = m 22 o ∨ (0 ≤ m' 22 o ∧ m' 22 o ≤ 11)) : Rdy m' := by
  exact ⟨CJ.e_find h.1 hF hz, ⟨by rw [hF 0 11 (by unfold pSk; omega)]; exact h.2.1.1, h.2.1.2.fr (fun A i q => hF A i (by unfold pSk; omega))⟩, by rw [hF 0 10 (by unfold pSk; omega)]; exact h.2.2.1, h.2.2.2.1.fr (fun A i q => hF A i (by unfold pSk; omega)), h.2.2.2.2.fr (fun A i a b => hF A i (by unfold pSk; omega))⟩
theorem RfC.e_find {m m' : MM} (h : RfC m) (hF : Frm pSk m m') (hz : ∀ o, m' 22 o = m 22 o ∨ (0 ≤ m' 22 o ∧ m' 22 o ≤ 11)) : RfC m' := by
  exact ⟨CJ.e_find h.1 hF hz, by rw [hF 0 11 (by unfold pSk; omega)]; exact h.2.1, fun z => by
    rw [hF 0 10 (by unfold pSk; omega)] at z
    exact (h.2.2.1 z).fr (fun A i q => hF A i (by unfold pSk; omega)), SX.fr h.2.2.2 (hF 0 10 (by unfold pSk; omega)) (fun A i a b => hF A i (by unfold pSk; omega))⟩
theorem CJ.e_draw {Q : Nat} (hQ : ChSh Q) {m m' : MM} (h : CJ m) (hF : Frm (pCh Q) m m') (hz : ChtOK m' Q) : CJ m' := by
  have hq := hQ.rg
  exact ⟨h.b.fr (fun A i a b => hF A i (by unfold pCh; omega)), h.w.fr (fun A i a b => hF A i (by unfold pCh; omega)), h.w2.fr (fun A i a b => hF A i (by unfold pCh; omega)), by rw [hF 19 0 (by unfold pCh; omega)]; exact h.r, h.hs.fr (fun A i a b => hF A i (by unfold pCh; omega)), fun o ho => by rw [hF 24 o (by unfold pCh; omega), hF 22 o (by unfold pCh; omega)]; exact h.us o ho, fun Q' hQ' => by
    have := hQ'.rg
    rcases ChSh.ap hQ hQ' with e | e
    · subst e; exact hz
    · exact (h.ch Q' hQ').fr3 (fun A i q => hF A i (by unfold pCh; omega)), by rw [hF 0 10 (by unfold pCh; omega)]; exact h.so, by rw [hF 0 11 (by unfold pCh; omega)]; exact h.st⟩
theorem RdC.e_draw {Q : Nat} (hQ : ChSh Q) {m m' : MM} (h : RdC m) (hF : Frm (pCh Q) m m') (hz : ChtOK m' Q) : RdC m' := by
  have hq := hQ.rg
  exact ⟨CJ.e_draw hQ h.1 hF hz, ⟨by rw [hF 0 11 (by unfold pCh; omega)]; exact h.2.1.1, h.2.1.2.fr (fun A i q => hF A i (by unfold pCh; omega))⟩, by rw [hF 0 10 (by unfold pCh; omega)]; exact h.2.2.1, h.2.2.2.1.fr (fun A i q => hF A i (by unfold pCh; omega)), h.2.2.2.2.fr (fun A i a b => hF A i (by unfold pCh; omega))⟩
theorem RfC.e_draw {Q : Nat} (hQ : ChSh Q) {m m' : MM} (h : RfC m) (hF : Frm (pCh Q) m m') (hz : ChtOK m' Q) : RfC m' := by
  have hq := hQ.rg
  exact ⟨CJ.e_draw hQ h.1 hF hz, by rw [hF 0 11 (by unfold pCh; omega)]; exact h.2.1, fun z => by
    rw [hF 0 10 (by unfold pCh; omega)] at z
    exact (h.2.2.1 z).fr (fun A i q => hF A i (by unfold pCh; omega)), SX.fr h.2.2.2 (hF 0 10 (by unfold pCh; omega)) (fun A i a b => hF A i (by unfold pCh; omega))⟩
theorem CJ.e_fit {Q : Nat} (hQ : ChSh Q) {m m' : MM} (h : CJ m) (hF : Frm (pQ1 Q) m m') (hz : ChtOK m' Q) : CJ m' := by
  have hq := hQ.rg
  exact ⟨h.b.fr (fun A i a b => hF A i (by unfold pQ1; omega)), h.w.fr (fun A i a b => hF A i (by unfold pQ1; omega)), h.w2.fr (fun A i a b => hF A i (by unfold pQ1; omega)), by rw [hF 19 0 (by unfold pQ1; omega)]; exact h.r, h.hs.fr (fun A i a b => hF A i (by unfold pQ1; omega)), fun o ho => by rw [hF 24 o (by unfold pQ1; omega), hF 22 o (by unfold pQ1; omega)]; exact h.us o ho, fun Q' hQ' => by
    have := hQ'.rg
    rcases ChSh.ap hQ hQ' with e | e
    · subst e; exact hz
    · exact (h.ch Q' hQ').fr3 (fun A i q => hF A i (by unfold pQ1; omega)), by rw [hF 0 10 (by unfold pQ1; omega)]; exact h.so, by rw [hF 0 11 (by unfold pQ1; omega)]; exact h.st⟩
theorem RdC.e_fit {Q : Nat} (hQ : ChSh Q) {m m' : MM} (h : RdC m) (hF : Frm (pQ1 Q) m m') (hz : ChtOK m' Q) : RdC m' := by
  have hq := hQ.rg
  exact ⟨CJ.e_fit hQ h.1 hF hz, ⟨by rw [hF 0 11 (by unfold pQ1; omega)]; exact h.2.1.1, h.2.1.2.fr (fun A i q => hF A i (by unfold pQ1; omega))⟩, by rw [hF 0 10 (by unfold pQ1; omega)]; exact h.2.2.1, h.2.2.2.1.fr (fun A i q => hF A i (by unfold pQ1; omega)), h.2.2.2.2.fr (fun A i a b => hF A i (by unfold pQ1; omega))⟩
theorem RfC.e_fit {Q : Nat} (hQ : ChSh Q) {m m' : MM} (h : RfC m) (hF : Frm (pQ1 Q) m m') (hz : ChtOK m' Q) : RfC m' := by
  have hq := hQ.rg
  exact ⟨CJ.e_fit hQ h.1 hF hz, by rw [hF 0 11 (by unfold pQ1; omega)]; exact h.2.1, fun z => by
    rw [hF 0 10 (by unfold pQ1; omega)] at z
    exact (h.2.2.1 z).fr (fun A i q => hF A i (by unfold pQ1; omega)), SX.fr h.2.2.2 (hF 0 10 (by unfold pQ1; omega)) (fun A i a b => hF A i (by unfold pQ1; omega))⟩
theorem CJ.e_try {Q : Nat} (hQ : ChSh Q) {m m' : MM} (h : CJ m) (hF : Frm (pQ0 Q) m m') : CJ m' := by
  have hq := hQ.rg
  exact ⟨h.b.fr (fun A i a b => hF A i (by unfold pQ0; omega)), h.w.fr (fun A i a b => hF A i (by unfold pQ0; omega)), h.w2.fr (fun A i a b => hF A i (by unfold pQ0; omega)), by rw [hF 19 0 (by unfold pQ0; omega)]; exact h.r, h.hs.fr (fun A i a b => hF A i (by unfold pQ0; omega)), fun o ho => by rw [hF 24 o (by unfold pQ0; omega), hF 22 o (by unfold pQ0; omega)]; exact h.us o ho, fun Q' hQ' => by
    have := hQ'.rg
    rcases ChSh.ap hQ hQ' with e | e
    · subst e; exact (h.ch Q hQ).fr3 (fun A i q => hF A i (by unfold pQ0; omega))
    · exact (h.ch Q' hQ').fr3 (fun A i q => hF A i (by unfold pQ0; omega)), by rw [hF 0 10 (by unfold pQ0; omega)]; exact h.so, by rw [hF 0 11 (by unfold pQ0; omega)]; exact h.st⟩
theorem RdC.e_try {Q : Nat} (hQ : ChSh Q) {m m' : MM} (h : RdC m) (hF : Frm (pQ0 Q) m m') : RdC m' := by
  have hq := hQ.rg
  exact ⟨CJ.e_try hQ h.1 hF , ⟨by rw [hF 0 11 (by unfold pQ0; omega)]; exact h.2.1.1, h.2.1.2.fr (fun A i q => hF A i (by unfold pQ0; omega))⟩, by rw [hF 0 10 (by unfold pQ0; omega)]; exact h.2.2.1, h.2.2.2.1.fr (fun A i q => hF A i (by unfold pQ0; omega)), h.2.2.2.2.fr (fun A i a b => hF A i (by unfold pQ0; omega))⟩
theorem RfC.e_try {Q : Nat} (hQ : ChSh Q) {m m' : MM} (h : RfC m) (hF : Frm (pQ0 Q) m m') : RfC m' := by
  have hq := hQ.rg
  exact ⟨CJ.e_try hQ h.1 hF , by rw [hF 0 11 (by unfold pQ0; omega)]; exact h.2.1, fun z => by
    rw [hF 0 10 (by unfold pQ0; omega)] at z
    exact (h.2.2.1 z).fr (fun A i q => hF A i (by unfold pQ0; omega)), SX.fr h.2.2.2 (hF 0 10 (by unfold pQ0; omega)) (fun A i a b => hF A i (by unfold pQ0; omega))⟩
theorem CJ.e_play {m m' : MM} (h : CJ m) (hF : Frm pPl m m') : CJ m' := by
  exact ⟨h.b.fr (fun A i a b => hF A i (by unfold pPl; omega)), h.w.fr (fun A i a b => hF A i (by unfold pPl; omega)), h.w2.fr (fun A i a b => hF A i (by unfold pPl; omega)), by rw [hF 19 0 (by unfold pPl; omega)]; exact h.r, h.hs.fr (fun A i a b => hF A i (by unfold pPl; omega)), fun o ho => by rw [hF 24 o (by unfold pPl; omega), hF 22 o (by unfold pPl; omega)]; exact h.us o ho, fun Q' hQ' => (h.ch Q' hQ').fr3 (fun A i q => hF A i (by have := hQ'.rg; unfold pPl; omega)), by rw [hF 0 10 (by unfold pPl; omega)]; exact h.so, by rw [hF 0 11 (by unfold pPl; omega)]; exact h.st⟩
theorem Rdy.e_play {m m' : MM} (h : Rdy m) (hF : Frm pPl m m') : Rdy m' := by
  exact ⟨CJ.e_play h.1 hF , ⟨by rw [hF 0 11 (by unfold pPl; omega)]; exact h.2.1.1, h.2.1.2.fr (fun A i q => hF A i (by unfold pPl; omega))⟩, by rw [hF 0 10 (by unfold pPl; omega)]; exact h.2.2.1, h.2.2.2.1.fr (fun A i q => hF A i (by unfold pPl; omega)), h.2.2.2.2.fr (fun A i a b => hF A i (by unfold pPl; omega))⟩
theorem RfC.e_play {m m' : MM} (h : RfC m) (hF : Frm pPl m m') : RfC m' := by
  exact ⟨CJ.e_play h.1 hF , by rw [hF 0 11 (by unfold pPl; omega)]; exact h.2.1, fun z => by
    rw [hF 0 10 (by unfold pPl; omega)] at z
    exact (h.2.2.1 z).fr (fun A i q => hF A i (by unfold pPl; omega)), SX.fr h.2.2.2 (hF 0 10 (by unfold pPl; omega)) (fun A i a b => hF A i (by unfold pPl; omega))⟩
theorem CJ.e_whl {m m' : MM} (h : CJ m) (hF : Frm p140 m m') : CJ m' := by
  exact ⟨h.b.fr (fun A i a b => hF A i (by unfold p140; omega)), h.w.fr (fun A i a b => hF A i (by unfold p140; omega)), h.w2.fr (fun A i a b => hF A i (by unfold p140; omega)), by rw [hF 19 0 (by unfold p140; omega)]; exact h.r, h.hs.fr (fun A i a b => hF A i (by unfold p140; omega)), fun o ho => by rw [hF 24 o (by unfold p140; omega), hF 22 o (by unfold p140; omega)]; exact h.us o ho, fun Q' hQ' => (h.ch Q' hQ').fr3 (fun A i q => hF A i (by have := hQ'.rg; unfold p140; omega)), by rw [hF 0 10 (by unfold p140; omega)]; exact h.so, by rw [hF 0 11 (by unfold p140; omega)]; exact h.st⟩
theorem Rdy.e_whl {m m' : MM} (h : Rdy m) (hF : Frm p140 m m') : Rdy m' := by
  exact ⟨CJ.e_whl h.1 hF , ⟨by rw [hF 0 11 (by unfold p140; omega)]; exact h.2.1.1, h.2.1.2.fr (fun A i q => hF A i (by unfold p140; omega))⟩, by rw [hF 0 10 (by unfold p140; omega)]; exact h.2.2.1, h.2.2.2.1.fr (fun A i q => hF A i (by unfold p140; omega)), h.2.2.2.2.fr (fun A i a b => hF A i (by unfold p140; omega))⟩
theorem RfC.e_whl {m m' : MM} (h : RfC m) (hF : Frm p140 m m') : RfC m' := by
  exact ⟨CJ.e_whl h.1 hF , by rw [hF 0 11 (by unfold p140; omega)]; exact h.2.1, fun z => by
    rw [hF 0 10 (by unfold p140; omega)] at z
    exact (h.2.2.1 z).fr (fun A i q => hF A i (by unfold p140; omega)), SX.fr h.2.2.2 (hF 0 10 (by unfold p140; omega)) (fun A i a b => hF A i (by unfold p140; omega))⟩
theorem CJ.e_pat {m m' : MM} (h : CJ m) (hF : Frm pPa m m') : CJ m' := by
  exact ⟨h.b.fr (fun A i a b => hF A i (by unfold pPa; omega)), h.w.fr (fun A i a b => hF A i (by unfold pPa; omega)), h.w2.fr (fun A i a b => hF A i (by unfold pPa; omega)), by rw [hF 19 0 (by unfold pPa; omega)]; exact h.r, h.hs.fr (fun A i a b => hF A i (by unfold pPa; omega)), fun o ho => by rw [hF 24 o (by unfold pPa; omega), hF 22 o (by unfold pPa; omega)]; exact h.us o ho, fun Q' hQ' => (h.ch Q' hQ').fr3 (fun A i q => hF A i (by have := hQ'.rg; unfold pPa; omega)), by rw [hF 0 10 (by unfold pPa; omega)]; exact h.so, by rw [hF 0 11 (by unfold pPa; omega)]; exact h.st⟩
theorem Rdy.e_pat {m m' : MM} (h : Rdy m) (hF : Frm pPa m m') : Rdy m' := by
  exact ⟨CJ.e_pat h.1 hF , ⟨by rw [hF 0 11 (by unfold pPa; omega)]; exact h.2.1.1, h.2.1.2.fr (fun A i q => hF A i (by unfold pPa; omega))⟩, by rw [hF 0 10 (by unfold pPa; omega)]; exact h.2.2.1, h.2.2.2.1.fr (fun A i q => hF A i (by unfold pPa; omega)), h.2.2.2.2.fr (fun A i a b => hF A i (by unfold pPa; omega))⟩
theorem RfC.e_pat {m m' : MM} (h : RfC m) (hF : Frm pPa m m') : RfC m' := by
  exact ⟨CJ.e_pat h.1 hF , by rw [hF 0 11 (by unfold pPa; omega)]; exact h.2.1, fun z => by
    rw [hF 0 10 (by unfold pPa; omega)] at z
    exact (h.2.2.1 z).fr (fun A i q => hF A i (by unfold pPa; omega)), SX.fr h.2.2.2 (hF 0 10 (by unfold pPa; omega)) (fun A i a b => hF A i (by unfold pPa; omega))⟩
theorem CJ.e_sp1 {m m' : MM} (h : CJ m) (hF : Frm p14 m m') (hz : WbOK m' 14) : CJ m' := by
  exact ⟨h.b.fr (fun A i a b => hF A i (by unfold p14; omega)), h.w.fr (fun A i a b => hF A i (by unfold p14; omega)), hz, by rw [hF 19 0 (by unfold p14; omega)]; exact h.r, h.hs.fr (fun A i a b => hF A i (by unfold p14; omega)), fun o ho => by rw [hF 24 o (by unfold p14; omega), hF 22 o (by unfold p14; omega)]; exact h.us o ho, fun Q' hQ' => (h.ch Q' hQ').fr3 (fun A i q => hF A i (by have := hQ'.rg; unfold p14; omega)), by rw [hF 0 10 (by unfold p14; omega)]; exact h.so, by rw [hF 0 11 (by unfold p14; omega)]; exact h.st⟩
theorem Rdy.e_sp1 {m m' : MM} (h : Rdy m) (hF : Frm p14 m m') (hz : WbOK m' 14) : Rdy m' := by
  exact ⟨CJ.e_sp1 h.1 hF hz, ⟨by rw [hF 0 11 (by unfold p14; omega)]; exact h.2.1.1, h.2.1.2.fr (fun A i q => hF A i (by unfold p14; omega))⟩, by rw [hF 0 10 (by unfold p14; omega)]; exact h.2.2.1, h.2.2.2.1.fr (fun A i q => hF A i (by unfold p14; omega)), h.2.2.2.2.fr (fun A i a b => hF A i (by unfold p14; omega))⟩
theorem RfC.e_sp1 {m m' : MM} (h : RfC m) (hF : Frm p14 m m') (hz : WbOK m' 14) : RfC m' := by
  exact ⟨CJ.e_sp1 h.1 hF hz, by rw [hF 0 11 (by unfold p14; omega)]; exact h.2.1, fun z => by
    rw [hF 0 10 (by unfold p14; omega)] at z
    exact (h.2.2.1 z).fr (fun A i q => hF A i (by unfold p14; omega)), SX.fr h.2.2.2 (hF 0 10 (by unfold p14; omega)) (fun A i a b => hF A i (by unfold p14; omega))⟩
theorem CJ.e_sp2 {m m' : MM} (h : CJ m) (hF : Frm pW14c m m') : CJ m' := by
  exact ⟨h.b.fr (fun A i a b => hF A i (by unfold pW14c; omega)), h.w.fr (fun A i a b => hF A i (by unfold pW14c; omega)), ⟨fun j hj => by
    rw [hF _ _ (by unfold pW14c; omega), hF _ _ (by unfold pW14c; omega), hF _ _ (by unfold pW14c; omega), hF _ _ (by unfold pW14c; omega)]; exact h.w2.1 j hj, by rw [hF 14 0 (by unfold pW14c; omega)]; exact h.w2.2⟩, by rw [hF 19 0 (by unfold pW14c; omega)]; exact h.r, h.hs.fr (fun A i a b => hF A i (by unfold pW14c; omega)), fun o ho => by rw [hF 24 o (by unfold pW14c; omega), hF 22 o (by unfold pW14c; omega)]; exact h.us o ho, fun Q' hQ' => (h.ch Q' hQ').fr3 (fun A i q => hF A i (by have := hQ'.rg; unfold pW14c; omega)), by rw [hF 0 10 (by unfold pW14c; omega)]; exact h.so, by rw [hF 0 11 (by unfold pW14c; omega)]; exact h.st⟩
theorem Rdy.e_sp2 {m m' : MM} (h : Rdy m) (hF : Frm pW14c m m') : Rdy m' := by
  exact ⟨CJ.e_sp2 h.1 hF , ⟨by rw [hF 0 11 (by unfold pW14c; omega)]; exact h.2.1.1, h.2.1.2.fr (fun A i q => hF A i (by unfold pW14c; omega))⟩, by rw [hF 0 10 (by unfold pW14c; omega)]; exact h.2.2.1, h.2.2.2.1.fr (fun A i q => hF A i (by unfold pW14c; omega)), h.2.2.2.2.fr (fun A i a b => hF A i (by unfold pW14c; omega))⟩
theorem RfC.e_sp2 {m m' : MM} (h : RfC m) (hF : Frm pW14c m m') : RfC m' := by
  exact ⟨CJ.e_sp2 h.1 hF , by rw [hF 0 11 (by unfold pW14c; omega)]; exact h.2.1, fun z => by
    rw [hF 0 10 (by unfold pW14c; omega)] at z
    exact (h.2.2.1 z).fr (fun A i q => hF A i (by unfold pW14c; omega)), SX.fr h.2.2.2 (hF 0 10 (by unfold pW14c; omega)) (fun A i a b => hF A i (by unfold pW14c; omega))⟩
theorem CJ.e_wv {m m' : MM} (h : CJ m) (hF : Frm p9w m m') (hz : WbOK m' 9) : CJ m' := by
  exact ⟨h.b.fr (fun A i a b => hF A i (by unfold p9w; omega)), hz, h.w2.fr (fun A i a b => hF A i (by unfold p9w; omega)), by rw [hF 19 0 (by unfold p9w; omega)]; exact h.r, h.hs.fr (fun A i a b => hF A i (by unfold p9w; omega)), fun o ho => by rw [hF 24 o (by unfold p9w; omega), hF 22 o (by unfold p9w; omega)]; exact h.us o ho, fun Q' hQ' => (h.ch Q' hQ').fr3 (fun A i q => hF A i (by have := hQ'.rg; unfold p9w; omega)), by rw [hF 0 10 (by unfold p9w; omega)]; exact h.so, by rw [hF 0 11 (by unfold p9w; omega)]; exact h.st⟩
theorem CJ.e_wg {m m' : MM} (h : CJ m) (hF : Frm pW9c m m') : CJ m' := by
  exact ⟨h.b.fr (fun A i a b => hF A i (by unfold pW9c; omega)), ⟨fun j hj => by
    rw [hF _ _ (by unfold pW9c; omega), hF _ _ (by unfold pW9c; omega), hF _ _ (by unfold pW9c; omega), hF _ _ (by unfold pW9c; omega)]; exact h.w.1 j hj, by rw [hF 9 0 (by unfold pW9c; omega)]; exact h.w.2⟩, h.w2.fr (fun A i a b => hF A i (by unfold pW9c; omega)), by rw [hF 19 0 (by unfold pW9c; omega)]; exact h.r, h.hs.fr (fun A i a b => hF A i (by unfold pW9c; omega)), fun o ho => by rw [hF 24 o (by unfold pW9c; omega), hF 22 o (by unfold pW9c; omega)]; exact h.us o ho, fun Q' hQ' => (h.ch Q' hQ').fr3 (fun A i q => hF A i (by have := hQ'.rg; unfold pW9c; omega)), by rw [hF 0 10 (by unfold pW9c; omega)]; exact h.so, by rw [hF 0 11 (by unfold pW9c; omega)]; exact h.st⟩
theorem CJ.e_st {m m' : MM} (h : CJ m) (hF : Frm p11 m m') (hz : 0 ≤ m' 0 11 ∧ m' 0 11 ≤ 1) : CJ m' := by
  exact ⟨h.b.fr (fun A i a b => hF A i (by unfold p11; omega)), h.w.fr (fun A i a b => hF A i (by unfold p11; omega)), h.w2.fr (fun A i a b => hF A i (by unfold p11; omega)), by rw [hF 19 0 (by unfold p11; omega)]; exact h.r, h.hs.fr (fun A i a b => hF A i (by unfold p11; omega)), fun o ho => by rw [hF 24 o (by unfold p11; omega), hF 22 o (by unfold p11; omega)]; exact h.us o ho, fun Q' hQ' => (h.ch Q' hQ').fr3 (fun A i q => hF A i (by have := hQ'.rg; unfold p11; omega)), by rw [hF 0 10 (by unfold p11; omega)]; exact h.so, hz⟩
theorem CJ.e_so {m m' : MM} (h : CJ m) (hF : Frm p10 m m') (hz : 0 ≤ m' 0 10 ∧ m' 0 10 ≤ 1) : CJ m' := by
  exact ⟨h.b.fr (fun A i a b => hF A i (by unfold p10; omega)), h.w.fr (fun A i a b => hF A i (by unfold p10; omega)), h.w2.fr (fun A i a b => hF A i (by unfold p10; omega)), by rw [hF 19 0 (by unfold p10; omega)]; exact h.r, h.hs.fr (fun A i a b => hF A i (by unfold p10; omega)), fun o ho => by rw [hF 24 o (by unfold p10; omega), hF 22 o (by unfold p10; omega)]; exact h.us o ho, fun Q' hQ' => (h.ch Q' hQ').fr3 (fun A i q => hF A i (by have := hQ'.rg; unfold p10; omega)), hz, by rw [hF 0 11 (by unfold p10; omega)]; exact h.st⟩
theorem CJ.e_rs {m m' : MM} (h : CJ m) (hF : Frm p191 m m') : CJ m' := by
  exact ⟨h.b.fr (fun A i a b => hF A i (by unfold p191; omega)), h.w.fr (fun A i a b => hF A i (by unfold p191; omega)), h.w2.fr (fun A i a b => hF A i (by unfold p191; omega)), by rw [hF 19 0 (by unfold p191; omega)]; exact h.r, h.hs.fr (fun A i a b => hF A i (by unfold p191; omega)), fun o ho => by rw [hF 24 o (by unfold p191; omega), hF 22 o (by unfold p191; omega)]; exact h.us o ho, fun Q' hQ' => (h.ch Q' hQ').fr3 (fun A i q => hF A i (by have := hQ'.rg; unfold p191; omega)), by rw [hF 0 10 (by unfold p191; omega)]; exact h.so, by rw [hF 0 11 (by unfold p191; omega)]; exact h.st⟩
theorem RfC.e_rs {m m' : MM} (h : RfC m) (hF : Frm p191 m m') : RfC m' := by
  exact ⟨CJ.e_rs h.1 hF , by rw [hF 0 11 (by unfold p191; omega)]; exact h.2.1, fun z => by
    rw [hF 0 10 (by unfold p191; omega)] at z
    exact (h.2.2.1 z).fr (fun A i q => hF A i (by unfold p191; omega)), SX.fr h.2.2.2 (hF 0 10 (by unfold p191; omega)) (fun A i a b => hF A i (by unfold p191; omega))⟩
theorem CJ.e_h0 {m m' : MM} (h : CJ m) (hF : Frm p129 m m') (hz : 0 ≤ m' 129 0 ∧ m' 129 0 ≤ 12) : CJ m' := by
  exact ⟨h.b.fr (fun A i a b => hF A i (by unfold p129; omega)), h.w.fr (fun A i a b => hF A i (by unfold p129; omega)), h.w2.fr (fun A i a b => hF A i (by unfold p129; omega)), by rw [hF 19 0 (by unfold p129; omega)]; exact h.r, ⟨fun o ho => by rw [hF 130 o (by unfold p129; omega), hF 131 o (by unfold p129; omega)]; exact h.hs.1 o ho, hz, by rw [hF 129 1 (by unfold p129; omega)]; exact h.hs.2.2.1, by rw [hF 129 2 (by unfold p129; omega)]; exact h.hs.2.2.2⟩, fun o ho => by rw [hF 24 o (by unfold p129; omega), hF 22 o (by unfold p129; omega)]; exact h.us o ho, fun Q' hQ' => (h.ch Q' hQ').fr3 (fun A i q => hF A i (by have := hQ'.rg; unfold p129; omega)), by rw [hF 0 10 (by unfold p129; omega)]; exact h.so, by rw [hF 0 11 (by unfold p129; omega)]; exact h.st⟩
theorem Rdy.e_h0 {m m' : MM} (h : Rdy m) (hF : Frm p129 m m') (hz : 0 ≤ m' 129 0 ∧ m' 129 0 ≤ 12) : Rdy m' := by
  exact ⟨CJ.e_h0 h.1 hF hz, ⟨by rw [hF 0 11 (by unfold p129; omega)]; exact h.2.1.1, h.2.1.2.fr (fun A i q => hF A i (by unfold p129; omega))⟩, by rw [hF 0 10 (by unfold p129; omega)]; exact h.2.2.1, h.2.2.2.1.fr (fun A i q => hF A i (by unfold p129; omega)), h.2.2.2.2.fr (fun A i a b => hF A i (by unfold p129; omega))⟩
theorem RfC.e_h0 {m m' : MM} (h : RfC m) (hF : Frm p129 m m') (hz : 0 ≤ m' 129 0 ∧ m' 129 0 ≤ 12) : RfC m' := by
  exact ⟨CJ.e_h0 h.1 hF hz, by rw [hF 0 11 (by unfold p129; omega)]; exact h.2.1, fun z => by
    rw [hF 0 10 (by unfold p129; omega)] at z
    exact (h.2.2.1 z).fr (fun A i q => hF A i (by unfold p129; omega)), SX.fr h.2.2.2 (hF 0 10 (by unfold p129; omega)) (fun A i a b => hF A i (by unfold p129; omega))⟩
theorem CJ.e_bd {m m' : MM} (h : CJ m) (hF : Frm pBd m m') (hz : BodyOK m') (ht : 0 ≤ m' 0 11 ∧ m' 0 11 ≤ 1) : CJ m' := by
  exact ⟨hz, h.w.fr (fun A i a b => hF A i (by unfold pBd; omega)), h.w2.fr (fun A i a b => hF A i (by unfold pBd; omega)), by rw [hF 19 0 (by unfold pBd; omega)]; exact h.r, h.hs.fr (fun A i a b => hF A i (by unfold pBd; omega)), fun o ho => by rw [hF 24 o (by unfold pBd; omega), hF 22 o (by unfold pBd; omega)]; exact h.us o ho, fun Q' hQ' => (h.ch Q' hQ').fr3 (fun A i q => hF A i (by have := hQ'.rg; unfold pBd; omega)), by rw [hF 0 10 (by unfold pBd; omega)]; exact h.so, ht⟩
theorem up1F {P : Nat → Nat → Prop} {m : MM} {A i : Nat} {x : Int} (q : P A i) : Frm P m (upm m A i x) := Frm.up Frm.rf q
theorem ClS.bd {m m' : MM} (h : ClS m) (hF : Frm pBd m m') (hz : BodyOK m') (ht : m' 0 11 = 1) : ClS m' := ⟨CJ.e_bd h.1 hF hz (by omega), fun q => by omega, fun q => by omega⟩
theorem ClS.fi {m m' : MM} (h : ClS m) (hF : Frm p4f m m') : ClS m' := by
  have hB : BodyOK m' := by
    obtain ⟨h1, h2, h3, h4, h5, h6⟩ := h.1.b
    refine ⟨by rw [hF 1 0 (by unfold p4f; omega)]; exact h1, fun o ho => ?_, fun k hk => by rw [hF 5 k (by unfold p4f; omega)]; exact h3 k hk, fun k hk => by rw [hF 6 k (by unfold p4f; omega)]; exact h4 k hk, fun k hk => by rw [hF 7 k (by unfold p4f; omega)]; exact h5 k hk, fun k hk => by rw [hF 8 k (by unfold p4f; omega)]; exact h6 k hk⟩
    unfold BOp
    rw [hF 2 o (by unfold p4f; omega), hF 3 (4 * o) (by unfold p4f; omega), hF 3 (4 * o + 1) (by unfold p4f; omega), hF 3 (4 * o + 2) (by unfold p4f; omega), hF 3 (4 * o + 3) (by unfold p4f; omega)]
    exact h2 o ho
  refine ⟨CJ.e_bd h.1 (hF.mono (fun A i q => by unfold p4f at q; unfold pBd; omega)) hB (by rw [hF 0 11 (by unfold p4f; omega)]; exact h.1.st), fun a b => ?_, fun a => SX.fr (h.2.2 (by rw [hF 0 11 (by unfold p4f; omega)] at a; exact a)) (hF 0 10 (by unfold p4f; omega)) (fun A i a b => hF A i (by unfold p4f; omega))⟩
  rw [hF 0 11 (by unfold p4f; omega)] at a
  rw [hF 0 10 (by unfold p4f; omega)] at b
  exact ⟨(h.2.1 a b).1.fr (fun A i q => hF A i (by unfold p4f; omega)), (h.2.1 a b).2.fr (fun A i q => hF A i (by unfold p4f; omega))⟩
end
section
/-! laid by wip/hand/tg.py: rounds and ways of the class -/
theorem f_76e {S : Nat × (Nat → Int32)} {n : Nat} {mem : MM} {K : MM → Prop} {Z zn : Nat} (hZ : shA Z = some (.inl zn)) (hz : zn ≤ 100000) {x : Int} (H : ∀ m', Fr1 Z mem m' → (∀ i, i < zn → m' Z i = x) → K m') : CWV (Ex S (n + 1)) 76 [.inr Z, .inl x] mem K := by
  have key : ∀ (N : Nat) (i : Nat) (m : MM), i ≤ zn → zn - i < N → Fr1 Z mem m → (∀ j, j < i → m Z j = x) → Wx (Ex S n) S M_76 (fun r m => r = none ∧ K m) 5 [some (.inr Z), some (.inl x), some (.inl (i : Int)), some (.inl (zn : Int))] [] m := by
    intro N
    induction N with
    | zero => intros; omega
    | succ N ih =>
      intro i m hi hN hF hA
      refine w_76_5 (Ex.mono S n) hZ ⟨fun q => ⟨rfl, H m hF (fun j hj => hA j (by omega))⟩, fun q => ⟨⟨by omega, by omega⟩, by unfold InI; omega, ?_⟩⟩
      rw [Int.toNat_natCast]
      refine ih (i + 1) _ (by omega) (by omega) (hF.tr Fr1.up) (fun j hj => ?_)
      by_cases e : j = i
      · subst e; exact upm_eq
      · rw [upm_ne (fun z => e z.2)]; exact hA j (by omega)
  exact CW.of (k := 2) mt_76 rfl rfl (w_76_0 (Ex.mono S n) hZ ⟨by unfold InI; omega, key _ 0 mem (by omega) (Nat.lt_succ_self _) Fr1.rf (fun j hj => by omega)⟩)
theorem dmul12 {d x : Int} (hd : 0 ≤ d ∧ d ≤ 12) (hx : 0 ≤ x ∧ x ≤ 7) : 0 ≤ d * x ∧ d * x ≤ 84 := by
  have h1 := Int.mul_nonneg hd.1 hx.1
  have h2 := Int.mul_le_mul hd.2 hx.2 hx.1 (by omega)
  omega
theorem RchX.of {mem m' : MM} {d : Int} (hE : FwH (EdQ (cwq mem 9) (mem 9 0).toNat d) (mem 1 0).toNat) (hF : Frm pRe mem m') (z : m' 19 0 = mem 1 0) (y : m' 19 1 = d) (I : FwC (EdQ (cwq mem 9) (mem 9 0).toNat d) (mem 1 0).toNat 20 (-100000) m' (mem 1 0).toNat 0 0) : RchX m' := by
  have e : ∀ A i, (A = 9 ∧ i = 0) ∨ (10 ≤ A ∧ A ≤ 13) ∨ (A = 1 ∧ i = 0) → m' A i = mem A i := fun A i q => hF A i (by unfold pRe; omega)
  have ec : cwq m' 9 = cwq mem 9 := funext fun i => by
    unfold cwq
    rw [e (9 + 1) i (by omega), e (9 + 2) i (by omega), e (9 + 3) i (by omega), e (9 + 4) i (by omega)]
  refine Or.inr ⟨by rw [z, e 1 0 (by omega)], fun a b ha hb => ?_⟩
  rw [e 1 0 (by omega)] at ha hb
  rw [ec, e 9 0 (by omega), y]
  exact I.fin hE (by omega) (by omega) (by omega)
theorem f_33x {S : Nat × (Nat → Int32)} {n : Nat} {mem : MM} {K : Int → MM → Prop} {E : Nat → MM → Prop} {a b : Int} (ha : 0 ≤ a) (hb : 0 < b) (H : ∀ r, r = upV a b → K r mem) : CQI (Ex S (n + 2)) 33 [.inl a, .inl b] mem K E := by
  refine CY.of (k := 0) mt_33 rfl rfl (fun hv => ?_)
  have hC := Ex.mono S (n + 1)
  have ii_a : InI a := hv (.inl a) (by simp)
  unfold InI at ii_a
  have ii_b : InI b := hv (.inl b) (by simp)
  unfold InI at ii_b
  clear hv
  show Tx (Ex S (n + 1)) S M_33 (kI K E) 0 0 0 [some (.inl a), some (.inl b)] [] mem
  refine Tx.iload_n hC te_33_0 rfl ?_
  refine Tx.ifc hC (t := 8) te_33_1 (by decide) (fun q1 => ?_) (fun q1 => ?_)
  · replace q1 : 0 < (b : Int) := q1
    refine Tx.iload_n hC te_33_8 rfl ?_
    refine Tx.inegW hC te_33_9 (fun z2 z2i z2e => ?_)
    unfold InI at z2i z2e
    refine Tx.iload_n hC te_33_10 rfl ?_
    refine Tx.statI hC te_33_11 (by decide) mt_34 (args := [.inl z2, .inl b]) (rest := []) (c' := 0) (s' := 0) rfl rfl rfl rfl rfl rfl rfl ?_
    refine f_34 (by omega) (fun r3 r3a r3b r3i => ?_)
    unfold InI at r3i
    refine Tx.inegW hC te_33_14 (fun z6 z6i z6e => ?_)
    unfold InI at z6i z6e
    exact Tx.ireturn hC te_33_15 rfl (fun hr => show K z6 mem from H z6 (ru_fin0 (by omega) ha (z2e (by omega)) (by have := z2e (by omega); omega) r3a r3b (by omega) (by omega) z6e))
  · replace q1 : ¬ (0 < (b : Int)) := q1
    refine Tx.iconst hC te_33_4 rfl ?_
    refine Tx.goto hC (t := 15) te_33_5 (by decide) ?_
    exact Tx.ireturn hC te_33_15 rfl (fun hr => show K 0 mem from H 0 (by omega))
theorem f_32x {S : Nat × (Nat → Int32)} {n : Nat} {mem : MM} {K : Int → MM → Prop} {E : Nat → MM → Prop} {W : Nat} (hW : WebSh W) (hT : WtOK mem W) (H : ∀ r, r = upV (mem W 5) (mem W 6) → 0 ≤ r → r ≤ 80 → K r mem) : CQI (Ex S (n + 3)) 32 [.inr W] mem K E := by
  refine CY.of (k := 0) mt_32 rfl rfl (fun hv => ?_)
  have hC := Ex.mono S (n + 2)
  clear hv
  have hT1 := hT.1
  have hT2 := hT.2
  show Tx (Ex S (n + 2)) S M_32 (kI K E) 0 0 0 [some (.inr W)] [] mem
  refine Tx.aload_n hC te_32_0 rfl ?_
  refine Tx.getI hC te_32_1 hW.1 rfl rfl (fun v1 v1e v1i => ?_)
  unfold InI at v1i
  refine Tx.aload_n hC te_32_4 rfl ?_
  refine Tx.getI hC te_32_5 hW.1 rfl rfl (fun v2 v2e v2i => ?_)
  unfold InI at v2i
  refine Tx.statI hC te_32_8 (by decide) mt_33 (args := [.inl v1, .inl v2]) (rest := []) (c' := 0) (s' := 0) rfl rfl rfl rfl rfl rfl rfl ?_
  refine f_33x (by omega) (by omega) (fun r3 r3e r3i => ?_)
  have r3g := upV_rg (a := v1) (b := v2) (by omega) (by omega)
  have r3u : upV (mem W 5) (mem W 6) = r3 := by rw [r3e, v1e, v2e]
  unfold InI at r3i
  exact Tx.ireturn hC te_32_11 rfl (fun hr => show K r3 mem from H _ (by omega) (by omega) (by omega))
theorem f_77x {S : Nat × (Nat → Int32)} {n : Nat} {mem : MM} {K : MM → Prop} {E : Nat → MM → Prop} {E0 : Nat → Nat → Int → Prop} (hE : FwH E0 (mem 19 0).toNat) {f o : Int} (hf : 0 ≤ f ∧ f < mem 19 0) (ho : 0 ≤ o ∧ o < mem 19 0) (hI : FwC E0 (mem 19 0).toNat 20 (-100000) mem o.toNat f.toNat 0) (hne : ¬ WM mem 20 f.toNat o.toNat = -100000) (H : ∀ m', Frm p20 mem m' → FwC E0 (mem 19 0).toNat 20 (-100000) m' o.toNat (f.toNat + 1) 0 → K m') : CQV (Ex S (n + 2)) 77 [.inr 19, .inl f, .inl o] mem K E := by
  refine CY.of (k := 4) mt_77 rfl rfl (fun hv => ?_)
  have hC := Ex.mono S (n + 1)
  have ii_f : InI f := hv (.inl f) (by simp)
  unfold InI at ii_f
  have ii_o : InI o := hv (.inl o) (by simp)
  unfold InI at ii_o
  clear hv
  have h8 := hE.1
  obtain ⟨ha1, ha2⟩ := hI.ahd (by omega) (show f.toNat < (mem 19 0).toNat by omega)
  have hrg := hI.rg hE (a' := f.toNat) (b' := o.toNat) (by omega) (by omega)
  have hap := ha1.resolve_left hne
  show Tx (Ex S (n + 1)) S M_77 (kV K E) 0 0 0 [some (.inr 19), some (.inl f), some (.inl o), none, none, none, none] [] mem
  have l_15 : ∀ (N : Nat) (x3 x4 : Int) (m_15 : MM), (0 ≤ x4 ∧ x4 ≤ mem 19 0) → (FwC E0 (mem 19 0).toNat 20 (-100000) m_15 o.toNat f.toNat x4.toNat) → (x3 = WM mem 20 f.toNat o.toNat) → ((8 - x4).toNat) < N → Frm p20 mem m_15 → Tx (Ex S (n + 1)) S M_77 (kV K E) 0 0 15 [some (.inr 19), some (.inl f), some (.inl o), some (.inl x3), some (.inl x4), none, none] [] m_15 := by
    intro N
    induction N with
    | zero => intros; omega
    | succ N ih_15 =>
      intro x3 x4 m_15 i15_0 i15_1 i15_2 hN_15 hF_15
      refine Tx.iload hC te_77_15 rfl ?_
      refine Tx.aload_n hC te_77_17 rfl ?_
      refine Tx.getI hC te_77_18 rfl rfl rfl (fun v1 v1e v1i => ?_)
      unfold InI at v1i
      rw [hF_15 19 _ (by unfold p20; omega)] at v1e
      refine Tx.icmp hC (t := 81) te_77_21 (by decide) (fun q2 => ?_) (fun q2 => ?_)
      · replace q2 : v1 ≤ (x4 : Int) := q2
        exact Tx.vret hC te_77_81 rfl (show K m_15 from H _ hF_15 (by have w := i15_1; rw [show x4.toNat = (mem 19 0).toNat by omega] at w; exact w.nextA))
      · replace q2 : ¬ (v1 ≤ (x4 : Int)) := q2
        refine Tx.aload_n hC te_77_24 rfl ?_
        refine Tx.getR hC te_77_25 rfl rfl rfl ?_
        refine Tx.iload_n hC te_77_28 rfl ?_
        refine Tx.bipush hC te_77_29 rfl rfl ?_
        refine Tx.imulW hC te_77_31 (fun z3 z3i z3e => ?_)
        unfold InI at z3i z3e
        first | replace z3e := z3e (by omega) | clear z3e
        refine Tx.iload hC te_77_32 rfl ?_
        refine Tx.iaddW hC te_77_34 (fun z4 z4i z4e => ?_)
        unfold InI at z4i z4e
        first | replace z4e := z4e (by omega) | clear z4e
        refine Tx.iald hC te_77_35 rfl (by omega) (fun v5 v5e v5i => ?_)
        unfold InI at v5i
        have vb : v5 = WM m_15 20 o.toNat x4.toNat := by rw [v5e]; unfold WM; congr 1; omega
        have rb := i15_1.rg hE (a' := o.toNat) (b' := x4.toNat) (by omega) (by omega)
        have rc := i15_1.rg hE (a' := f.toNat) (b' := x4.toNat) (by omega) (by omega)
        refine Tx.istore hC te_77_36 rfl ?_
        refine Tx.iload hC te_77_38 rfl ?_
        refine Tx.ldc hC (z := (-100000)) te_77_40 rfl rfl rfl rfl ?_
        refine Tx.icmp hC (t := 75) te_77_42 (by decide) (fun q6 => ?_) (fun q6 => ?_)
        · replace q6 : (v5 : Int) = (-100000) := q6
          refine Tx.iincW hC te_77_75 rfl rfl (fun z7 z7i z7e => ?_)
          unfold InI at z7i z7e
          first | replace z7e := z7e (by omega) | clear z7e
          refine Tx.goto hC (t := 15) te_77_78 (by decide) ?_
          exact Tx.weak (by repeat' (first | exact trivial | exact rfl | constructor)) (ih_15 x3 z7 m_15 (by omega) (by rw [show (z7).toNat = x4.toNat + 1 by omega]; exact FwC.skip i15_1 hE (by omega) (by omega) (by omega) (by omega) ha1 ha2 (Or.inr (by omega))) (by omega) (by omega) hF_15)
        · replace q6 : ¬ ((v5 : Int) = (-100000)) := q6
          refine Tx.iload_n hC te_77_45 rfl ?_
          refine Tx.bipush hC te_77_46 rfl rfl ?_
          refine Tx.imulW hC te_77_48 (fun z8 z8i z8e => ?_)
          unfold InI at z8i z8e
          first | replace z8e := z8e (by omega) | clear z8e
          refine Tx.iload hC te_77_49 rfl ?_
          refine Tx.iaddW hC te_77_51 (fun z9 z9i z9e => ?_)
          unfold InI at z9i z9e
          first | replace z9e := z9e (by omega) | clear z9e
          refine Tx.istore hC te_77_52 rfl ?_
          refine Tx.aload_n hC te_77_54 rfl ?_
          refine Tx.getR hC te_77_55 rfl rfl rfl ?_
          refine Tx.iload hC te_77_58 rfl ?_
          refine Tx.aload_n hC te_77_60 rfl ?_
          refine Tx.getR hC te_77_61 rfl rfl rfl ?_
          refine Tx.iload hC te_77_64 rfl ?_
          refine Tx.iald hC te_77_66 rfl (by omega) (fun v10 v10e v10i => ?_)
          unfold InI at v10i
          have vc : v10 = WM m_15 20 f.toNat x4.toNat := by rw [v10e]; unfold WM; congr 1; omega
          refine Tx.iload_n hC te_77_67 rfl ?_
          refine Tx.iload hC te_77_68 rfl ?_
          refine Tx.iaddW hC te_77_70 (fun z11 z11i z11e => ?_)
          unfold InI at z11i z11e
          first | replace z11e := z11e (by omega) | clear z11e
          refine Tx.statI hC te_77_71 (by decide) mt_40 (args := [.inl v10, .inl z11]) (rest := [.inl z9, .inr 20]) (c' := 0) (s' := 0) rfl rfl rfl rfl rfl rfl rfl ?_
          refine f_40q (fun r12 r12a r12b r12c r12i => ?_)
          unfold InI at r12i
          refine Tx.iast hC te_77_74 rfl (by omega) ?_
          have hF16 : Frm p20 mem (upm m_15 20 (Int.toNat z9) r12) := Frm.up hF_15 (by unfold p20; omega)
          have hI17 : FwC E0 (mem 19 0).toNat 20 (-100000) (upm m_15 20 (Int.toNat z9) r12) o.toNat f.toNat (x4.toNat + 1) := FwC.upd i15_1 hE (by omega) (by omega) (by omega) (by omega) hap ha2 (by omega) (by omega) (by omega) (by omega)
          generalize upm m_15 20 (Int.toNat z9) r12 = m15 at hF16 hI17 ⊢
          refine Tx.iincW hC te_77_75 rfl rfl (fun z18 z18i z18e => ?_)
          unfold InI at z18i z18e
          first | replace z18e := z18e (by omega) | clear z18e
          refine Tx.goto hC (t := 15) te_77_78 (by decide) ?_
          exact Tx.weak (by repeat' (first | exact trivial | exact rfl | constructor)) (ih_15 x3 z18 m15 (by omega) (by rw [show (z18).toNat = x4.toNat + 1 by omega]; exact hI17) (by omega) (by omega) hF16)
  refine Tx.aload_n hC te_77_0 rfl ?_
  refine Tx.getR hC te_77_1 rfl rfl rfl ?_
  refine Tx.iload_n hC te_77_4 rfl ?_
  refine Tx.bipush hC te_77_5 rfl rfl ?_
  refine Tx.imulW hC te_77_7 (fun z19 z19i z19e => ?_)
  unfold InI at z19i z19e
  first | replace z19e := z19e (by omega) | clear z19e
  refine Tx.iload_n hC te_77_8 rfl ?_
  refine Tx.iaddW hC te_77_9 (fun z20 z20i z20e => ?_)
  unfold InI at z20i z20e
  first | replace z20e := z20e (by omega) | clear z20e
  refine Tx.iald hC te_77_10 rfl (by omega) (fun v21 v21e v21i => ?_)
  unfold InI at v21i
  have va : v21 = WM mem 20 f.toNat o.toNat := by rw [v21e]; unfold WM; congr 1; omega
  refine Tx.istore_n hC te_77_11 rfl ?_
  refine Tx.iconst hC te_77_12 rfl ?_
  refine Tx.istore hC te_77_13 rfl ?_
  exact l_15 _ v21 0 mem (by omega) (hI) (by omega) (Nat.lt_succ_self _) Frm.rf
theorem f_75x {S : Nat × (Nat → Int32)} {n : Nat} {mem : MM} {K : MM → Prop} {E : Nat → MM → Prop} (hB : BodyOK mem) (hW9 : WbOK mem 9) (hS : WbS mem) {d : Int} (hV : EdV (cwq mem 9) (mem 9 0).toNat (mem 1 0).toNat) (hN : NoUp (EdQ (cwq mem 9) (mem 9 0).toNat d)) (hX : RchX mem) (hd : 1 ≤ d ∧ d ≤ 12) (H : ∀ m', Frm pRe mem m' → RchX m' → m' 19 0 = mem 1 0 → m' 19 1 = d → K m') : CQV (Ex S (n + 3)) 75 [.inr 19, .inr 1, .inr 9, .inl d] mem K E := by
  refine CY.of (k := 2) mt_75 rfl rfl (fun hv => ?_)
  have hC := Ex.mono S (n + 2)
  have ii_d : InI d := hv (.inl d) (by simp)
  unfold InI at ii_d
  clear hv
  have h8 := hB.1
  have hw := hW9.2
  have hE := EdQ.fwh (by omega) (by omega) hV (fun j hj => by
    have g : Rg (mem 10 j) (mem 11 j) (mem 12 j) (mem 13 j) := hW9.1 j (by omega)
    unfold Rg at g
    exact ⟨g.2.2.1.2, g.2.2.2.1, g.2.2.2.2⟩) hN
  show Tx (Ex S (n + 2)) S M_75 (kV K E) 0 0 0 [some (.inr 19), some (.inr 1), some (.inr 9), some (.inl d), none, none] [] mem
  have l_106 : ∀ (N : Nat) (x4 : Int) (m_106 : MM), (0 ≤ x4 ∧ x4 ≤ mem 1 0) → (m_106 19 0 = mem 1 0) → (m_106 19 1 = d) → (FwC (EdQ (cwq mem 9) (mem 9 0).toNat d) (mem 1 0).toNat 20 (-100000) m_106 x4.toNat 0 0) → ((8 - x4).toNat) < N → Frm pRe mem m_106 → Tx (Ex S (n + 2)) S M_75 (kV K E) 0 0 106 [some (.inr 19), some (.inr 1), some (.inr 9), some (.inl d), some (.inl x4), none] [] m_106 := by
    intro N
    induction N with
    | zero => intros; omega
    | succ N ih_106 =>
      intro x4 m_106 i106_0 i106_1 i106_2 i106_3 hN_106 hF_106
      have l_118 : ∀ (N : Nat) (x5 : Int) (m_118 : MM), (0 ≤ x5 ∧ x5 ≤ mem 1 0) → (m_118 19 0 = mem 1 0) → (m_118 19 1 = d) → (0 ≤ x4 ∧ x4 < mem 1 0) → (FwC (EdQ (cwq mem 9) (mem 9 0).toNat d) (mem 1 0).toNat 20 (-100000) m_118 x4.toNat x5.toNat 0) → ((8 - x5).toNat) < N → Frm pRe mem m_118 → Tx (Ex S (n + 2)) S M_75 (kV K E) 0 0 118 [some (.inr 19), some (.inr 1), some (.inr 9), some (.inl d), some (.inl x4), some (.inl x5)] [] m_118 := by
        intro N
        induction N with
        | zero => intros; omega
        | succ N ih_118 =>
          intro x5 m_118 i118_0 i118_1 i118_2 i118_3 i118_4 hN_118 hF_118
          refine Tx.iload hC te_75_118 rfl ?_
          refine Tx.aload_n hC te_75_120 rfl ?_
          refine Tx.getI hC te_75_121 rfl rfl rfl (fun v1 v1e v1i => ?_)
          unfold InI at v1i
          have f2 := i118_1
          refine Tx.icmp hC (t := 159) te_75_124 (by decide) (fun q3 => ?_) (fun q3 => ?_)
          · replace q3 : v1 ≤ (x5 : Int) := q3
            refine Tx.iincW hC te_75_159 rfl rfl (fun z4 z4i z4e => ?_)
            unfold InI at z4i z4e
            first | replace z4e := z4e (by omega) | clear z4e
            refine Tx.goto hC (t := 106) te_75_162 (by decide) ?_
            exact Tx.weak (by repeat' (first | exact trivial | exact rfl | constructor)) (ih_106 z4 m_118 (by omega) (i118_1) (i118_2) (by have w := i118_4; rw [show x5.toNat = (mem 1 0).toNat by omega] at w; rw [show (z4).toNat = x4.toNat + 1 by omega]; exact w.nextM) (by omega) hF_118)
          · replace q3 : ¬ (v1 ≤ (x5 : Int)) := q3
            refine Tx.aload_n hC te_75_127 rfl ?_
            refine Tx.getR hC te_75_128 rfl rfl rfl ?_
            refine Tx.iload hC te_75_131 rfl ?_
            refine Tx.bipush hC te_75_133 rfl rfl ?_
            refine Tx.imulW hC te_75_135 (fun z5 z5i z5e => ?_)
            unfold InI at z5i z5e
            first | replace z5e := z5e (by omega) | clear z5e
            refine Tx.iload hC te_75_136 rfl ?_
            refine Tx.iaddW hC te_75_138 (fun z6 z6i z6e => ?_)
            unfold InI at z6i z6e
            first | replace z6e := z6e (by omega) | clear z6e
            refine Tx.iald hC te_75_139 rfl (by omega) (fun v7 v7e v7i => ?_)
            unfold InI at v7i
            have vr : v7 = WM m_118 20 x5.toNat x4.toNat := by rw [v7e]; unfold WM; congr 1; omega
            refine Tx.ldc hC (z := (-100000)) te_75_140 rfl rfl rfl rfl ?_
            refine Tx.icmp hC (t := 153) te_75_142 (by decide) (fun q8 => ?_) (fun q8 => ?_)
            · replace q8 : (v7 : Int) = (-100000) := q8
              refine Tx.iincW hC te_75_153 rfl rfl (fun z9 z9i z9e => ?_)
              unfold InI at z9i z9e
              first | replace z9e := z9e (by omega) | clear z9e
              refine Tx.goto hC (t := 118) te_75_156 (by decide) ?_
              exact ih_118 z9 m_118 (by omega) (i118_1) (i118_2) (by omega) (by rw [show (z9).toNat = x5.toNat + 1 by omega]; exact FwC.row i118_4 hE (by omega) (by omega) (by omega) (by omega)) (by omega) hF_118
            · replace q8 : ¬ ((v7 : Int) = (-100000)) := q8
              refine Tx.aload_n hC te_75_145 rfl ?_
              refine Tx.iload hC te_75_146 rfl ?_
              refine Tx.iload hC te_75_148 rfl ?_
              refine Tx.virtV hC te_75_150 mt_77 (args := [.inr 19, .inl x5, .inl x4]) (rest := []) (c' := 0) (s' := 0) rfl rfl rfl rfl rfl rfl rfl rfl rfl rfl ?_
              refine f_77x (E0 := (EdQ (cwq mem 9) (mem 9 0).toNat d)) (by rw [i118_1]; exact hE) (by omega) (by omega) (by rw [i118_1]; exact i118_4) (by omega) (fun m11 hF12 r10c => ?_)
              rw [i118_1] at r10c
              have m11Z : m11 19 0 = mem 1 0 := by rw [hF12 19 0 (by unfold p20; omega)]; exact i118_1
              have m11Y : m11 19 1 = d := by rw [hF12 19 1 (by unfold p20; omega)]; exact i118_2
              have hF12n : Frm pRe mem m11 := hF_118.tr (hF12.mono (fun A i q => by unfold p20 at q; unfold pRe; omega))
              refine Tx.iincW hC te_75_153 rfl rfl (fun z13 z13i z13e => ?_)
              unfold InI at z13i z13e
              first | replace z13e := z13e (by omega) | clear z13e
              refine Tx.goto hC (t := 118) te_75_156 (by decide) ?_
              exact ih_118 z13 m11 (by omega) (m11Z) (m11Y) (by omega) (by rw [show (z13).toNat = x5.toNat + 1 by omega]; exact r10c) (by omega) hF12n
      refine Tx.iload hC te_75_106 rfl ?_
      refine Tx.aload_n hC te_75_108 rfl ?_
      refine Tx.getI hC te_75_109 rfl rfl rfl (fun v14 v14e v14i => ?_)
      unfold InI at v14i
      have f15 := i106_1
      refine Tx.icmp hC (t := 165) te_75_112 (by decide) (fun q16 => ?_) (fun q16 => ?_)
      · replace q16 : v14 ≤ (x4 : Int) := q16
        exact Tx.vret hC te_75_165 rfl (show K m_106 from H _ hF_106 (RchX.of hE hF_106 i106_1 i106_2 (by have w := i106_3; rw [show x4.toNat = (mem 1 0).toNat by omega] at w; exact w)) i106_1 i106_2)
      · replace q16 : ¬ (v14 ≤ (x4 : Int)) := q16
        refine Tx.iconst hC te_75_115 rfl ?_
        refine Tx.istore hC te_75_116 rfl ?_
        exact l_118 _ 0 m_106 (by omega) (i106_1) (i106_2) (by omega) (i106_3) (Nat.lt_succ_self _) hF_106
  have l_34 : ∀ (N : Nat) (x4 : Int) (m_34 : MM), (0 ≤ x4 ∧ x4 ≤ mem 9 0) → (m_34 19 0 = mem 1 0) → (m_34 19 1 = d) → (FwE (cwq mem 9) d (mem 1 0).toNat 20 (-100000) m_34 x4.toNat) → ((64 - x4).toNat) < N → Frm pRe mem m_34 → Tx (Ex S (n + 2)) S M_75 (kV K E) 0 0 34 [some (.inr 19), some (.inr 1), some (.inr 9), some (.inl d), some (.inl x4), none] [] m_34 := by
    intro N
    induction N with
    | zero => intros; omega
    | succ N ih_34 =>
      intro x4 m_34 i34_0 i34_1 i34_2 i34_3 hN_34 hF_34
      refine Tx.iload hC te_75_34 rfl ?_
      refine Tx.aload_n hC te_75_36 rfl ?_
      refine Tx.getI hC te_75_37 rfl rfl rfl (fun v17 v17e v17i => ?_)
      unfold InI at v17i
      rw [hF_34 9 _ (by unfold pRe; omega)] at v17e
      refine Tx.icmp hC (t := 103) te_75_40 (by decide) (fun q18 => ?_) (fun q18 => ?_)
      · replace q18 : v17 ≤ (x4 : Int) := q18
        refine Tx.iconst hC te_75_103 rfl ?_
        refine Tx.istore hC te_75_104 rfl ?_
        exact l_106 _ 0 m_34 (by omega) (i34_1) (i34_2) (by have w := FwE.fwc i34_3; rw [show x4.toNat = (mem 9 0).toNat by omega] at w; exact w) (Nat.lt_succ_self _) hF_34
      · replace q18 : ¬ (v17 ≤ (x4 : Int)) := q18
        refine Tx.aload_n hC te_75_43 rfl ?_
        refine Tx.getR hC te_75_44 rfl rfl rfl ?_
        refine Tx.iload hC te_75_47 rfl ?_
        refine Tx.iald hC te_75_49 rfl (by omega) (fun v19 v19e v19i => ?_)
        unfold InI at v19i
        rw [hF_34 10 _ (by unfold pRe; omega)] at v19e
        have f20 : Rg (mem 10 (Int.toNat x4)) (mem 11 (Int.toNat x4)) (mem 12 (Int.toNat x4)) (mem 13 (Int.toNat x4)) := hW9.1 (Int.toNat x4) (by omega)
        unfold Rg at f20
        have f20s := hS (Int.toNat x4) (by omega)
        refine Tx.bipush hC te_75_50 rfl rfl ?_
        refine Tx.imulW hC te_75_52 (fun z21 z21i z21e => ?_)
        unfold InI at z21i z21e
        first | replace z21e := z21e (by omega) | clear z21e
        refine Tx.aload_n hC te_75_53 rfl ?_
        refine Tx.getR hC te_75_54 rfl rfl rfl ?_
        refine Tx.iload hC te_75_57 rfl ?_
        refine Tx.iald hC te_75_59 rfl (by omega) (fun v22 v22e v22i => ?_)
        unfold InI at v22i
        rw [hF_34 11 _ (by unfold pRe; omega)] at v22e
        refine Tx.iaddW hC te_75_60 (fun z23 z23i z23e => ?_)
        unfold InI at z23i z23e
        first | replace z23e := z23e (by omega) | clear z23e
        refine Tx.istore hC te_75_61 rfl ?_
        refine Tx.aload_n hC te_75_63 rfl ?_
        refine Tx.getR hC te_75_64 rfl rfl rfl ?_
        refine Tx.iload hC te_75_67 rfl ?_
        refine Tx.aload_n hC te_75_69 rfl ?_
        refine Tx.getR hC te_75_70 rfl rfl rfl ?_
        refine Tx.iload hC te_75_73 rfl ?_
        refine Tx.iald hC te_75_75 rfl (by omega) (fun v24 v24e v24i => ?_)
        unfold InI at v24i
        have vb : v24 = WM m_34 20 (mem 10 x4.toNat).toNat (mem 11 x4.toNat).toNat := by rw [v24e]; unfold WM; congr 1; omega
        refine Tx.aload_n hC te_75_76 rfl ?_
        refine Tx.getR hC te_75_77 rfl rfl rfl ?_
        refine Tx.iload hC te_75_80 rfl ?_
        refine Tx.iald hC te_75_82 rfl (by omega) (fun v25 v25e v25i => ?_)
        unfold InI at v25i
        rw [hF_34 13 _ (by unfold pRe; omega)] at v25e
        refine Tx.iload_n hC te_75_83 rfl ?_
        refine Tx.aload_n hC te_75_84 rfl ?_
        refine Tx.getR hC te_75_85 rfl rfl rfl ?_
        refine Tx.iload hC te_75_88 rfl ?_
        refine Tx.iald hC te_75_90 rfl (by omega) (fun v26 v26e v26i => ?_)
        unfold InI at v26i
        rw [hF_34 12 _ (by unfold pRe; omega)] at v26e
        have pm := dmul12 (d := d) (x := v26) (by omega) (by omega)
        have pe : d * mem 12 (Int.toNat x4) = d * v26 := by rw [v26e]
        refine Tx.imulW hC te_75_91 (fun z27 z27i z27e => ?_)
        unfold InI at z27i z27e
        first | replace z27e := z27e (by omega) | clear z27e
        refine Tx.isubW hC te_75_92 (fun z28 z28i z28e => ?_)
        unfold InI at z28i z28e
        first | replace z28e := z28e (by omega) | clear z28e
        refine Tx.statI hC te_75_93 (by decide) mt_40 (args := [.inl v24, .inl z28]) (rest := [.inl z23, .inr 20]) (c' := 0) (s' := 0) rfl rfl rfl rfl rfl rfl rfl ?_
        refine f_40q (fun r29 r29a r29b r29c r29i => ?_)
        unfold InI at r29i
        have c1 : (cwq mem 9 x4.toNat).1 = ((mem 10 x4.toNat).toNat : Int) := by show mem 10 x4.toNat = _; omega
        have c2 : (cwq mem 9 x4.toNat).2.1 = ((mem 11 x4.toNat).toNat : Int) := by show mem 11 x4.toNat = _; omega
        have c4 : (cwq mem 9 x4.toNat).2.2.2 - d * (cwq mem 9 x4.toNat).2.2.1 = mem 13 x4.toNat - d * mem 12 x4.toNat := rfl
        refine Tx.iast hC te_75_96 rfl (by omega) ?_
        have hF33 : Frm pRe mem (upm m_34 20 (Int.toNat z23) r29) := Frm.up hF_34 (by unfold pRe; omega)
        have hY35 : (upm m_34 20 (Int.toNat z23) r29) 19 1 = d := by rw [upm_ne (by omega)]; exact i34_2
        have hZ34 : (upm m_34 20 (Int.toNat z23) r29) 19 0 = mem 1 0 := by rw [upm_ne (by omega)]; exact i34_1
        have hI36 : FwE (cwq mem 9) d (mem 1 0).toNat 20 (-100000) (upm m_34 20 (Int.toNat z23) r29) (x4.toNat + 1) := FwE.step i34_3 (by omega) c1 c2 (by omega) (by omega) (by rw [c4]; omega) (by rw [c4]; omega)
        generalize upm m_34 20 (Int.toNat z23) r29 = m32 at hF33 hZ34 hY35 hI36 ⊢
        refine Tx.iincW hC te_75_97 rfl rfl (fun z37 z37i z37e => ?_)
        unfold InI at z37i z37e
        first | replace z37e := z37e (by omega) | clear z37e
        refine Tx.goto hC (t := 34) te_75_100 (by decide) ?_
        exact Tx.weak (by repeat' (first | exact trivial | exact rfl | constructor)) (ih_34 z37 m32 (by omega) (hZ34) (hY35) (by rw [show (z37).toNat = x4.toNat + 1 by omega]; exact hI36) (by omega) hF33)
  refine Tx.aload_n hC te_75_0 rfl ?_
  refine Tx.getI hC te_75_1 rfl rfl rfl (fun v38 v38e v38i => ?_)
  unfold InI at v38i
  refine Tx.iload_n hC te_75_4 rfl ?_
  refine Tx.icmp hC (t := 9) te_75_5 (by decide) (fun q39 => ?_) (fun q39 => ?_)
  · replace q39 : ¬ (v38 : Int) = d := q39
    refine Tx.aload_n hC te_75_9 rfl ?_
    refine Tx.iload_n hC te_75_10 rfl ?_
    refine Tx.putI hC te_75_11 rfl rfl rfl rfl ?_
    have hF41 : Frm pRe mem (upm mem 19 1 d) := Frm.up Frm.rf (by unfold pRe; omega)
    have hY43 : (upm mem 19 1 d) 19 1 = d := upm_eq
    generalize upm mem 19 1 d = m40 at hF41 hY43 ⊢
    refine Tx.aload_n hC te_75_14 rfl ?_
    refine Tx.aload_n hC te_75_15 rfl ?_
    refine Tx.getI hC te_75_16 rfl rfl rfl (fun v44 v44e v44i => ?_)
    unfold InI at v44i
    rw [hF41 1 _ (by unfold pRe; omega)] at v44e
    refine Tx.putI hC te_75_19 rfl rfl rfl rfl ?_
    have hF46 : Frm pRe mem (upm m40 19 0 v44) := Frm.up hF41 (by unfold pRe; omega)
    have hY48 : (upm m40 19 0 v44) 19 1 = d := by rw [upm_ne (by omega)]; exact hY43
    have hZ47 : (upm m40 19 0 v44) 19 0 = mem 1 0 := by rw [upm_eq]; omega
    generalize upm m40 19 0 v44 = m45 at hF46 hZ47 hY48 ⊢
    refine Tx.aload_n hC te_75_22 rfl ?_
    refine Tx.getR hC te_75_23 rfl rfl rfl ?_
    refine Tx.ldc hC (z := (-100000)) te_75_26 rfl rfl rfl rfl ?_
    refine Tx.statV hC te_75_28 (by decide) mt_76 (args := [.inr 20, .inl (-100000)]) (rest := []) (c' := 0) (s' := 0) rfl rfl rfl rfl rfl rfl rfl ?_
    refine CWV.q hC (f_76e (Z := 20) (zn := 64) rfl (by omega) (fun m50 hF51 r49a => ?_))
    have m50Z : m50 19 0 = mem 1 0 := by rw [hF51 19 0 (by omega)]; exact hZ47
    have m50Y : m50 19 1 = d := by rw [hF51 19 1 (by omega)]; exact hY48
    have m50I : FwE (cwq mem 9) d (mem 1 0).toNat 20 (-100000) m50 0 := FwE.ini (by omega) r49a
    have hF51n : Frm pRe mem m50 := Frm.cp hF46 hF51 (fun i => by unfold pRe; omega)
    refine Tx.iconst hC te_75_31 rfl ?_
    refine Tx.istore hC te_75_32 rfl ?_
    exact l_34 _ 0 m50 (by omega) (m50Z) (m50Y) (m50I) (Nat.lt_succ_self _) hF51n
  · replace q39 : ¬ (¬ (v38 : Int) = d) := q39
    exact Tx.vret hC te_75_8 rfl (show K mem from H _ Frm.rf hX (hX.resolve_left (by omega)).1 (by omega))
end

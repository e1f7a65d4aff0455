/-! ===== DET 2: two rows swapped, two rows alike ===== -/
theorem ds_sk_comm {a b c : Nat} (h : a < b) : ds_sk a (ds_sk (b - 1) c) = ds_sk b (ds_sk a c) := by
  unfold ds_sk
  by_cases h1 : c < a
  · rw [if_pos (show c < b - 1 by omega), if_pos h1, if_pos (show c < b by omega)]
  · by_cases h2 : c < b - 1
    · rw [if_pos h2, if_neg h1, if_pos (show c + 1 < b by omega)]
    · rw [if_neg h2, if_neg h1, if_neg (show ¬ c + 1 < a by omega), if_neg (show ¬ c + 1 < b by omega)]
/-- without the columns j and k -/
def ds_F (m : Nat) (A : Nat → Nat → Int) (j k : Nat) : Int := ds_det m (fun r c => A r (ds_sk (max j k) (ds_sk (min j k) c)))
theorem ds_F_comm (m : Nat) (A : Nat → Nat → Int) (j k : Nat) : ds_F m A j k = ds_F m A k j := by
  unfold ds_F
  rw [Nat.max_comm, Nat.min_comm]
def ds_g2 (m j k : Nat) : Int := if k < j then ds_sg (m + k) else - ds_sg (m + k)
theorem ds_g2_anti (m j k : Nat) (h : j ≠ k) : ds_sg (m + 1 + j) * ds_g2 m j k = - (ds_sg (m + 1 + k) * ds_g2 m k j) := by
  have e1 : ds_sg (m + 1 + j) = - ds_sg (m + j) := by rw [show m + 1 + j = m + j + 1 by omega, ds_sg_s]
  have e2 : ds_sg (m + 1 + k) = - ds_sg (m + k) := by rw [show m + 1 + k = m + k + 1 by omega, ds_sg_s]
  unfold ds_g2
  rw [e1, e2]
  by_cases q : k < j
  · rw [if_pos q, if_neg (by omega)]
    grind
  · rw [if_neg q, if_pos (by omega)]
    grind
def ds_T (m : Nat) (A : Nat → Nat → Int) (j k : Nat) : Int := if k = j then 0 else ds_sg (m + 1 + j) * ds_g2 m j k * (A (m + 1) j * A m k * ds_F m A j k)
theorem ds_det_two (m : Nat) (A : Nat → Nat → Int) : ds_det (m + 2) A = ds_sum (m + 2) (fun j => ds_sum (m + 2) (fun k => ds_T m A j k)) := by
  rw [ds_det]
  refine ds_congr (fun j hj => ?_)
  rw [ds_det]
  have e : ds_sum (m + 1) (fun l => ds_sg (m + l) * ds_dc A j m l * ds_det m (ds_dc (ds_dc A j) l)) = ds_sum (m + 1) (fun l => (fun k => ds_g2 m j k * (A m k * ds_F m A j k)) (ds_sk j l)) := by
    refine ds_congr (fun l hl => ?_)
    show ds_sg (m + l) * A m (ds_sk j l) * ds_det m (ds_dc (ds_dc A j) l) = ds_g2 m j (ds_sk j l) * (A m (ds_sk j l) * ds_F m A j (ds_sk j l))
    rcases Nat.lt_or_ge l j with h | h
    · rw [ds_sk_lt h]
      unfold ds_g2 ds_F
      rw [if_pos h, show max j l = j by omega, show min j l = l by omega, Int.mul_assoc]
      rfl
    · rw [ds_sk_ge h]
      unfold ds_g2 ds_F
      rw [if_neg (show ¬ l + 1 < j by omega), show max j (l + 1) = l + 1 by omega, show min j (l + 1) = j by omega, show m + (l + 1) = m + l + 1 by omega, ds_sg_s, Int.neg_neg, Int.mul_assoc]
      congr 2
      refine ds_det_congr m (fun r c hr hc => ?_)
      show A r (ds_sk j (ds_sk l c)) = A r (ds_sk (l + 1) (ds_sk j c))
      rw [← ds_sk_comm (show j < l + 1 by omega), show l + 1 - 1 = l by omega]
  rw [e, ds_sum_sk (fun k => ds_g2 m j k * (A m k * ds_F m A j k)) j (m + 1) (by omega), ← ds_mul]
  refine ds_congr (fun k hk => ?_)
  unfold ds_T
  by_cases q : k = j
  · rw [if_pos q, if_pos q, Int.mul_zero]
  · rw [if_neg q, if_neg q]
    grind
def ds_sw (A : Nat → Nat → Int) (p q : Nat) : Nat → Nat → Int := fun r c => if r = p then A q c else if r = q then A p c else A r c
theorem ds_det_sw2 (m : Nat) (A : Nat → Nat → Int) : ds_det (m + 2) (ds_sw A m (m + 1)) = - ds_det (m + 2) A := by
  rw [ds_det_two, ds_det_two, ds_swap (fun j k => ds_T m A j k), ← ds_neg]
  refine ds_congr (fun j hj => ?_)
  rw [← ds_neg]
  refine ds_congr (fun k hk => ?_)
  unfold ds_T
  by_cases q : k = j
  · rw [if_pos q, if_pos q.symm]
    rfl
  · rw [if_neg q, if_neg (fun e => q e.symm)]
    have f1 : ds_F m (ds_sw A m (m + 1)) j k = ds_F m A k j := by
      rw [ds_F_comm m A k j]
      unfold ds_F
      refine ds_det_congr m (fun r c hr hc => ?_)
      show (if r = m then _ else if r = m + 1 then _ else _) = _
      rw [if_neg (by omega), if_neg (by omega)]
    have a1 : ds_sw A m (m + 1) (m + 1) j = A m j := by
      unfold ds_sw
      rw [if_neg (by omega), if_pos rfl]
    have a2 : ds_sw A m (m + 1) m k = A (m + 1) k := by
      unfold ds_sw
      rw [if_pos rfl]
    rw [f1, a1, a2, ds_g2_anti m j k (fun e => q e.symm)]
    grind
/-- two neighbours swapped -/
theorem ds_det_swn : ∀ (m p : Nat) (A : Nat → Nat → Int), p + 1 < m → ds_det m (ds_sw A p (p + 1)) = - ds_det m A
  | 0, p, _, hp => absurd hp (by omega)
  | m + 1, p, A, hp => by
    rcases Nat.lt_or_ge (p + 1) m with h | h
    · rw [ds_det, ds_det, ← ds_neg]
      refine ds_congr (fun j hj => ?_)
      have e1 : ds_sw A p (p + 1) m j = A m j := by
        unfold ds_sw
        rw [if_neg (by omega), if_neg (by omega)]
      have e2 : ds_dc (ds_sw A p (p + 1)) j = ds_sw (ds_dc A j) p (p + 1) := rfl
      rw [e1, e2, ds_det_swn m p (ds_dc A j) h]
      grind
    · have e : m = p + 1 := by omega
      subst e
      exact ds_det_sw2 p A
/-- two rows alike -/
theorem ds_det_eq : ∀ (d m p : Nat) (A : Nat → Nat → Int), p + d + 1 < m → (∀ c, c < m → A p c = A (p + d + 1) c) → ds_det m A = 0
  | 0, m, p, A, hp, h => by
    have e := ds_det_swn m p A hp
    have e2 : ds_det m (ds_sw A p (p + 1)) = ds_det m A := ds_det_congr m (fun r c hr hc => by
      unfold ds_sw
      by_cases q : r = p
      · rw [if_pos q, q]
        exact (h c hc).symm
      · rw [if_neg q]
        by_cases q2 : r = p + 1
        · rw [if_pos q2, q2]
          exact h c hc
        · rw [if_neg q2])
    rw [e2] at e
    omega
  | d + 1, m, p, A, hp, h => by
    have e := ds_det_swn m (p + d + 1) A (by omega)
    have e2 : ds_det m (ds_sw A (p + d + 1) (p + d + 1 + 1)) = 0 := ds_det_eq d m p _ (by omega) (fun c hc => by
      unfold ds_sw
      rw [if_neg (by omega), if_neg (by omega), if_pos rfl]
      exact h c hc)
    rw [e2] at e
    omega

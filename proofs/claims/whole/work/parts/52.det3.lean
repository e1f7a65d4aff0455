/-! ===== DET 3: cofactors, the adjoint, a row moved ===== -/
theorem ds_det_zrow (m p : Nat) (A : Nat → Nat → Int) (hp : p < m) (h : ∀ c, c < m → A p c = 0) : ds_det m A = 0 := by
  have e := ds_det_lin m p A (A p) (A p) 0 0 hp
  rw [Int.zero_mul, Int.zero_add] at e
  rw [← e]
  refine ds_det_congr m (fun r c hr hc => ?_)
  unfold ds_set
  by_cases q : r = p
  · rw [if_pos q, q, h c hc]
    show (0 : Int) = 0 * A p c + 0 * A p c
    omega
  · rw [if_neg q]
theorem ds_det_sum (m p : Nat) (A : Nat → Nat → Int) (hp : p < m) (c : Nat → Int) (f : Nat → Nat → Int) : ∀ k : Nat, ds_det m (ds_set A p (fun j => ds_sum k (fun l => c l * f l j))) = ds_sum k (fun l => c l * ds_det m (ds_set A p (f l)))
  | 0 => ds_det_zrow m p _ hp (fun j _ => if_pos rfl)
  | k + 1 => by
    rw [ds_sum, ← ds_det_sum m p A hp c f k]
    have e := ds_det_lin m p A (fun j => ds_sum k (fun l => c l * f l j)) (f k) 1 (c k) hp
    rw [Int.one_mul] at e
    rw [← e]
    refine ds_det_congr m (fun r j hr hc => ?_)
    unfold ds_set
    by_cases q : r = p
    · rw [if_pos q, if_pos q]
      show ds_sum k (fun l => c l * f l j) + c k * f k j = 1 * ds_sum k (fun l => c l * f l j) + c k * f k j
      rw [Int.one_mul]
    · rw [if_neg q, if_neg q]
theorem ds_one (f : Nat → Int) (j : Nat) : ∀ n : Nat, ds_sum n (fun i => if i = j then f i else 0) = if j < n then f j else 0
  | 0 => by rw [if_neg (by omega)]; rfl
  | n + 1 => by
    rw [ds_sum, ds_one f j n]
    by_cases h : n = j
    · subst h
      rw [if_neg (by omega), if_pos rfl, if_pos (by omega), Int.zero_add]
    · rw [if_neg h, Int.add_zero]
      by_cases h2 : j < n
      · rw [if_pos h2, if_pos (by omega)]
      · rw [if_neg h2, if_neg (by omega)]
def ds_e (j : Nat) : Nat → Int := fun c => if c = j then 1 else 0
theorem ds_sum_e (f : Nat → Int) (j n : Nat) : ds_sum n (fun i => f i * ds_e i j) = if j < n then f j else 0 := by
  rw [← ds_one f j n]
  refine ds_congr (fun i _ => ?_)
  unfold ds_e
  by_cases h : i = j
  · rw [if_pos h, if_pos h.symm, Int.mul_one]
  · rw [if_neg h, if_neg (fun q => h q.symm), Int.mul_zero]
theorem ds_sum_e2 (f : Nat → Int) (j n : Nat) : ds_sum n (fun i => f i * ds_e j i) = if j < n then f j else 0 := by
  rw [← ds_one f j n]
  refine ds_congr (fun i _ => ?_)
  unfold ds_e
  by_cases h : i = j
  · rw [if_pos h, if_pos h, Int.mul_one]
  · rw [if_neg h, if_neg h, Int.mul_zero]
/-- the cofactor -/
def ds_C (m : Nat) (A : Nat → Nat → Int) (k j : Nat) : Int := ds_det m (ds_set A k (ds_e j))
theorem ds_expand (m k : Nat) (A : Nat → Nat → Int) (x : Nat → Int) (hk : k < m) : ds_det m (ds_set A k x) = ds_sum m (fun j => x j * ds_C m A k j) := by
  rw [show (fun j => x j * ds_C m A k j) = (fun j => x j * ds_det m (ds_set A k (ds_e j))) from rfl, ← ds_det_sum m k A hk x ds_e m]
  refine ds_det_congr m (fun r c hr hc => ?_)
  unfold ds_set
  by_cases q : r = k
  · rw [if_pos q, if_pos q]
    show x c = ds_sum m (fun l => x l * ds_e l c)
    rw [ds_sum_e x c m, if_pos hc]
  · rw [if_neg q, if_neg q]
theorem ds_alike (m p q : Nat) (A : Nat → Nat → Int) (hp : p < m) (hq : q < m) (hn : p ≠ q) (h : ∀ c, c < m → A p c = A q c) : ds_det m A = 0 := by
  rcases Nat.lt_or_ge p q with g | g
  · refine ds_det_eq (q - p - 1) m p A (by omega) (fun c hc => ?_)
    rw [show p + (q - p - 1) + 1 = q by omega]
    exact h c hc
  · refine ds_det_eq (p - q - 1) m q A (by omega) (fun c hc => ?_)
    rw [show q + (p - q - 1) + 1 = p by omega]
    exact (h c hc).symm
theorem ds_set_self (m k : Nat) (A : Nat → Nat → Int) : ds_det m (ds_set A k (A k)) = ds_det m A := ds_det_congr m (fun r c _ _ => by
  unfold ds_set
  by_cases q : r = k
  · rw [if_pos q, q]
  · rw [if_neg q])
theorem ds_set_row (m i k : Nat) (A : Nat → Nat → Int) (hi : i < m) (hk : k < m) (hn : i ≠ k) : ds_det m (ds_set A k (A i)) = 0 := by
  refine ds_alike m i k _ hi hk hn (fun c _ => ?_)
  unfold ds_set
  rw [if_neg hn, if_pos rfl]
theorem ds_adj (m i k : Nat) (A : Nat → Nat → Int) (hi : i < m) (hk : k < m) : ds_sum m (fun j => A i j * ds_C m A k j) = if i = k then ds_det m A else 0 := by
  rw [← ds_expand m k A (A i) hk]
  by_cases q : i = k
  · rw [if_pos q, q, ds_set_self]
  · rw [if_neg q, ds_set_row m i k A hi hk q]
theorem ds_sol (m i : Nat) (A : Nat → Nat → Int) (a : Nat → Int) (hi : i < m) : ds_sum m (fun j => A i j * ds_sum m (fun k => ds_C m A k j * a k)) = ds_det m A * a i := by
  have e : ds_sum m (fun j => A i j * ds_sum m (fun k => ds_C m A k j * a k)) = ds_sum m (fun j => ds_sum m (fun k => a k * (A i j * ds_C m A k j))) := ds_congr (fun j _ => by
    rw [← ds_mul]
    exact ds_congr (fun k _ => by grind))
  rw [e, ds_swap (fun j k => a k * (A i j * ds_C m A k j)) m m]
  have e2 : ds_sum m (fun k => ds_sum m (fun j => a k * (A i j * ds_C m A k j))) = ds_sum m (fun k => if k = i then ds_det m A * a k else 0) := ds_congr (fun k hk => by
    rw [ds_mul, ds_adj m i k A hi hk]
    by_cases q : k = i
    · rw [if_pos q, if_pos q.symm, Int.mul_comm]
    · rw [if_neg q, if_neg (fun h => q h.symm), Int.mul_zero])
  rw [e2, ds_one, if_pos hi]
theorem ds_det_op (m r s : Nat) (A : Nat → Nat → Int) (t : Int) (hr : r < m) (hs : s < m) (hn : r ≠ s) : ds_det m (ds_set A r (fun c => A r c + t * A s c)) = ds_det m A := by
  have e := ds_det_lin m r A (A r) (A s) 1 t hr
  rw [ds_set_self, ds_set_row m s r A hs hr (fun h => hn h.symm), Int.mul_zero, Int.add_zero, Int.one_mul] at e
  rw [← e]
  refine ds_det_congr m (fun i c _ _ => ?_)
  show (if i = r then A r c + t * A s c else A i c) = (if i = r then 1 * A r c + t * A s c else A i c)
  rw [Int.one_mul]
/-- the last row, added to the rows before it -/
theorem ds_det_ops (m : Nat) (A : Nat → Nat → Int) (s : Nat → Int) : ∀ t : Nat, t ≤ m → ds_det (m + 1) (fun r c => if r < t then A r c + s r * A m c else A r c) = ds_det (m + 1) A
  | 0, _ => ds_det_congr (m + 1) (fun r c _ _ => if_neg (by omega))
  | t + 1, h => by
    rw [← ds_det_ops m A s t (by omega)]
    rw [← ds_det_op (m + 1) t m (fun r c => if r < t then A r c + s r * A m c else A r c) (s t) (by omega) (by omega) (by omega)]
    refine ds_det_congr (m + 1) (fun r c _ _ => ?_)
    unfold ds_set
    by_cases q : r = t
    · subst q
      rw [if_pos (by omega), if_pos rfl]
      dsimp only
      rw [if_neg (show ¬ r < r by omega), if_neg (show ¬ m < r by omega)]
    · rw [if_neg q]
      dsimp only
      by_cases q2 : r < t
      · rw [if_pos q2, if_pos (by omega)]
      · rw [if_neg q2, if_neg (by omega)]
/-- row r moved to the end -/
def ds_mv (A : Nat → Nat → Int) (m r : Nat) : Nat → Nat → Int := fun i c => if i < m then A (ds_sk r i) c else A r c
theorem ds_det_mv : ∀ (d m r : Nat) (A : Nat → Nat → Int), r + d = m → ds_det (m + 1) A = ds_sg d * ds_det (m + 1) (ds_mv A m r)
  | 0, m, r, A, h => by
    have e : r = m := by omega
    subst e
    rw [show ds_sg 0 = 1 from rfl, Int.one_mul]
    refine ds_det_congr _ (fun i c hi _ => ?_)
    unfold ds_mv
    by_cases q : i < r
    · rw [if_pos q, ds_sk_lt q]
    · rw [if_neg q, show i = r by omega]
  | d + 1, m, r, A, h => by
    have e := ds_det_swn (m + 1) r A (by omega)
    have e2 := ds_det_mv d m (r + 1) (ds_sw A r (r + 1)) (by omega)
    have e3 : ds_det (m + 1) (ds_mv (ds_sw A r (r + 1)) m (r + 1)) = ds_det (m + 1) (ds_mv A m r) := ds_det_congr _ (fun i c hi _ => by
      unfold ds_mv ds_sw
      by_cases q : i < m
      · rw [if_pos q, if_pos q]
        rcases Nat.lt_trichotomy i r with g | g | g
        · rw [ds_sk_lt (show i < r + 1 by omega), ds_sk_lt g, if_neg (by omega), if_neg (by omega)]
        · rw [ds_sk_lt (show i < r + 1 by omega), ds_sk_ge (show r ≤ i by omega), if_pos g, g]
        · rw [ds_sk_ge (show r + 1 ≤ i by omega), ds_sk_ge (show r ≤ i by omega), if_neg (by omega), if_neg (by omega)]
      · rw [if_neg q, if_neg q, if_neg (by omega), if_pos rfl])
    rw [e3] at e2
    rw [ds_sg_s, Int.neg_mul, ← e2, e, Int.neg_neg]
theorem ds_sg_sq (k : Nat) : ds_sg k * ds_sg k = 1 := by
  unfold ds_sg
  by_cases h : k % 2 = 0
  · rw [if_pos h]; rfl
  · rw [if_neg h]; rfl
theorem ds_sg_par {a b : Nat} (h : a % 2 = b % 2) : ds_sg a = ds_sg b := by unfold ds_sg; rw [h]
theorem ds_sum_one (f : Nat → Int) (j n : Nat) (hj : j < n) (h : ∀ i, i < n → i ≠ j → f i = 0) : ds_sum n f = f j := by
  have e : ds_sum n f = ds_sum n (fun i => if i = j then f i else 0) := ds_congr (fun i hi => by
    by_cases q : i = j
    · rw [if_pos q]
    · rw [if_neg q, h i hi q])
  rw [e, ds_one, if_pos hj]
theorem ds_C_min (m r j : Nat) (A : Nat → Nat → Int) (hr : r ≤ m) (hj : j ≤ m) : ds_C (m + 1) A r j = ds_sg (r + j) * ds_det m (fun i c => A (ds_sk r i) (ds_sk j c)) := by
  unfold ds_C
  rw [ds_det_mv (m - r) m r _ (by omega), ds_det]
  have e : ∀ i, ds_mv (ds_set A r (ds_e j)) m r m i = ds_e j i := fun i => by
    unfold ds_mv ds_set
    rw [if_neg (by omega), if_pos rfl]
  rw [ds_sum_one _ j (m + 1) (by omega) (fun i _ hi => by
    rw [e]
    unfold ds_e
    rw [if_neg hi, Int.mul_zero, Int.zero_mul])]
  rw [e]
  have e2 : ds_e j j = 1 := if_pos rfl
  have e3 : ds_det m (ds_dc (ds_mv (ds_set A r (ds_e j)) m r) j) = ds_det m (fun i c => A (ds_sk r i) (ds_sk j c)) := ds_det_congr m (fun i c hi _ => by
    unfold ds_dc ds_mv ds_set
    rw [if_pos hi, if_neg (ds_sk_ne r i)])
  rw [e2, e3, Int.mul_one, ← Int.mul_assoc, ← ds_sg_add]
  rw [ds_sg_par (show (m - r + (m + j)) % 2 = (r + j) % 2 by omega)]
/-- a unit row -/
theorem ds_unit (m r j : Nat) (A : Nat → Nat → Int) (hr : r ≤ m) (hj : j ≤ m) (h : ∀ c, c ≤ m → A r c = ds_e j c) : ds_det (m + 1) A = ds_sg (r + j) * ds_det m (fun i c => A (ds_sk r i) (ds_sk j c)) := by
  rw [← ds_C_min m r j A hr hj]
  refine ds_det_congr _ (fun i c _ hc => ?_)
  unfold ds_set
  by_cases q : i = r
  · rw [if_pos q, q, h c (by omega)]
  · rw [if_neg q]
/-- rows from i on that are 0 in the columns up to i -/
theorem ds_block (i : Nat) : ∀ (m : Nat) (A : Nat → Nat → Int), i < m → (∀ r c, i ≤ r → r < m → c ≤ i → A r c = 0) → ds_det m A = 0
  | 0, _, hi, _ => absurd hi (by omega)
  | m + 1, A, hi, h => by
    rw [ds_det, ← ds_zero (m + 1)]
    refine ds_congr (fun j hj => ?_)
    rcases Nat.lt_or_ge i j with g | g
    · rw [ds_block i m (ds_dc A j) (by omega) (fun r c h1 h2 h3 => by
        unfold ds_dc
        rw [ds_sk_lt (by omega)]
        exact h r c h1 (by omega) h3), Int.mul_zero]
    · rw [h m j (by omega) (by omega) g, Int.mul_zero, Int.zero_mul]

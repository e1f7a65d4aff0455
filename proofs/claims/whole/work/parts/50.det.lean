/-! ===== DET: sums and determinants over Int, by the last row ===== -/
def ds_sum : Nat → (Nat → Int) → Int
  | 0, _ => 0
  | n + 1, f => ds_sum n f + f n
theorem ds_congr {f g : Nat → Int} : ∀ {n : Nat}, (∀ i, i < n → f i = g i) → ds_sum n f = ds_sum n g
  | 0, _ => rfl
  | n + 1, h => by
    rw [ds_sum, ds_sum, ds_congr (n := n) (fun i hi => h i (by omega)), h n (by omega)]
theorem ds_zero : ∀ n : Nat, ds_sum n (fun _ => 0) = 0
  | 0 => rfl
  | n + 1 => by rw [ds_sum, ds_zero n]; rfl
theorem ds_add (f g : Nat → Int) : ∀ n : Nat, ds_sum n (fun i => f i + g i) = ds_sum n f + ds_sum n g
  | 0 => rfl
  | n + 1 => by
    rw [ds_sum, ds_sum, ds_sum, ds_add f g n]
    omega
theorem ds_mul (c : Int) (f : Nat → Int) : ∀ n : Nat, ds_sum n (fun i => c * f i) = c * ds_sum n f
  | 0 => by rw [ds_sum, ds_sum, Int.mul_zero]
  | n + 1 => by rw [ds_sum, ds_sum, ds_mul c f n, Int.mul_add]
theorem ds_neg (f : Nat → Int) (n : Nat) : ds_sum n (fun i => - f i) = - ds_sum n f := by
  have h := ds_mul (-1) f n
  rw [Int.neg_one_mul] at h
  rw [← h]
  exact ds_congr (fun i _ => by rw [Int.neg_one_mul])
theorem ds_swap (f : Nat → Nat → Int) (m : Nat) : ∀ n : Nat, ds_sum n (fun i => ds_sum m (fun j => f i j)) = ds_sum m (fun j => ds_sum n (fun i => f i j))
  | 0 => by
    show (0 : Int) = _
    rw [← ds_zero m]
    rfl
  | n + 1 => by
    rw [ds_sum, ds_swap f m n]
    show ds_sum m (fun j => ds_sum n (fun i => f i j)) + ds_sum m (fun j => f n j) = ds_sum m (fun j => ds_sum n (fun i => f i j) + f n j)
    rw [ds_add]
/-- the columns but j -/
def ds_sk (j l : Nat) : Nat := if l < j then l else l + 1
theorem ds_sk_lt {j l : Nat} (h : l < j) : ds_sk j l = l := if_pos h
theorem ds_sk_ge {j l : Nat} (h : j ≤ l) : ds_sk j l = l + 1 := if_neg (by omega)
theorem ds_sk_ne (j l : Nat) : ds_sk j l ≠ j := by
  unfold ds_sk
  by_cases h : l < j
  · rw [if_pos h]; omega
  · rw [if_neg h]; omega
theorem ds_sum_sk (f : Nat → Int) (j : Nat) : ∀ n : Nat, j ≤ n → ds_sum n (fun l => f (ds_sk j l)) = ds_sum (n + 1) (fun k => if k = j then 0 else f k)
  | n, hj => by
    induction n with
    | zero =>
      have : j = 0 := by omega
      subst this
      rfl
    | succ n ih =>
      rcases Nat.lt_or_ge n j with h | h
      · -- j = n + 1: the last one is left out
        have e : j = n + 1 := by omega
        subst e
        rw [show ds_sum (n + 1 + 1) (fun k => if k = n + 1 then 0 else f k) = ds_sum (n + 1) (fun k => if k = n + 1 then 0 else f k) + (if n + 1 = n + 1 then 0 else f (n + 1)) from rfl, if_pos rfl, Int.add_zero]
        exact ds_congr (fun i hi => by rw [ds_sk_lt (by omega), if_neg (by omega)])
      · rw [show ds_sum (n + 1) (fun l => f (ds_sk j l)) = ds_sum n (fun l => f (ds_sk j l)) + f (ds_sk j n) from rfl, ih (by omega), ds_sk_ge h, show ds_sum (n + 1 + 1) (fun k => if k = j then 0 else f k) = ds_sum (n + 1) (fun k => if k = j then 0 else f k) + (if n + 1 = j then 0 else f (n + 1)) from rfl, if_neg (by omega)]
def ds_sg (k : Nat) : Int := if k % 2 = 0 then 1 else -1
theorem ds_sg_s (k : Nat) : ds_sg (k + 1) = - ds_sg k := by
  unfold ds_sg
  by_cases h : k % 2 = 0
  · rw [if_pos h, if_neg (by omega)]
  · rw [if_neg h, if_pos (by omega)]; rfl
theorem ds_sg_2 (k : Nat) : ds_sg (k + 2) = ds_sg k := by rw [ds_sg_s, ds_sg_s, Int.neg_neg]
theorem ds_sg_add (a b : Nat) : ds_sg (a + b) = ds_sg a * ds_sg b := by
  induction b with
  | zero => rw [Nat.add_zero, show ds_sg 0 = 1 from rfl, Int.mul_one]
  | succ b ih => rw [← Nat.add_assoc, ds_sg_s, ds_sg_s, ih, Int.mul_neg]
/-- without column j -/
def ds_dc (A : Nat → Nat → Int) (j : Nat) : Nat → Nat → Int := fun r c => A r (ds_sk j c)
def ds_det : Nat → (Nat → Nat → Int) → Int
  | 0, _ => 1
  | m + 1, A => ds_sum (m + 1) (fun j => ds_sg (m + j) * A m j * ds_det m (ds_dc A j))
theorem ds_sk_in {m j c : Nat} (hc : c < m) : ds_sk j c < m + 1 := by
  unfold ds_sk
  by_cases h : c < j
  · rw [if_pos h]; omega
  · rw [if_neg h]; omega
theorem ds_det_congr : ∀ (m : Nat) {A B : Nat → Nat → Int}, (∀ r c, r < m → c < m → A r c = B r c) → ds_det m A = ds_det m B
  | 0, _, _, _ => rfl
  | m + 1, A, B, h => by
    rw [ds_det, ds_det]
    refine ds_congr (fun j hj => ?_)
    rw [h m j (by omega) hj, ds_det_congr m (A := ds_dc A j) (B := ds_dc B j) (fun r c hr hc => h r _ (by omega) (ds_sk_in hc))]
def ds_set (A : Nat → Nat → Int) (p : Nat) (x : Nat → Int) : Nat → Nat → Int := fun r c => if r = p then x c else A r c
theorem ds_set_dc (A : Nat → Nat → Int) (p j : Nat) (x : Nat → Int) : ds_dc (ds_set A p x) j = ds_set (ds_dc A j) p (fun c => x (ds_sk j c)) := rfl
/-- linear in each row -/
theorem ds_det_lin : ∀ (m p : Nat) (A : Nat → Nat → Int) (x y : Nat → Int) (a b : Int), p < m → ds_det m (ds_set A p (fun c => a * x c + b * y c)) = a * ds_det m (ds_set A p x) + b * ds_det m (ds_set A p y)
  | 0, p, _, _, _, _, _, hp => absurd hp (by omega)
  | m + 1, p, A, x, y, a, b, hp => by
    rw [ds_det, ds_det, ds_det, ← ds_mul, ← ds_mul, ← ds_add]
    refine ds_congr (fun j hj => ?_)
    rcases Nat.lt_or_ge p m with h | h
    · rw [ds_set_dc, ds_set_dc, ds_set_dc, ds_det_lin m p (ds_dc A j) (fun c => x (ds_sk j c)) (fun c => y (ds_sk j c)) a b h]
      rw [show ds_set A p (fun c => a * x c + b * y c) m j = A m j from if_neg (by omega), show ds_set A p x m j = A m j from if_neg (by omega), show ds_set A p y m j = A m j from if_neg (by omega)]
      grind
    · have e : p = m := by omega
      subst e
      have c1 : ∀ z : Nat → Int, ds_det p (ds_dc (ds_set A p z) j) = ds_det p (ds_dc A j) := fun z => ds_det_congr p (fun r c hr hc => if_neg (by omega))
      rw [c1, c1, c1, show ds_set A p (fun c => a * x c + b * y c) p j = a * x j + b * y j from if_pos rfl, show ds_set A p x p j = x j from if_pos rfl, show ds_set A p y p j = y j from if_pos rfl]
      grind
/-- a last row that is 0 but at its end -/
theorem ds_det_last (m : Nat) (A : Nat → Nat → Int) (h : ∀ c, c < m → A m c = 0) : ds_det (m + 1) A = A m m * ds_det m A := by
  rw [ds_det, ds_sum]
  have e1 : ds_sum m (fun j => ds_sg (m + j) * A m j * ds_det m (ds_dc A j)) = 0 := by
    rw [← ds_zero m]
    exact ds_congr (fun j hj => by rw [h j hj, Int.mul_zero, Int.zero_mul])
  have e2 : ds_sg (m + m) = 1 := by unfold ds_sg; rw [if_pos (by omega)]
  have e3 : ds_det m (ds_dc A m) = ds_det m A := ds_det_congr m (fun r c hr hc => by unfold ds_dc; rw [ds_sk_lt hc])
  rw [e1, e2, e3, Int.zero_add, Int.one_mul]

/-! ===== ELIM: the elimination without fractions, as numbers ===== -/
def el_y (A : Nat → Nat → Int) (p l c : Nat) : Int := ds_sum p (fun k => ds_C p A k l * A k c)
def el_R (A : Nat → Nat → Int) (p r c : Nat) : Int := if r < p then el_y A p r c else ds_det p A * A r c - ds_sum p (fun l => A r l * el_y A p l c)
def el_inj (A : Nat → Nat → Int) (K : Nat) : Prop := ∀ p, p ≤ K → ∀ y : Nat → Int, (∀ i, i < p → ds_sum p (fun j => A i j * y j) = 0) → ∀ j, j < p → y j = 0
theorem el_R0 (A : Nat → Nat → Int) (r c : Nat) : el_R A 0 r c = A r c := by
  unfold el_R
  rw [if_neg (by omega), show ds_det 0 A = 1 from rfl, Int.one_mul]
  show A r c - 0 = _
  omega
theorem el_I (A : Nat → Nat → Int) (p i c : Nat) : ds_det p A * A i c = ds_sum p (fun l => A i l * el_R A p l c) + (if i < p then 0 else el_R A p i c) := by
  have e : ds_sum p (fun l => A i l * el_R A p l c) = ds_sum p (fun l => A i l * el_y A p l c) := ds_congr (fun l hl => by unfold el_R; rw [if_pos hl])
  rw [e]
  by_cases h : i < p
  · rw [if_pos h, Int.add_zero]
    exact (ds_sol p i A (fun k => A k c) h).symm
  · rw [if_neg h]
    unfold el_R
    rw [if_neg h]
    omega
theorem el_Cpp (A : Nat → Nat → Int) (p : Nat) : ds_C (p + 1) A p p = ds_det p A := by
  unfold ds_C
  rw [ds_det_last p _ (fun c hc => by
    unfold ds_set ds_e
    rw [if_pos rfl, if_neg (by omega)])]
  have e : ds_set A p (ds_e p) p p = 1 := by
    unfold ds_set ds_e
    rw [if_pos rfl, if_pos rfl]
  rw [e, Int.one_mul]
  exact ds_det_congr p (fun r c hr _ => by
    unfold ds_set
    rw [if_neg (by omega)])
theorem el_D {A : Nat → Nat → Int} {K : Nat} (h : el_inj A K) : ∀ p, p ≤ K → ds_det p A ≠ 0
  | 0, _ => by rw [show ds_det 0 A = 1 from rfl]; decide
  | p + 1, hp => by
    intro h0
    have e := h (p + 1) hp (fun j => ds_C (p + 1) A p j) (fun i hi => by
      rw [ds_adj (p + 1) i p A hi (by omega), h0]
      exact ite_self 0) p (by omega)
    rw [el_Cpp] at e
    exact el_D h p (by omega) e
theorem ds_sub (f g : Nat → Int) (n : Nat) : ds_sum n (fun i => f i - g i) = ds_sum n f - ds_sum n g := by
  have e : ds_sum n (fun i => f i - g i) = ds_sum n (fun i => f i + - g i) := ds_congr (fun i _ => by omega)
  rw [e, ds_add, ds_neg]
  omega
theorem el_uniq {A : Nat → Nat → Int} {K : Nat} (h : el_inj A K) {p : Nat} (hp : p ≤ K) {x y : Nat → Int} (hxy : ∀ i, i < p → ds_sum p (fun j => A i j * x j) = ds_sum p (fun j => A i j * y j)) : ∀ j, j < p → x j = y j := by
  intro j hj
  have e := h p hp (fun j => x j - y j) (fun i hi => by
    have e2 : ds_sum p (fun j => A i j * (x j - y j)) = ds_sum p (fun j => A i j * x j - A i j * y j) := ds_congr (fun j _ => by rw [Int.mul_sub])
    rw [e2, ds_sub, hxy i hi]
    omega) j hj
  omega
theorem el_piv {A : Nat → Nat → Int} {K : Nat} (h : el_inj A K) {p : Nat} (hp : p < K) : el_R A p p p = ds_det (p + 1) A := by
  have e := el_uniq h (p := p + 1) (by omega) (x := fun j => ds_det (p + 1) A * (if j < p then - el_R A p j p else ds_det p A)) (y := fun j => el_R A p p p * ds_C (p + 1) A p j) (fun i hi => by
    have e1 : ds_sum (p + 1) (fun j => A i j * (el_R A p p p * ds_C (p + 1) A p j)) = el_R A p p p * (if i = p then ds_det (p + 1) A else 0) := by
      rw [← ds_adj (p + 1) i p A hi (by omega), ← ds_mul]
      exact ds_congr (fun j _ => by grind)
    have e2 : ds_sum (p + 1) (fun j => A i j * (ds_det (p + 1) A * (if j < p then - el_R A p j p else ds_det p A))) = ds_det (p + 1) A * (ds_det p A * A i p - ds_sum p (fun l => A i l * el_R A p l p)) := by
      rw [ds_sum, if_neg (by omega)]
      have e3 : ds_sum p (fun j => A i j * (ds_det (p + 1) A * (if j < p then - el_R A p j p else ds_det p A))) = ds_sum p (fun j => (- ds_det (p + 1) A) * (A i j * el_R A p j p)) := ds_congr (fun j hj => by
        rw [if_pos hj]
        grind)
      rw [e3, ds_mul]
      grind
    rw [e1, e2]
    have e4 := el_I A p i p
    rcases Nat.lt_or_ge i p with g | g
    · rw [if_pos g] at e4
      rw [if_neg (by omega), e4]
      grind
    · have e5 : i = p := by omega
      subst e5
      rw [if_neg (by omega)] at e4
      rw [if_pos rfl, e4]
      grind) p (by omega)
  rw [if_neg (by omega), el_Cpp] at e
  exact (Int.eq_of_mul_eq_mul_right (el_D h p (by omega)) e).symm
theorem el_step {A : Nat → Nat → Int} {K : Nat} (h : el_inj A K) {p : Nat} (hp : p < K) (c : Nat) :
    el_R A (p + 1) p c = el_R A p p c ∧ ∀ r, r ≠ p → ds_det p A * el_R A (p + 1) r c = el_R A p p p * el_R A p r c - el_R A p r p * el_R A p p c := by
  have hD := el_D h p (by omega)
  have hpiv := el_piv h hp
  -- the system for Z
  have hZ : ∀ i, ds_sum (p + 1) (fun l => A i l * (if l = p then ds_det p A * el_R A p p c else el_R A p p p * el_R A p l c - el_R A p l p * el_R A p p c)) = ds_det p A * el_R A p p p * A i c - (if i ≤ p then 0 else el_R A p p p * el_R A p i c - el_R A p i p * el_R A p p c) := by
    intro i
    rw [ds_sum, if_pos rfl]
    have e1 : ds_sum p (fun l => A i l * (if l = p then ds_det p A * el_R A p p c else el_R A p p p * el_R A p l c - el_R A p l p * el_R A p p c)) = el_R A p p p * ds_sum p (fun l => A i l * el_R A p l c) - el_R A p p c * ds_sum p (fun l => A i l * el_R A p l p) := by
      rw [← ds_mul, ← ds_mul, ← ds_sub]
      exact ds_congr (fun l hl => by
        rw [if_neg (by omega)]
        grind)
    rw [e1]
    have i1 := el_I A p i c
    have i2 := el_I A p i p
    rcases Nat.lt_trichotomy i p with g | g | g
    · rw [if_pos g, Int.add_zero] at i1 i2
      rw [if_pos (by omega), ← i1, ← i2]
      grind
    · subst g
      rw [if_neg (by omega)] at i1 i2
      rw [if_pos (Nat.le_refl _)]
      grind
    · rw [if_neg (by omega)] at i1 i2
      rw [if_neg (by omega)]
      grind
  have hU := el_uniq h (p := p + 1) (by omega) (x := fun l => ds_det p A * el_R A (p + 1) l c) (y := fun l => if l = p then ds_det p A * el_R A p p c else el_R A p p p * el_R A p l c - el_R A p l p * el_R A p p c) (fun i hi => by
    rw [hZ i, if_pos (by omega), Int.sub_zero]
    have i3 := el_I A (p + 1) i c
    rw [if_pos hi, Int.add_zero, ← hpiv] at i3
    have e2 : ds_sum (p + 1) (fun j => A i j * (ds_det p A * el_R A (p + 1) j c)) = ds_det p A * ds_sum (p + 1) (fun l => A i l * el_R A (p + 1) l c) := by
      rw [← ds_mul]
      exact ds_congr (fun l _ => by grind)
    rw [e2, ← i3]
    grind)
  refine ⟨?_, ?_⟩
  · have e := hU p (by omega)
    rw [if_pos rfl] at e
    exact Int.eq_of_mul_eq_mul_left hD e
  · intro r hr
    rcases Nat.lt_or_ge r (p + 1) with g | g
    · have e := hU r g
      rw [if_neg hr] at e
      exact e
    · have i3 := el_I A (p + 1) r c
      rw [if_neg (by omega), ← hpiv] at i3
      have z := hZ r
      rw [if_neg (by omega)] at z
      have e2 : ds_sum (p + 1) (fun l => A r l * (if l = p then ds_det p A * el_R A p p c else el_R A p p p * el_R A p l c - el_R A p l p * el_R A p p c)) = ds_det p A * ds_sum (p + 1) (fun l => A r l * el_R A (p + 1) l c) := by
        rw [← ds_mul]
        exact ds_congr (fun l hl => by
          rw [← hU l hl]
          grind)
      rw [e2] at z
      grind
theorem el_last (A : Nat → Nat → Int) (K S c : Nat) (hS : S < K) (h : ∀ k, k < K → A k c = ds_e S k) (r : Nat) (hr : r < K) : el_R A K r c = ds_C K A S r := by
  unfold el_R el_y
  rw [if_pos hr]
  have e : ds_sum K (fun k => ds_C K A k r * A k c) = ds_sum K (fun k => ds_C K A k r * ds_e S k) := ds_congr (fun k hk => by rw [h k hk])
  rw [e, ds_sum_e2 (fun k => ds_C K A k r) S K, if_pos hS]
/-! how large -/
theorem ds_abs_le (f : Nat → Int) (g : Nat → Nat) : ∀ n, (∀ i, i < n → (f i).natAbs ≤ g i) → (ds_sum n f).natAbs ≤ (ds_sum n (fun i => (g i : Int))).natAbs ∧ 0 ≤ ds_sum n (fun i => (g i : Int))
  | 0, _ => ⟨Nat.le_refl _, Int.le_refl _⟩
  | n + 1, h => by
    obtain ⟨h1, h2⟩ := ds_abs_le f g n (fun i hi => h i (by omega))
    have h3 := h n (by omega)
    have e1 : ds_sum (n + 1) f = ds_sum n f + f n := rfl
    have e2 : ds_sum (n + 1) (fun i => (g i : Int)) = ds_sum n (fun i => (g i : Int)) + (g n : Int) := rfl
    rw [e1, e2]
    omega
def ds_l1 : Nat → (Nat → Int) → Nat
  | 0, _ => 0
  | n + 1, f => ds_l1 n f + (f n).natAbs
theorem ds_l1_mul (f g : Nat → Int) (B : Nat) : ∀ n, (∀ i, i < n → (f i).natAbs ≤ B) → (ds_sum n (fun i => f i * g i)).natAbs ≤ B * ds_l1 n g
  | 0, _ => Nat.zero_le _
  | n + 1, h => by
    have h1 := ds_l1_mul f g B n (fun i hi => h i (by omega))
    have h2 := h n (by omega)
    rw [ds_sum, ds_l1, Nat.mul_add]
    refine Nat.le_trans (Int.natAbs_add_le _ _) (Nat.add_le_add h1 ?_)
    rw [Int.natAbs_mul]
    exact Nat.mul_le_mul_right _ h2
theorem el_bound (A : Nat → Nat → Int) (p r c B Z : Nat) (hC : ∀ k l, k < p → l < p → (ds_C p A k l).natAbs ≤ B) (hD : (ds_det p A).natAbs ≤ B) (hcol : ds_l1 p (fun k => A k c) ≤ Z) (hrow : ds_l1 p (A r) ≤ Z) (hrc : (A r c).natAbs ≤ Z) : (el_R A p r c).natAbs ≤ B * Z + B * Z * Z := by
  have hy : ∀ l, l < p → (el_y A p l c).natAbs ≤ B * Z := fun l hl =>
    Nat.le_trans (ds_l1_mul (fun k => ds_C p A k l) (fun k => A k c) B p (fun k hk => hC k l hk hl)) (Nat.mul_le_mul_left B hcol)
  unfold el_R
  by_cases h : r < p
  · rw [if_pos h]
    exact Nat.le_trans (hy r h) (Nat.le_add_right _ _)
  · rw [if_neg h]
    have h2 : (ds_sum p (fun l => A r l * el_y A p l c)).natAbs ≤ B * Z * Z := by
      have e : ds_sum p (fun l => A r l * el_y A p l c) = ds_sum p (fun l => el_y A p l c * A r l) := ds_congr (fun l _ => Int.mul_comm _ _)
      rw [e]
      exact Nat.le_trans (ds_l1_mul (fun l => el_y A p l c) (A r) (B * Z) p hy) (Nat.mul_le_mul_left _ hrow)
    have h1 : (ds_det p A * A r c).natAbs ≤ B * Z := by
      rw [Int.natAbs_mul]
      exact Nat.mul_le_mul hD hrc
    omega

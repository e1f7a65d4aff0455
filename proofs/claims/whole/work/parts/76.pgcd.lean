/-! ===== PURE 16: common divisors ===== -/
theorem pg_toInt {x : Int} (h : x.natAbs < 2 ^ 62) : (Int64.ofInt x).toInt = x := Int64.toInt_ofInt_of_le (by omega) (by omega)
theorem pg_div {a b : Int} (ha : a.natAbs < 2 ^ 62) (hb : b.natAbs < 2 ^ 62) : Int64.ofInt a / Int64.ofInt b = Int64.ofInt (a.tdiv b) := by
  have e1 : Int64.minValue.toInt = -2 ^ 63 := by decide
  have e2 : Int64.maxValue.toInt = 2 ^ 63 - 1 := by decide
  exact (Int64.ofInt_tdiv (by omega) (by omega) (by omega) (by omega)).symm
theorem pg_mod {m k : Nat} (hm : m < 2 ^ 62) (hk : k < 2 ^ 62) : Int64.ofInt m - Int64.ofInt m / Int64.ofInt k * Int64.ofInt k = Int64.ofInt ((m % k : Nat) : Int) := by
  rw [pg_div (by omega) (by omega), ← Int64.ofInt_mul, ← Int64.ofInt_sub]
  congr 1
  rw [Int.tdiv_eq_ediv_of_nonneg (by omega)]
  have := Nat.div_add_mod m k
  have e : ((m : Int) / (k : Int)) * (k : Int) = ((m / k * k : Nat) : Int) := by simp
  rw [e, Nat.mul_comm]
  omega
theorem pg_nz {k : Nat} (hk : k < 2 ^ 62) : (Int64.ofInt k = 0) ↔ k = 0 := by
  constructor
  · intro h
    have e : (Int64.ofInt k).toInt = (0 : Int64).toInt := by rw [h]
    rw [pg_toInt (by omega)] at e
    have : (0 : Int64).toInt = 0 := by decide
    omega
  · intro h
    subst h
    decide
theorem pg_abs1 {x : Int} (h : x.natAbs < 2 ^ 62) : (if 0 < Int64.ofInt x then Int64.ofInt x else - Int64.ofInt x) = Int64.ofInt x.natAbs := by
  have e : (0 < Int64.ofInt x) ↔ 0 < x := by
    rw [Int64.lt_iff_toInt_lt, pg_toInt h]
    have : (0 : Int64).toInt = 0 := by decide
    rw [this]
  by_cases g : 0 < x
  · rw [if_pos (e.mpr g)]
    congr 1
    omega
  · rw [if_neg (fun q => g (e.mp q)), ← Int64.ofInt_neg]
    congr 1
    omega
theorem pg_abs2 {x : Int} (h : x.natAbs < 2 ^ 62) : (if 0 ≤ lg_cmp (Int64.ofInt x) 0 then Int64.ofInt x else - Int64.ofInt x) = Int64.ofInt x.natAbs := by
  have e : (0 ≤ lg_cmp (Int64.ofInt x) 0) ↔ 0 ≤ x := by
    rw [lg_cmp_ge, Int64.le_iff_toInt_le, pg_toInt h]
    have : (0 : Int64).toInt = 0 := by decide
    rw [this]
  by_cases g : 0 ≤ x
  · rw [if_pos (e.mpr g)]
    congr 1
    omega
  · rw [if_neg (fun q => g (e.mp q)), ← Int64.ofInt_neg]
    congr 1
    omega
/-- a step of Euclid halves the product -/
theorem pg_half {x y : Nat} (h : y < x) (hy : y ≠ 0) : x % y < y ∧ 2 * (y * (x % y)) ≤ x * y := by
  have h1 : x % y < y := Nat.mod_lt _ (by omega)
  refine ⟨h1, ?_⟩
  have h2 := Nat.div_add_mod x y
  have h3 : 1 ≤ x / y := Nat.div_pos (by omega) (by omega)
  have h4 : y * 1 ≤ y * (x / y) := Nat.mul_le_mul_left y h3
  have h5 : 2 * (x % y) ≤ x := by omega
  calc 2 * (y * (x % y)) = y * (2 * (x % y)) := by rw [Nat.mul_left_comm]
    _ ≤ y * x := Nat.mul_le_mul_left y h5
    _ = x * y := Nat.mul_comm _ _
def pg_I (g : Nat) (j x y : Nat) : Prop := Nat.gcd x y = g ∧ x < 2 ^ 32 ∧ y < 2 ^ 32 ∧ (j = 0 ∨ (1 ≤ j ∧ y < x ∧ x * y * 2 ^ (j - 1) < 2 ^ 64))
theorem pg_next {g j x y : Nat} (h : pg_I g j x y) (hy : y ≠ 0) (hj : j ≤ 80) : j < 80 ∧ pg_I g (j + 1) y (x % y) := by
  obtain ⟨h1, h2, h3, h4⟩ := h
  have hm : x % y < y := Nat.mod_lt _ (by omega)
  have hg : Nat.gcd y (x % y) = g := by rw [← h1, Nat.gcd_comm x y, Nat.gcd_rec y x, Nat.gcd_comm]
  rcases h4 with h4 | ⟨h40, h4, h5⟩
  · subst h4
    refine ⟨by omega, hg, h3, by omega, Or.inr ⟨by omega, hm, ?_⟩⟩
    rw [show 0 + 1 - 1 = 0 from rfl, Nat.pow_zero, Nat.mul_one]
    calc y * (x % y) ≤ y * 2 ^ 32 := Nat.mul_le_mul_left y (by omega)
      _ < 2 ^ 32 * 2 ^ 32 := Nat.mul_lt_mul_of_pos_right h3 (by decide)
      _ = 2 ^ 64 := by decide
  · obtain ⟨a1, a2⟩ := pg_half h4 hy
    have key : y * (x % y) * 2 ^ (j + 1 - 1) < 2 ^ 64 := by
      have e : 2 ^ (j + 1 - 1) = 2 * 2 ^ (j - 1) := by
        rw [show j + 1 - 1 = j - 1 + 1 by omega, Nat.pow_succ, Nat.mul_comm]
      rw [e]
      calc y * (x % y) * (2 * 2 ^ (j - 1)) = 2 * (y * (x % y)) * 2 ^ (j - 1) := by grind
        _ ≤ x * y * 2 ^ (j - 1) := Nat.mul_le_mul_right _ a2
        _ < 2 ^ 64 := h5
    refine ⟨?_, hg, h3, by omega, Or.inr ⟨by omega, a1, key⟩⟩
    rcases Nat.lt_or_ge j 80 with q | q
    · exact q
    · have e80 : j = 80 := by omega
      subst e80
      have : 1 ≤ x * y := Nat.mul_pos (by omega) (by omega)
      have : 1 * 2 ^ (80 - 1) ≤ x * y * 2 ^ (80 - 1) := Nat.mul_le_mul_right _ this
      have : (1 : Nat) * 2 ^ (80 - 1) < 2 ^ 64 := Nat.lt_of_le_of_lt this h5
      exact absurd this (by decide)
theorem pg_cls {x y : Int} (hx : x.natAbs < 2 ^ 32) (hy : y.natAbs < 2 ^ 32) : fX1_commonDivisor (Int64.ofInt x) (Int64.ofInt y) = some (Int64.ofInt (Int.gcd x y)) := by
  obtain ⟨r, h1, h2⟩ := pz_fin (body := bX1_commonDivisor_15) (fun j st => ∃ p q : Nat, st = (Int64.ofInt p, Int64.ofInt q, nI j) ∧ pg_I (Int.gcd x y) j p q) (fun r => r = Int64.ofInt (Int.gcd x y)) 80 (by
    rintro j st hj ⟨p, q, rfl, hI⟩
    unfold bX1_commonDivisor_15
    dsimp only
    rw [if_neg (show ¬ (100 : Int32) ≤ nI j from nI_ge (b := 100) (by omega) (by omega))]
    by_cases g : q = 0
    · left
      refine ⟨_, ?_, rfl⟩
      rw [if_pos ((lg_cmp_eq _ _).mpr ((pg_nz (by have := hI.2.2.1; omega)).mpr g))]
      have := hI.1
      rw [g, Nat.gcd_zero_right] at this
      rw [this]
    · right
      obtain ⟨k1, k2⟩ := pg_next hI g hj
      have hq := hI.2.2.1
      have hp := hI.2.1
      refine ⟨k1, (Int64.ofInt q, Int64.ofInt ((p % q : Nat) : Int), nI (j + 1)), ?_, q, p % q, rfl, k2⟩
      rw [if_neg (fun z => g ((pg_nz (by omega)).mp ((lg_cmp_eq _ _).mp z))), pz_gd (show dk_nz (Int64.ofInt q) = true from decide_eq_true (fun z => g ((pg_nz (by omega)).mp z))), pz_let, pz_let, pg_mod (by omega) (by omega), nI_1]) 1000 0 (Int64.ofInt x.natAbs, Int64.ofInt y.natAbs, 0) (by omega) ⟨x.natAbs, y.natAbs, rfl, rfl, hx, hy, Or.inl rfl⟩ (by omega)
  unfold fX1_commonDivisor
  rw [pz_let, pz_let, pg_abs1 (by omega), pg_abs1 (by omega), h1, pz_bs, h2]
theorem pg_ref {x y : Int} (hx : x.natAbs < 2 ^ 32) (hy : y.natAbs < 2 ^ 32) : fX7_common (Int64.ofInt x) (Int64.ofInt y) = some (Int64.ofInt (Int.gcd x y)) := by
  obtain ⟨r, h1, h2⟩ := pz_fin (body := bX7_common_28) (fun j st => ∃ p q : Nat, st = (Int64.ofInt p, Int64.ofInt q) ∧ pg_I (Int.gcd x y) j p q) (fun r => r = Int64.ofInt (Int.gcd x y)) 80 (by
    rintro j st hj ⟨p, q, rfl, hI⟩
    unfold bX7_common_28
    dsimp only
    by_cases g : q = 0
    · left
      refine ⟨_, ?_, rfl⟩
      rw [if_pos ((lg_cmp_eq _ _).mpr ((pg_nz (by have := hI.2.2.1; omega)).mpr g))]
      have := hI.1
      rw [g, Nat.gcd_zero_right] at this
      rw [this]
    · right
      obtain ⟨k1, k2⟩ := pg_next hI g hj
      have hq := hI.2.2.1
      have hp := hI.2.1
      refine ⟨k1, (Int64.ofInt q, Int64.ofInt ((p % q : Nat) : Int)), ?_, q, p % q, rfl, k2⟩
      rw [if_neg (fun z => g ((pg_nz (by omega)).mp ((lg_cmp_eq _ _).mp z))), pz_gd (show dk_nz (Int64.ofInt q) = true from decide_eq_true (fun z => g ((pg_nz (by omega)).mp z))), pz_let, pg_mod (by omega) (by omega)]) 1000 0 (Int64.ofInt x.natAbs, Int64.ofInt y.natAbs) (by omega) ⟨x.natAbs, y.natAbs, rfl, rfl, hx, hy, Or.inl rfl⟩ (by omega)
  have e26 : jX7_common_26 (Int64.ofInt x.natAbs) (Int64.ofInt y.natAbs) = some (Int64.ofInt (Int.gcd x y)) := by
    unfold jX7_common_26
    rw [h1, pz_bs, h2]
  have e12 : jX7_common_12 (Int64.ofInt y) (Int64.ofInt x.natAbs) = some (Int64.ofInt (Int.gcd x y)) := by
    have a := pg_abs2 (x := y) (by omega)
    unfold jX7_common_12
    by_cases g : 0 ≤ lg_cmp (Int64.ofInt y) 0
    · rw [if_pos g] at a ⊢
      rw [a]; exact e26
    · rw [if_neg g] at a ⊢
      rw [a]; exact e26
  have a := pg_abs2 (x := x) (by omega)
  unfold fX7_common
  by_cases g : 0 ≤ lg_cmp (Int64.ofInt x) 0
  · rw [if_pos g] at a ⊢
    rw [a]; exact e12
  · rw [if_neg g] at a ⊢
    rw [a]; exact e12
theorem pg_le {x y : Int} {B : Nat} (hx : x.natAbs < B) (hy : y.natAbs < B) : Int.gcd x y < B := by
  by_cases h : x.natAbs = 0
  · have : Int.gcd x y = y.natAbs := by
      show Nat.gcd x.natAbs y.natAbs = _
      rw [h, Nat.gcd_zero_left]
    omega
  · have : Nat.gcd x.natAbs y.natAbs ≤ x.natAbs := Nat.gcd_le_left _ (by omega)
    show Nat.gcd x.natAbs y.natAbs < B
    omega

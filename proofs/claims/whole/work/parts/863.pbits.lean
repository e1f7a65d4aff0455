/-! ===== BITS: how many are set ===== -/
theorem bc_and (q m r k : Nat) (hr : r < 16) (hk : k < 16) : (16 * q + r) &&& (16 * m + k) = 16 * (q &&& m) + (r &&& k) := by
  have e : ∀ a b : Nat, b < 16 → 16 * a + b = a <<< 4 ||| b := fun a b hb => by
    have t : 2 ^ 4 * a + b = 2 ^ 4 * a ||| b := Nat.two_pow_add_eq_or_of_lt (i := 4) hb a
    rw [Nat.shiftLeft_eq, Nat.mul_comm a, ← t]
  have hl : r &&& k < 16 := Nat.lt_of_le_of_lt Nat.and_le_left hr
  rw [e q r hr, e m k hk, e _ _ hl]
  apply Nat.eq_of_testBit_eq
  intro i
  simp only [Nat.testBit_and, Nat.testBit_or, Nat.testBit_shiftLeft]
  by_cases h : 4 ≤ i
  · have a1 : r.testBit i = false := Nat.testBit_lt_two_pow (Nat.lt_of_lt_of_le hr (Nat.pow_le_pow_right (n := 2) (by decide) h))
    have a2 : k.testBit i = false := Nat.testBit_lt_two_pow (Nat.lt_of_lt_of_le hk (Nat.pow_le_pow_right (n := 2) (by decide) h))
    simp [h, a1, a2]
  · simp [h]
/-- hex digits -/
def bc_v : Nat → (Nat → Nat) → Nat
  | 0, _ => 0
  | n + 1, d => 16 * bc_v n (fun i => d (i + 1)) + d 0
def bc_m (c : Nat) : Nat → Nat
  | 0 => 0
  | n + 1 => 16 * bc_m c n + c
def bc_a (r : Nat) : Nat := r - ((r / 2) &&& 5)
def bc_b (r : Nat) : Nat := (r &&& 3) + ((r / 4) &&& 3)
theorem bc_d1 : ∀ e, e < 2 → ∀ r, r < 16 → ((8 * e + r / 2) &&& 5) = ((r / 2) &&& 5) ∧ ((r / 2) &&& 5) ≤ r := by decide
theorem bc_d2 : ∀ e, e < 4 → ∀ r, r < 16 → ((4 * e + r / 4) &&& 3) = ((r / 4) &&& 3) := by decide
theorem bc_pc : ∀ r, r < 16 → bc_b (bc_a r) = r % 2 + r / 2 % 2 + r / 4 % 2 + r / 8 % 2 ∧ bc_a r < 16 := by decide
theorem bc_s1 : ∀ (n : Nat) (d : Nat → Nat), (∀ i, d i < 16) → (bc_v n d / 2 &&& bc_m 5 n) ≤ bc_v n d ∧ bc_v n d - (bc_v n d / 2 &&& bc_m 5 n) = bc_v n (fun i => bc_a (d i))
  | 0, d, _ => ⟨by rw [show bc_v 0 d = 0 from rfl]; decide, by rw [show bc_v 0 d = 0 from rfl]; rfl⟩
  | n + 1, d, h => by
    obtain ⟨i1, i2⟩ := bc_s1 n (fun i => d (i + 1)) (fun i => h (i + 1))
    have h0 := h 0
    have e : bc_v (n + 1) d / 2 = 16 * (bc_v n (fun i => d (i + 1)) / 2) + (8 * (bc_v n (fun i => d (i + 1)) % 2) + d 0 / 2) := by
      rw [bc_v]
      omega
    have q := bc_d1 (bc_v n (fun i => d (i + 1)) % 2) (Nat.mod_lt _ (by decide)) (d 0) h0
    have hm : bc_m 5 (n + 1) = 16 * bc_m 5 n + 5 := rfl
    have e2 : (bc_v (n + 1) d / 2 &&& bc_m 5 (n + 1)) = 16 * (bc_v n (fun i => d (i + 1)) / 2 &&& bc_m 5 n) + ((d 0 / 2) &&& 5) := by
      rw [e, hm, bc_and _ _ _ _ (by omega) (by decide), q.1]
    have e3 : bc_v (n + 1) (fun i => bc_a (d i)) = 16 * bc_v n (fun i => bc_a (d (i + 1))) + bc_a (d 0) := rfl
    have e4 : bc_v (n + 1) d = 16 * bc_v n (fun i => d (i + 1)) + d 0 := rfl
    have q2 := q.2
    rw [e2, e3, e4, ← i2]
    unfold bc_a
    omega
theorem bc_s2 : ∀ (n : Nat) (d : Nat → Nat), (∀ i, d i < 16) → (bc_v n d &&& bc_m 3 n) + (bc_v n d / 4 &&& bc_m 3 n) = bc_v n (fun i => bc_b (d i))
  | 0, d, _ => by rw [show bc_v 0 d = 0 from rfl]; rfl
  | n + 1, d, h => by
    have ih := bc_s2 n (fun i => d (i + 1)) (fun i => h (i + 1))
    have h0 := h 0
    have e : bc_v (n + 1) d / 4 = 16 * (bc_v n (fun i => d (i + 1)) / 4) + (4 * (bc_v n (fun i => d (i + 1)) % 4) + d 0 / 4) := by
      rw [bc_v]
      omega
    have q := bc_d2 (bc_v n (fun i => d (i + 1)) % 4) (Nat.mod_lt _ (by decide)) (d 0) h0
    have hm : bc_m 3 (n + 1) = 16 * bc_m 3 n + 3 := rfl
    have e4 : bc_v (n + 1) d = 16 * bc_v n (fun i => d (i + 1)) + d 0 := rfl
    have e5 : bc_v (n + 1) (fun i => bc_b (d i)) = 16 * bc_v n (fun i => bc_b (d (i + 1))) + bc_b (d 0) := rfl
    rw [e, hm, bc_and _ _ _ _ (by omega) (by decide), q, e4, bc_and _ _ _ _ h0 (by decide), e5, ← ih]
    unfold bc_b
    omega
theorem bc_dig : ∀ (n X : Nat), X < 16 ^ n → bc_v n (fun i => X / 16 ^ i % 16) = X
  | 0, X, h => by
    have : X = 0 := by
      rw [Nat.pow_zero] at h
      omega
    rw [this]
    rfl
  | n + 1, X, h => by
    rw [bc_v]
    have e : (fun i => X / 16 ^ (i + 1) % 16) = (fun i => (X / 16) / 16 ^ i % 16) := by
      funext i
      rw [Nat.pow_succ, Nat.mul_comm, Nat.div_div_eq_div_mul]
    have hX : X / 16 < 16 ^ n := by
      rw [Nat.div_lt_iff_lt_mul (by decide), ← Nat.pow_succ]
      exact h
    rw [e, bc_dig n (X / 16) hX, Nat.pow_zero, Nat.div_one]
    omega
/-- the bits of X below k -/
def bc_n (X : Nat) : Nat → Nat
  | 0 => 0
  | k + 1 => bc_n X k + X / 2 ^ k % 2
def bc_p (r : Nat) : Nat := r % 2 + r / 2 % 2 + r / 4 % 2 + r / 8 % 2
def bc_t (d : Nat → Nat) : Nat → Nat
  | 0 => 0
  | n + 1 => bc_t d n + d n
theorem bc_n4 (X : Nat) : ∀ n, bc_n X (4 * n) = bc_t (fun i => bc_p (X / 16 ^ i % 16)) n
  | 0 => rfl
  | n + 1 => by
    rw [show 4 * (n + 1) = 4 * n + 1 + 1 + 1 + 1 by omega, bc_n, bc_n, bc_n, bc_n, bc_n4 X n, bc_t]
    have e : ∀ j, X / 2 ^ (4 * n + j) = X / 16 ^ n / 2 ^ j := fun j => by
      rw [Nat.pow_add, Nat.pow_mul, ← Nat.div_div_eq_div_mul]
    have e0 := e 0
    have e1 := e 1
    have e2 := e 2
    have e3 := e 3
    rw [Nat.add_zero] at e0
    rw [e0, e1, show 4 * n + 1 + 1 = 4 * n + 2 by omega, e2, show 4 * n + 2 + 1 = 4 * n + 3 by omega, e3]
    unfold bc_p
    generalize X / 16 ^ n = Y
    have k1 : (2 : Nat) ^ 1 = 2 := by decide
    have k2 : (2 : Nat) ^ 2 = 4 := by decide
    have k3 : (2 : Nat) ^ 3 = 8 := by decide
    rw [Nat.pow_zero, k1, k2, k3, Nat.div_one]
    omega
theorem bc_all (X : Nat) (hX : X < 2 ^ 32) : 
    let x1 := X - (X / 2 &&& 1431655765)
    let x2 := (x1 &&& 858993459) + (x1 / 4 &&& 858993459)
    let x3 := (x2 + x2 / 16) &&& 252645135
    let x4 := x3 + x3 / 256
    let x5 := x4 + x4 / 65536
    (X / 2 &&& 1431655765) ≤ X ∧ x2 < 2 ^ 32 ∧ x2 + x2 / 16 < 2 ^ 32 ∧ x4 < 2 ^ 32 ∧ x5 < 2 ^ 32 ∧ x5 % 64 = bc_n X 32 := by
  have hd : ∀ i, (fun i => X / 16 ^ i % 16) i < 16 := fun i => Nat.mod_lt _ (by decide)
  have v := bc_dig 8 X (by rw [show (16 : Nat) ^ 8 = 2 ^ 32 by decide]; exact hX)
  obtain ⟨s1, s2⟩ := bc_s1 8 (fun i => X / 16 ^ i % 16) hd
  have m5 : bc_m 5 8 = 1431655765 := by decide
  have m3 : bc_m 3 8 = 858993459 := by decide
  rw [v, m5] at s1 s2
  have s3 := bc_s2 8 (fun i => bc_a (X / 16 ^ i % 16)) (fun i => (bc_pc _ (hd i)).2)
  rw [m3, ← s2] at s3
  have ed : (fun i => bc_b (bc_a (X / 16 ^ i % 16))) = (fun i => bc_p (X / 16 ^ i % 16)) := by
    funext i
    exact (bc_pc _ (hd i)).1
  rw [ed] at s3
  have n4 := bc_n4 X 8
  have pl : ∀ r, r < 16 → bc_p r ≤ 4 := by decide
  have p0 := pl _ (hd 0)
  have p1 := pl _ (hd 1)
  have p2 := pl _ (hd 2)
  have p3 := pl _ (hd 3)
  have p4 := pl _ (hd 4)
  have p5 := pl _ (hd 5)
  have p6 := pl _ (hd 6)
  have p7 := pl _ (hd 7)
  dsimp only at p0 p1 p2 p3 p4 p5 p6 p7
  rw [show 4 * 8 = 32 by decide] at n4
  simp only [bc_t, Nat.zero_add] at n4
  simp only [bc_v, Nat.zero_add, Nat.reduceAdd] at s3
  dsimp only
  rw [s3, n4]
  generalize bc_p (X / 16 ^ 0 % 16) = q0 at *
  generalize bc_p (X / 16 ^ 1 % 16) = q1 at *
  generalize bc_p (X / 16 ^ 2 % 16) = q2 at *
  generalize bc_p (X / 16 ^ 3 % 16) = q3 at *
  generalize bc_p (X / 16 ^ 4 % 16) = q4 at *
  generalize bc_p (X / 16 ^ 5 % 16) = q5 at *
  generalize bc_p (X / 16 ^ 6 % 16) = q6 at *
  generalize bc_p (X / 16 ^ 7 % 16) = q7 at *
  have an : ∀ c0 c1 c2 c3 c4 c5 c6 c7 : Nat, c0 < 16 → c1 < 16 → c2 < 16 → c3 < 16 → c4 < 16 → c5 < 16 → c6 < 16 → c7 < 16 → ((16 * (16 * (16 * (16 * (16 * (16 * (16 * c7 + c6) + c5) + c4) + c3) + c2) + c1) + c0) &&& 252645135) = c0 + 256 * c2 + 65536 * c4 + 16777216 * c6 := by
    intro c0 c1 c2 c3 c4 c5 c6 c7 h0 h1 h2 h3 h4 h5 h6 h7
    have f15 : ∀ c, c < 16 → c &&& 15 = c := by decide
    rw [show 252645135 = 16 * (16 * (16 * (16 * (16 * (16 * (16 * 0 + 15) + 0) + 15) + 0) + 15) + 0) + 15 by decide]
    rw [bc_and _ _ _ _ h0 (by decide), bc_and _ _ _ _ h1 (by decide), bc_and _ _ _ _ h2 (by decide), bc_and _ _ _ _ h3 (by decide), bc_and _ _ _ _ h4 (by decide), bc_and _ _ _ _ h5 (by decide), bc_and _ _ _ _ h6 (by decide), f15 _ h0, f15 _ h2, f15 _ h4, f15 _ h6, Nat.and_zero, Nat.and_zero, Nat.and_zero, Nat.and_zero]
    omega
  have hs : (16 * (16 * (16 * (16 * (16 * (16 * (16 * (16 * 0 + q7) + q6) + q5) + q4) + q3) + q2) + q1) + q0) + (16 * (16 * (16 * (16 * (16 * (16 * (16 * (16 * 0 + q7) + q6) + q5) + q4) + q3) + q2) + q1) + q0) / 16 = 16 * (16 * (16 * (16 * (16 * (16 * (16 * q7 + (q6 + q7)) + (q5 + q6)) + (q4 + q5)) + (q3 + q4)) + (q2 + q3)) + (q1 + q2)) + (q0 + q1) := by omega
  have fin : ∀ t0 t1 t2 t3 : Nat, t0 ≤ 8 → t1 ≤ 8 → t2 ≤ 8 → t3 ≤ 8 → (t0 + 256 * t1 + 65536 * t2 + 16777216 * t3) / 256 = t1 + 256 * t2 + 65536 * t3 ∧ ((t0 + t1) + 256 * (t1 + t2) + 65536 * (t2 + t3) + 16777216 * t3) / 65536 = t2 + t3 + 256 * t3 := by
    intro t0 t1 t2 t3 h0 h1 h2 h3
    constructor
    · omega
    · omega
  have b2 : 16 * (16 * (16 * (16 * (16 * (16 * (16 * (16 * 0 + q7) + q6) + q5) + q4) + q3) + q2) + q1) + q0 < 2 ^ 32 := by omega
  have b3 : 16 * (16 * (16 * (16 * (16 * (16 * (16 * q7 + (q6 + q7)) + (q5 + q6)) + (q4 + q5)) + (q3 + q4)) + (q2 + q3)) + (q1 + q2)) + (q0 + q1) < 2 ^ 32 := by omega
  rw [hs, an _ _ _ _ _ _ _ _ (by omega) (by omega) (by omega) (by omega) (by omega) (by omega) (by omega) (by omega)]
  refine ⟨s1, b2, b3, ?_⟩
  have r1 : q0 + q1 ≤ 8 := by omega
  have r2 : q2 + q3 ≤ 8 := by omega
  have r3 : q4 + q5 ≤ 8 := by omega
  have r4 : q6 + q7 ≤ 8 := by omega
  have tot : q0 + q1 + q2 + q3 + q4 + q5 + q6 + q7 = (q0 + q1) + (q2 + q3) + (q4 + q5) + (q6 + q7) := by omega
  rw [tot]
  generalize q0 + q1 = t0 at r1 ⊢
  generalize q2 + q3 = t1 at r2 ⊢
  generalize q4 + q5 = t2 at r3 ⊢
  generalize q6 + q7 = t3 at r4 ⊢
  obtain ⟨f1, f2⟩ := fin t0 t1 t2 t3 r1 r2 r3 r4
  have g1 : t0 + 256 * t1 + 65536 * t2 + 16777216 * t3 + (t1 + 256 * t2 + 65536 * t3) = (t0 + t1) + 256 * (t1 + t2) + 65536 * (t2 + t3) + 16777216 * t3 := by omega
  rw [f1, g1, f2]
  clear f1 f2 g1 fin hs an
  refine ⟨by omega, by omega, ?_⟩
  have : t0 + t1 + 256 * (t1 + t2) + 65536 * (t2 + t3) + 16777216 * t3 + (t2 + t3 + 256 * t3) = 64 * (4 * (t1 + t2 + t3) + 1024 * (t2 + t3) + 262144 * t3) + (t0 + t1 + t2 + t3) := by omega
  rw [this, Nat.mul_add_mod]
  exact Nat.mod_eq_of_lt (by omega)
def bn (x : Int32) : Nat := x.toBitVec.toNat
theorem bn_lt (x : Int32) : bn x < 2 ^ 32 := x.toBitVec.isLt
theorem bn_inj {x y : Int32} (h : bn x = bn y) : x = y := Int32.toBitVec_inj.mp (BitVec.eq_of_toNat_eq h)
theorem bn_sub {x y : Int32} (h : bn y ≤ bn x) : bn (x - y) = bn x - bn y := by
  unfold bn at *
  rw [Int32.toBitVec_sub, BitVec.toNat_sub_of_le (BitVec.le_def.mpr h)]
theorem bn_add {x y : Int32} (h : bn x + bn y < 2 ^ 32) : bn (x + y) = bn x + bn y := by
  unfold bn at *
  rw [Int32.toBitVec_add, BitVec.toNat_add_of_lt h]
theorem bn_and (x y : Int32) : bn (x &&& y) = bn x &&& bn y := by
  unfold bn
  rw [Int32.toBitVec_and, BitVec.toNat_and]
theorem bn_shr (x : Int32) (c : Int32) (k : Nat) (hc : ((c.toUInt32 &&& Int32.toUInt32 31).toBitVec % 32).toNat = k) : bn ((x.toUInt32 >>> (c.toUInt32 &&& Int32.toUInt32 31)).toInt32) = bn x / 2 ^ k := by
  unfold bn
  have e : ((x.toUInt32 >>> (c.toUInt32 &&& Int32.toUInt32 31)).toInt32).toBitVec = (x.toUInt32 >>> (c.toUInt32 &&& Int32.toUInt32 31)).toBitVec := rfl
  rw [e, UInt32.toBitVec_shiftRight, BitVec.ushiftRight_eq', BitVec.toNat_ushiftRight, hc, Nat.shiftRight_eq_div_pow]
  rfl
theorem bt_bn (m : Int32) (k : Nat) : bt m k = decide (bn m / 2 ^ k % 2 = 1) := by
  unfold bt bn
  rw [BitVec.getLsbD, Nat.testBit_eq_decide_div_mod_eq]
theorem bc_cnt (m : Int32) : ∀ k, ds_cnt k (bt m) = bc_n (bn m) k
  | 0 => rfl
  | k + 1 => by
    rw [ds_cnt, bc_n, bc_cnt m k, bt_bn]
    by_cases h : bn m / 2 ^ k % 2 = 1
    · rw [decide_eq_true h, if_pos rfl, h]
    · rw [decide_eq_false h]
      have := Nat.mod_lt (bn m / 2 ^ k) (show 2 > 0 by decide)
      have e : bn m / 2 ^ k % 2 = 0 := by omega
      rw [e]
      rfl
theorem bc_bitCount (m : Int32) : fJ6_bitCount_0f7a4 m = some (nI (ds_cnt 32 (bt m))) := by
  obtain ⟨a1, a2, a3, a4, a5, a6⟩ := bc_all (bn m) (bn_lt m)
  unfold fJ6_bitCount_0f7a4
  simp only [pz_let]
  congr 1
  apply bn_inj
  have k1 : bn (1431655765 : Int32) = 1431655765 := by decide
  have k2 : bn (858993459 : Int32) = 858993459 := by decide
  have k3 : bn (252645135 : Int32) = 252645135 := by decide
  have k4 : bn (63 : Int32) = 63 := by decide
  have h1 := bn_shr m 1 1 (by decide)
  have e1 : bn (m - (((m.toUInt32 >>> ((1 : Int32).toUInt32 &&& Int32.toUInt32 31)).toInt32) &&& 1431655765)) = bn m - (bn m / 2 &&& 1431655765) := by
    rw [bn_sub (by rw [bn_and, h1, k1]; exact a1), bn_and, h1, k1]
  generalize (m - (((m.toUInt32 >>> ((1 : Int32).toUInt32 &&& Int32.toUInt32 31)).toInt32) &&& 1431655765)) = x1 at e1 ⊢
  have h2 := bn_shr x1 2 2 (by decide)
  have e2 : bn ((x1 &&& 858993459) + (((x1.toUInt32 >>> ((2 : Int32).toUInt32 &&& Int32.toUInt32 31)).toInt32) &&& 858993459)) = (bn x1 &&& 858993459) + (bn x1 / 4 &&& 858993459) := by
    rw [bn_add (by rw [bn_and, bn_and, h2, k2, e1]; exact a2), bn_and, bn_and, h2, k2]
  generalize ((x1 &&& 858993459) + (((x1.toUInt32 >>> ((2 : Int32).toUInt32 &&& Int32.toUInt32 31)).toInt32) &&& 858993459)) = x2 at e2 ⊢
  rw [e1] at e2
  have h3 := bn_shr x2 4 4 (by decide)
  have e3 : bn ((x2 + ((x2.toUInt32 >>> ((4 : Int32).toUInt32 &&& Int32.toUInt32 31)).toInt32)) &&& 252645135) = (bn x2 + bn x2 / 16) &&& 252645135 := by
    rw [bn_and, bn_add (by rw [h3, e2]; exact a3), h3, k3]
  generalize ((x2 + ((x2.toUInt32 >>> ((4 : Int32).toUInt32 &&& Int32.toUInt32 31)).toInt32)) &&& 252645135) = x3 at e3 ⊢
  rw [e2] at e3
  have h4 := bn_shr x3 8 8 (by decide)
  have e4 : bn (x3 + ((x3.toUInt32 >>> ((8 : Int32).toUInt32 &&& Int32.toUInt32 31)).toInt32)) = bn x3 + bn x3 / 256 := by
    rw [bn_add (by rw [h4, e3]; exact a4), h4]
  generalize (x3 + ((x3.toUInt32 >>> ((8 : Int32).toUInt32 &&& Int32.toUInt32 31)).toInt32)) = x4 at e4 ⊢
  rw [e3] at e4
  have h5 := bn_shr x4 16 16 (by decide)
  have e5 : bn (x4 + ((x4.toUInt32 >>> ((16 : Int32).toUInt32 &&& Int32.toUInt32 31)).toInt32)) = bn x4 + bn x4 / 65536 := by
    rw [bn_add (by rw [h5, e4]; exact a5), h5]
  generalize (x4 + ((x4.toUInt32 >>> ((16 : Int32).toUInt32 &&& Int32.toUInt32 31)).toInt32)) = x5 at e5 ⊢
  rw [e4] at e5
  rw [bn_and, k4, e5, show (63 : Nat) = 2 ^ 6 - 1 by decide, Nat.and_two_pow_sub_one_eq_mod, show (2 : Nat) ^ 6 = 64 by decide, a6, ← bc_cnt]
  have le := ds_cnt_le (bt m) 32
  have : ∀ k, k ≤ 32 → bn (nI k) = k := by
    intro k hk
    have : ∀ k, k < 33 → bn (nI k) = k := by decide
    exact this k (by omega)
  rw [this _ le]
theorem bt_pe2 : ∀ k, k < 31 → ∀ j, j < 32 → bt (pe k) j = decide (j = k) := by decide
theorem bt_pe3 {k : Nat} (hk : k < 31) (j : Nat) : bt (pe k) j = decide (j = k) := by
  rcases Nat.lt_or_ge j 32 with h | h
  · exact bt_pe2 k hk j h
  · rw [bt_hi _ h, decide_eq_false (by omega)]
theorem bt_shr2 (x : Int32) {k : Nat} (h : k < 31) : (x >>> (nI k &&& 31)) &&& 1 = if bt x k then 1 else 0 := by
  rw [bt_one]
  have q : bt (x >>> (nI k &&& 31)) 0 = bt x k := by
    unfold bt
    rw [Int32.toBitVec_shiftRight]
    have e : ((nI k &&& 31).toBitVec.smod 32).toNat = k := by
      have : ∀ k, k < 31 → ((nI k &&& 31).toBitVec.smod 32).toNat = k := by decide
      exact this k h
    rw [BitVec.sshiftRight_eq', e, BitVec.getLsbD_sshiftRight]
    simp
    omega
  rw [q]
theorem bc_ones {n : Nat} (hn : n ≤ 22) (m : Int32) : fX7_ones (nI n) m = some (nI (ds_cnt n (bt m))) := by
  obtain ⟨r, l1, l2⟩ := pz_fin (body := bX7_ones_4 (nI n) m) (fun j st => st = (nI (ds_cnt j (bt m)), nI j)) (fun r => r = nI (ds_cnt n (bt m))) n (by
    rintro j st hj rfl
    unfold bX7_ones_4
    dsimp only
    rcases Nat.lt_or_ge j n with q | q
    · right
      refine ⟨q, _, ?_, rfl⟩
      rw [if_neg (nI_ge q (by omega)), pz_let, pz_let, bt_shr2 m (by omega), nI_1]
      have e : nI (ds_cnt j (bt m)) + (if bt m j = true then (1 : Int32) else 0) = nI (ds_cnt (j + 1) (bt m)) := by
        rw [ds_cnt]
        by_cases g : bt m j = true
        · rw [if_pos g, if_pos g, nI_1]
        · rw [if_neg g, if_neg g, Int32.add_zero]
          rfl
      rw [e]
    · left
      have e : j = n := by omega
      subst e
      exact ⟨_, by rw [if_pos (nI_le (Nat.le_refl _) (by omega))], rfl⟩) 1000 0 (0, 0) (by omega) rfl (by omega)
  unfold fX7_ones
  rw [l1, l2]
  rfl

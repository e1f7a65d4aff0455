/-! ===== NET: the matrix of a net, as numbers ===== -/
/-- what wire w says of knot c -/
def fl_v (a b : Nat → Nat) (pl : Nat → Bool) (w c : Nat) : Int := if pl w then ds_i c (a w) - ds_i c (b w) else 0
def fl_lp (n : Nat) (a b : Nat → Nat) (pl : Nat → Bool) (i j : Nat) : Int := ds_sum n (fun w => (ds_i i (a w) - ds_i i (b w)) * fl_v a b pl w j)
def fl_A (K n G S : Nat) (a b : Nat → Nat) (pl : Nat → Bool) (i j : Nat) : Int := if j = K then ds_e S i else if i = G ∨ j = G then ds_i i j else fl_lp n a b pl i j
theorem fl_lpS (n : Nat) (a b : Nat → Nat) (pl : Nat → Bool) (i j : Nat) : fl_lp (n + 1) a b pl i j = fl_lp n a b pl i j + (ds_i i (a n) - ds_i i (b n)) * fl_v a b pl n j := rfl
theorem fl_i1 (c p : Nat) : ds_i c p = 0 ∨ ds_i c p = 1 := by
  by_cases h : c = p
  · right; rw [h, ds_i1]
  · left; exact ds_i0 h
theorem fl_lp_le (a b : Nat → Nat) (pl : Nat → Bool) (i j : Nat) : ∀ n, (fl_lp n a b pl i j).natAbs ≤ n
  | 0 => Nat.le_refl _
  | n + 1 => by
    rw [fl_lpS]
    have h := fl_lp_le a b pl i j n
    have h2 : ((ds_i i (a n) - ds_i i (b n)) * fl_v a b pl n j).natAbs ≤ 1 := by
      unfold fl_v
      by_cases g : pl n = true
      · rw [if_pos g]
        rcases fl_i1 i (a n) with q1 | q1 <;> rcases fl_i1 i (b n) with q2 | q2 <;> rcases fl_i1 j (a n) with q3 | q3 <;> rcases fl_i1 j (b n) with q4 | q4 <;> rw [q1, q2, q3, q4] <;> decide
      · rw [if_neg g, Int.mul_zero]
        decide
    omega
theorem fl_lp_out {n : Nat} {a b : Nat → Nat} {pl : Nat → Bool} {K : Nat} (h : ∀ w, w < n → a w < K ∧ b w < K) (i : Nat) {j : Nat} (hj : K ≤ j) : ∀ m, m ≤ n → fl_lp m a b pl i j = 0
  | 0, _ => rfl
  | m + 1, hm => by
    rw [fl_lpS, fl_lp_out h i hj m (by omega)]
    unfold fl_v
    obtain ⟨h1, h2⟩ := h m (by omega)
    rw [ds_i0 (show j ≠ a m by omega), ds_i0 (show j ≠ b m by omega), Int.sub_self, ite_self, Int.mul_zero]
    rfl
theorem ds_X_o {n : Nat} {a b : Nat → Nat} {v : Nat → Nat → Int} {O : Nat → Bool} {C : Nat → Nat → Int} {i c : Nat} (h : O i = true) : ds_X n a b v O C i c = ds_sum n (fun w => (ds_i i (a w) - ds_i i (b w)) * v w c) := by unfold ds_X; rw [if_pos h]
theorem ds_X_c {n : Nat} {a b : Nat → Nat} {v : Nat → Nat → Int} {O : Nat → Bool} {C : Nat → Nat → Int} {i c : Nat} (h : O i = false) : ds_X n a b v O C i c = C i c := by unfold ds_X; rw [h]; rfl
section
variable {K n G S : Nat} {a b : Nat → Nat} {pl : Nat → Bool}
theorem fl_A_le (hn : n ≤ 22) (i j : Nat) : (fl_A K n G S a b pl i j).natAbs ≤ 22 := by
  unfold fl_A ds_e
  by_cases h1 : j = K
  · rw [if_pos h1]
    by_cases h2 : i = S
    · rw [if_pos h2]; decide
    · rw [if_neg h2]; decide
  · rw [if_neg h1]
    by_cases h2 : i = G ∨ j = G
    · rw [if_pos h2]
      rcases fl_i1 i j with q | q <;> rw [q] <;> decide
    · rw [if_neg h2]
      exact Nat.le_trans (fl_lp_le a b pl i j n) hn
theorem fl_l1 (f : Nat → Int) (B : Nat) : ∀ p, (∀ i, i < p → (f i).natAbs ≤ B) → ds_l1 p f ≤ p * B
  | 0, _ => Nat.zero_le _
  | p + 1, h => by
    rw [ds_l1, Nat.succ_mul]
    exact Nat.add_le_add (fl_l1 f B p (fun i hi => h i (by omega))) (h p (by omega))
/-- wires with the ground left out -/
def fl_u (a b : Nat → Nat) (pl : Nat → Bool) (G w c : Nat) : Int := if c = G then 0 else fl_v a b pl w c
theorem fl_u_pm (p w : Nat) : ds_pm p (fl_u a b pl G w) := by
  by_cases h : pl w = true
  · refine ⟨if a w = G then p else a w, if b w = G then p else b w, fun c hc => ?_⟩
    unfold fl_u fl_v
    rw [if_pos h]
    by_cases g : c = G
    · rw [if_pos g]
      by_cases g1 : a w = G
      · rw [if_pos g1, ds_i0 (show c ≠ p by omega)]
        by_cases g2 : b w = G
        · rw [if_pos g2, ds_i0 (show c ≠ p by omega)]; rfl
        · rw [if_neg g2, ds_i0 (show c ≠ b w by omega)]; rfl
      · rw [if_neg g1, ds_i0 (show c ≠ a w by omega)]
        by_cases g2 : b w = G
        · rw [if_pos g2, ds_i0 (show c ≠ p by omega)]; rfl
        · rw [if_neg g2, ds_i0 (show c ≠ b w by omega)]; rfl
    · rw [if_neg g]
      have k : ∀ x, ds_i c x = ds_i c (if x = G then p else x) := fun x => by
        by_cases g1 : x = G
        · rw [if_pos g1, ds_i0 (show c ≠ x by omega), ds_i0 (show c ≠ p by omega)]
        · rw [if_neg g1]
      rw [← k, ← k]
  · refine ⟨p, p, fun c hc => ?_⟩
    unfold fl_u fl_v
    rw [if_neg h, ite_self, Int.sub_self]
theorem fl_row {i c p : Nat} (hi : i ≠ G) (hc : c < p) (hp : p ≤ K) : fl_A K n G S a b pl i c = ds_sum n (fun w => (ds_i i (a w) - ds_i i (b w)) * fl_u a b pl G w c) := by
  unfold fl_A
  rw [if_neg (show ¬ c = K by omega)]
  by_cases g : c = G
  · rw [if_pos (Or.inr g), ds_i0 (show i ≠ c by omega), ← ds_zero n]
    refine ds_congr (fun w _ => ?_)
    unfold fl_u
    rw [if_pos g, Int.mul_zero]
  · rw [if_neg (fun q => q.elim hi g)]
    unfold fl_lp
    refine ds_congr (fun w _ => ?_)
    unfold fl_u
    rw [if_neg g]
theorem fl_unit_pm (p l : Nat) (x : Nat → Int) (h : ∀ c, c < p → x c = ds_i c l) : ds_pm p x := ⟨l, p, fun c hc => by rw [h c hc, ds_i0 (show c ≠ p by omega), Int.sub_zero]⟩
theorem fl_C_le (hn : n ≤ 22) (hK : K ≤ 12) {p : Nat} (hp : p ≤ K) (k l : Nat) : (ds_C p (fl_A K n G S a b pl) k l).natAbs ≤ 705432 := by
  unfold ds_C
  have e : ds_det p (ds_set (fl_A K n G S a b pl) k (ds_e l)) = ds_det p (ds_X n a b (fl_u a b pl G) (fun i => decide (i ≠ k ∧ i ≠ G)) (fun i c => if i = k then ds_i c l else ds_i c G)) := ds_det_congr p (fun i c hi hc => by
    unfold ds_set
    by_cases g : i = k
    · rw [if_pos g, ds_X_c (decide_eq_false (p := i ≠ k ∧ i ≠ G) (fun q => q.1 g)), if_pos g]
      rfl
    · rw [if_neg g]
      by_cases g2 : i = G
      · rw [ds_X_c (decide_eq_false (p := i ≠ k ∧ i ≠ G) (fun q => q.2 g2)), if_neg g]
        unfold fl_A
        rw [if_neg (show ¬ c = K by omega), if_pos (Or.inl g2), g2]
        unfold ds_i
        by_cases q : G = c
        · rw [if_pos q, if_pos q.symm]
        · rw [if_neg q, if_neg (fun z => q z.symm)]
      · rw [ds_X_o (decide_eq_true (p := i ≠ k ∧ i ≠ G) ⟨g, g2⟩)]
        exact fl_row g2 hc hp)
  rw [e]
  refine Nat.le_trans (ds_wires n p a b _ _ _ (fun w _ => fl_u_pm p w) (fun i hi ho => ?_)) (ds_ch_22 n hn _ (Nat.le_trans (ds_cnt_le _ p) (by omega)))
  by_cases g : i = k
  · exact fl_unit_pm p l _ (fun c _ => if_pos g)
  · exact fl_unit_pm p G _ (fun c _ => if_neg g)
theorem fl_D_le (hn : n ≤ 22) (hK : K ≤ 12) {p : Nat} (hp : p ≤ K) : (ds_det p (fl_A K n G S a b pl)).natAbs ≤ 705432 := by
  have e : ds_det p (fl_A K n G S a b pl) = ds_det p (ds_X n a b (fl_u a b pl G) (fun i => decide (i ≠ G)) (fun i c => ds_i c G)) := ds_det_congr p (fun i c hi hc => by
    by_cases g2 : i = G
    · rw [ds_X_c (decide_eq_false (p := i ≠ G) (fun q => q g2))]
      unfold fl_A
      rw [if_neg (show ¬ c = K by omega), if_pos (Or.inl g2), g2]
      unfold ds_i
      by_cases q : G = c
      · rw [if_pos q, if_pos q.symm]
      · rw [if_neg q, if_neg (fun z => q z.symm)]
    · rw [ds_X_o (decide_eq_true (p := i ≠ G) g2)]
      exact fl_row g2 hc hp)
  rw [e]
  exact Nat.le_trans (ds_wires n p a b _ _ _ (fun w _ => fl_u_pm p w) (fun i hi ho => fl_unit_pm p G _ (fun c _ => rfl))) (ds_ch_22 n hn _ (Nat.le_trans (ds_cnt_le _ p) (by omega)))
theorem fl_R_le (hn : n ≤ 22) (hK : K ≤ 12) {p : Nat} (hp : p ≤ K) (r c : Nat) : (el_R (fl_A K n G S a b pl) p r c).natAbs ≤ 2 ^ 36 := by
  have hz : ∀ f : Nat → Int, (∀ i, i < p → (f i).natAbs ≤ 22) → ds_l1 p f ≤ 264 := fun f hf => Nat.le_trans (fl_l1 f 22 p hf) (Nat.le_trans (Nat.mul_le_mul_right 22 (show p ≤ 12 by omega)) (by decide))
  refine Nat.le_trans (el_bound (fl_A K n G S a b pl) p r c 705432 264 (fun k l _ _ => fl_C_le hn hK hp k l) (fl_D_le hn hK hp) (hz _ (fun i _ => fl_A_le hn i c)) (hz _ (fun i _ => fl_A_le hn r i)) (Nat.le_trans (fl_A_le hn r c) (by decide))) (by decide)
/-- no leading block sends a row of numbers to 0 -/
theorem ds_nn : ∀ (n : Nat) (f : Nat → Int), (∀ i, i < n → 0 ≤ f i) → 0 ≤ ds_sum n f ∧ (ds_sum n f = 0 → ∀ i, i < n → f i = 0)
  | 0, _, _ => ⟨Int.le_refl _, fun _ i hi => absurd hi (by omega)⟩
  | n + 1, f, h => by
    obtain ⟨h1, h2⟩ := ds_nn n f (fun i hi => h i (by omega))
    have h3 := h n (by omega)
    rw [ds_sum]
    refine ⟨by omega, fun e i hi => ?_⟩
    by_cases g : i = n
    · rw [g]; omega
    · exact h2 (by omega) i (by omega)
theorem fl_form (hab : ∀ w, w < n → a w < K ∧ b w < K) (z : Nat → Int) (i : Nat) : ds_sum K (fun j => fl_lp n a b pl i j * z j) = ds_sum n (fun w => (ds_i i (a w) - ds_i i (b w)) * (if pl w then z (a w) - z (b w) else 0)) := by
  have e : ds_sum K (fun j => fl_lp n a b pl i j * z j) = ds_sum K (fun j => ds_sum n (fun w => (ds_i i (a w) - ds_i i (b w)) * (fl_v a b pl w j * z j))) := ds_congr (fun j _ => by
    unfold fl_lp
    rw [Int.mul_comm, ← ds_mul]
    exact ds_congr (fun w _ => by grind))
  rw [e, ds_swap (fun j w => (ds_i i (a w) - ds_i i (b w)) * (fl_v a b pl w j * z j)) n K]
  refine ds_congr (fun w hw => ?_)
  rw [ds_mul]
  congr 1
  unfold fl_v
  by_cases g : pl w = true
  · rw [if_pos g]
    have a1 := ds_sum_e2 z (a w) K
    have a2 := ds_sum_e2 z (b w) K
    rw [if_pos (hab w hw).1] at a1
    rw [if_pos (hab w hw).2] at a2
    rw [← a1, ← a2, ← ds_sub]
    refine ds_congr (fun j _ => ?_)
    rw [if_pos g]
    show (ds_i j (a w) - ds_i j (b w)) * z j = z j * ds_i j (a w) - z j * ds_i j (b w)
    grind
  · rw [if_neg g]
    refine Eq.trans (ds_congr (fun j _ => ?_)) (ds_zero K)
    rw [if_neg g, Int.zero_mul]
theorem fl_inj (hab : ∀ w, w < n → a w < K ∧ b w < K) (hG : G < K) (hc : ∀ Q : Nat → Prop, (∀ w, w < n → pl w = true → (Q (a w) ↔ Q (b w))) → ∀ k j, k < K → j < K → Q k → Q j) : el_inj (fl_A K n G S a b pl) K := by
  intro p hp y hy
  let z : Nat → Int := fun j => if j < p ∧ j ≠ G then y j else 0
  have hrow : ∀ i, i < p → i ≠ G → ds_sum K (fun j => fl_lp n a b pl i j * z j) = 0 := by
    intro i hi hiG
    have e := hy i hi
    -- cut the sum over K down to p
    have cut : ∀ d, p + d = K → ds_sum K (fun j => fl_lp n a b pl i j * z j) = ds_sum p (fun j => fl_lp n a b pl i j * z j) := by
      intro d hd
      have : ∀ d, ds_sum (p + d) (fun j => fl_lp n a b pl i j * z j) = ds_sum p (fun j => fl_lp n a b pl i j * z j) := by
        intro d
        induction d with
        | zero => rfl
        | succ d ih =>
          rw [← Nat.add_assoc, ds_sum, ih]
          have : z (p + d) = 0 := if_neg (by omega)
          rw [this, Int.mul_zero, Int.add_zero]
      rw [← hd]
      exact this d
    rw [cut (K - p) (by omega), ← e]
    refine ds_congr (fun j hj => ?_)
    show fl_lp n a b pl i j * (if j < p ∧ j ≠ G then y j else 0) = _
    unfold fl_A
    rw [if_neg (show ¬ j = K by omega)]
    by_cases g : j = G
    · rw [if_neg (fun q => q.2 g), if_pos (Or.inr g), ds_i0 (show i ≠ j by omega), Int.mul_zero, Int.zero_mul]
    · rw [if_pos ⟨hj, g⟩, if_neg (fun q => q.elim hiG g)]
  have hq : ds_sum n (fun w => (if pl w then z (a w) - z (b w) else 0) * (if pl w then z (a w) - z (b w) else 0)) = 0 := by
    have e1 : ds_sum K (fun i => z i * ds_sum K (fun j => fl_lp n a b pl i j * z j)) = 0 := by
      rw [← ds_zero K]
      refine ds_congr (fun i hi => ?_)
      by_cases g : i < p ∧ i ≠ G
      · rw [hrow i g.1 g.2, Int.mul_zero]
      · have : z i = 0 := if_neg g
        rw [this, Int.zero_mul]
    have e2 : ds_sum K (fun i => z i * ds_sum K (fun j => fl_lp n a b pl i j * z j)) = ds_sum K (fun i => ds_sum n (fun w => (if pl w then z (a w) - z (b w) else 0) * (z i * ds_i i (a w) - z i * ds_i i (b w)))) := ds_congr (fun i _ => by
      rw [fl_form hab, ← ds_mul]
      exact ds_congr (fun w _ => by grind))
    rw [e2, ds_swap (fun i w => (if pl w then z (a w) - z (b w) else 0) * (z i * ds_i i (a w) - z i * ds_i i (b w))) n K] at e1
    refine Eq.trans (ds_congr (fun w hw => ?_)) e1
    rw [ds_mul, ds_sub]
    have a1 := ds_sum_e2 z (a w) K
    have a2 := ds_sum_e2 z (b w) K
    rw [if_pos (hab w hw).1] at a1
    rw [if_pos (hab w hw).2] at a2
    rw [show (fun i => z i * ds_i i (a w)) = (fun i => z i * ds_e (a w) i) from rfl, show (fun i => z i * ds_i i (b w)) = (fun i => z i * ds_e (b w) i) from rfl, a1, a2]
    by_cases g : pl w = true
    · rw [if_pos g]
    · rw [if_neg g, Int.zero_mul, Int.zero_mul]
  have hsq := (ds_nn n _ (fun w _ => by
    have : ∀ x : Int, 0 ≤ x * x := fun x => by
      rcases Int.le_total 0 x with h | h
      · exact Int.mul_nonneg h h
      · exact Int.mul_nonneg_of_nonpos_of_nonpos h h
    exact this _)).2 hq
  have hz : ∀ k, k < K → z k = 0 := by
    intro k hk
    have hG0 : z G = 0 := if_neg (fun q => q.2 rfl)
    refine hc (fun k => z k = 0) (fun w hw hpl => ?_) G k hG hk hG0
    have e := hsq w hw
    rw [if_pos hpl] at e
    have : z (a w) - z (b w) = 0 := by
      rcases Int.mul_eq_zero.mp e with q | q <;> exact q
    constructor
    · intro q; omega
    · intro q; omega
  intro j hj
  by_cases g : j = G
  · have e := hy G (by omega)
    rw [ds_sum_one _ G p (by omega) (fun i hi hn => by
      unfold fl_A
      rw [if_neg (show ¬ i = K by omega), if_pos (Or.inl rfl), ds_i0 (fun q => hn q.symm), Int.zero_mul])] at e
    unfold fl_A at e
    rw [if_neg (show ¬ G = K by omega), if_pos (Or.inl rfl), ds_i1, Int.one_mul] at e
    rw [g]
    exact e
  · have e := hz j (by omega)
    have e2 : z j = y j := if_pos ⟨hj, g⟩
    rw [← e2]
    exact e
end

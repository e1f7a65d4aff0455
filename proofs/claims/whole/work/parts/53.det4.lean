/-! ===== DET 4: how large a determinant of a net is ===== -/
def ds_i (c p : Nat) : Int := if c = p then 1 else 0
theorem ds_i1 (p : Nat) : ds_i p p = 1 := if_pos rfl
theorem ds_i0 {c p : Nat} (h : c ≠ p) : ds_i c p = 0 := if_neg h
def ds_pm (m : Nat) (x : Nat → Int) : Prop := ∃ p q : Nat, ∀ c, c < m → x c = ds_i c p - ds_i c q
theorem ds_inv (k : Nat) (γ : Nat → Nat) (h : ∀ i j, i < k → j < k → γ i = γ j → i = j) (p : Nat) : ∃ p', ∀ i, i < k → ds_i (γ i) p = ds_i i p' := by
  by_cases q : ∃ i, i < k ∧ γ i = p
  · obtain ⟨i0, h0, h1⟩ := q
    refine ⟨i0, fun i hi => ?_⟩
    by_cases g : i = i0
    · rw [g, h1, ds_i1, ds_i1]
    · rw [ds_i0 g, ds_i0 (fun e => g (h i i0 hi h0 (by rw [e, h1])))]
  · refine ⟨k, fun i hi => ?_⟩
    rw [ds_i0 (show i ≠ k by omega), ds_i0 (fun e => q ⟨i, hi, e⟩)]
theorem ds_pm_re {m k : Nat} {x : Nat → Int} (γ : Nat → Nat) (hl : ∀ i, i < k → γ i < m) (h : ∀ i j, i < k → j < k → γ i = γ j → i = j) (hx : ds_pm m x) : ds_pm k (fun i => x (γ i)) := by
  obtain ⟨p, q, hx⟩ := hx
  obtain ⟨p', h1⟩ := ds_inv k γ h p
  obtain ⟨q', h2⟩ := ds_inv k γ h q
  exact ⟨p', q', fun c hc => by
    dsimp only
    rw [hx _ (hl c hc), h1 c hc, h2 c hc]⟩
theorem ds_sk_inj {j a b : Nat} (h : ds_sk j a = ds_sk j b) : a = b := by
  unfold ds_sk at h
  by_cases h1 : a < j
  · rw [if_pos h1] at h
    by_cases h2 : b < j
    · rw [if_pos h2] at h; exact h
    · rw [if_neg h2] at h; omega
  · rw [if_neg h1] at h
    by_cases h2 : b < j
    · rw [if_pos h2] at h; omega
    · rw [if_neg h2] at h; omega
theorem ds_pm_sk {m j : Nat} {x : Nat → Int} (hx : ds_pm (m + 1) x) : ds_pm m (fun c => x (ds_sk j c)) :=
  ds_pm_re (ds_sk j) (fun _ hi => ds_sk_in hi) (fun _ _ _ _ h => ds_sk_inj h) hx
theorem ds_zcol : ∀ (m j : Nat) (A : Nat → Nat → Int), j < m → (∀ r, r < m → A r j = 0) → ds_det m A = 0
  | 0, j, _, hj, _ => absurd hj (by omega)
  | m + 1, j, A, hj, h => by
    rw [ds_det, ← ds_zero (m + 1)]
    refine ds_congr (fun l hl => ?_)
    rcases Nat.lt_trichotomy j l with g | g | g
    · rw [ds_zcol m j (ds_dc A l) (by omega) (fun r hr => by
        unfold ds_dc
        rw [ds_sk_lt g]
        exact h r (by omega)), Int.mul_zero]
    · rw [← g, h m (by omega), Int.mul_zero, Int.zero_mul]
    · rw [ds_zcol m (j - 1) (ds_dc A l) (by omega) (fun r hr => by
        unfold ds_dc
        rw [ds_sk_ge (by omega), show j - 1 + 1 = j by omega]
        exact h r (by omega)), Int.mul_zero]
theorem ds_sg_abs (k : Nat) (x : Int) : (ds_sg k * x).natAbs = x.natAbs := by
  unfold ds_sg
  by_cases h : k % 2 = 0
  · rw [if_pos h, Int.one_mul]
  · rw [if_neg h, Int.neg_one_mul, Int.natAbs_neg]
theorem ds_last1 (m p : Nat) (A : Nat → Nat → Int) (s : Int) (hp : p ≤ m) (hs : s.natAbs = 1) (h : ∀ c, c ≤ m → c ≠ p → A m c * ds_det m (ds_dc A c) = 0) (h1 : A m p = s) : (ds_det (m + 1) A).natAbs = (ds_det m (ds_dc A p)).natAbs := by
  rw [ds_det, ds_sum_one _ p (m + 1) (by omega) (fun i hi hn => by rw [Int.mul_assoc, h i (by omega) hn, Int.mul_zero]), Int.mul_assoc, ds_sg_abs, h1, Int.natAbs_mul, hs, Nat.one_mul]
theorem ds_tu : ∀ (m : Nat) (A : Nat → Nat → Int), (∀ r, r < m → ds_pm m (A r)) → (ds_det m A).natAbs ≤ 1
  | 0, A, _ => by
    rw [show ds_det 0 A = 1 from rfl]
    decide
  | m + 1, A, h => by
    obtain ⟨p, q, hl⟩ := h m (by omega)
    by_cases hpq : p = q
    · rw [ds_det_zrow (m + 1) m A (by omega) (fun c hc => by rw [hl c hc, hpq, Int.sub_self])]
      decide
    by_cases hp : p ≤ m
    · by_cases hq : q ≤ m
      · have hmp : A m p = 1 := by rw [hl p (by omega), ds_i1, ds_i0 hpq]; rfl
        rw [← ds_det_ops m A (fun r => - A r p) m (Nat.le_refl _)]
        have hz : ∀ r, r < m → A r p + - A r p * A m p = 0 := fun r hr => by rw [hmp]; omega
        rw [ds_last1 m p _ 1 hp rfl (fun c hc hn => by
          rw [if_neg (show ¬ m < m by omega)]
          by_cases g : c = q
          · subst g
            rcases Nat.lt_or_ge p c with g2 | g2
            · rw [ds_zcol m p _ (by omega) (fun r hr => by
                unfold ds_dc
                dsimp only
                rw [if_pos hr, ds_sk_lt g2]
                exact hz r hr), Int.mul_zero]
            · rw [ds_zcol m (p - 1) _ (by omega) (fun r hr => by
                unfold ds_dc
                dsimp only
                rw [if_pos hr, ds_sk_ge (by omega), show p - 1 + 1 = p by omega]
                exact hz r hr), Int.mul_zero]
          · rw [hl c (by omega), ds_i0 hn, ds_i0 g, Int.sub_self, Int.zero_mul]) (by
          show (if m < m then _ else A m p) = 1
          rw [if_neg (by omega), hmp])]
        refine ds_tu m _ (fun r hr => ?_)
        refine ds_pm_sk (x := fun c => if r < m then A r c + - A r p * A m c else A r c) ?_
        obtain ⟨p1, q1, h1⟩ := h r (by omega)
        refine ⟨if p1 = p then q else p1, if q1 = p then q else q1, fun c hc => ?_⟩
        show (if r < m then A r c + - A r p * A m c else A r c) = _
        rw [if_pos hr, h1 c hc, h1 p (by omega), hl c hc]
        by_cases g1 : p1 = p
        · rw [if_pos g1, g1, ds_i1]
          by_cases g2 : q1 = p
          · rw [if_pos g2, g2, ds_i1]
            omega
          · rw [if_neg g2, ds_i0 (fun e => g2 e.symm)]
            omega
        · rw [if_neg g1, ds_i0 (fun e => g1 e.symm)]
          by_cases g2 : q1 = p
          · rw [if_pos g2, g2, ds_i1]
            omega
          · rw [if_neg g2, ds_i0 (fun e => g2 e.symm)]
            omega
      · rw [ds_last1 m p A 1 hp rfl (fun c hc hn => by
          rw [hl c (by omega), ds_i0 hn, ds_i0 (by omega), Int.sub_self, Int.zero_mul]) (by rw [hl p (by omega), ds_i1, ds_i0 hpq]; rfl)]
        exact ds_tu m _ (fun r hr => ds_pm_sk (h r (by omega)))
    · by_cases hq : q ≤ m
      · rw [ds_last1 m q A (-1) hq rfl (fun c hc hn => by
          rw [hl c (by omega), ds_i0 hn, ds_i0 (by omega), Int.sub_self, Int.zero_mul]) (by rw [hl q (by omega), ds_i1, ds_i0 (by omega)]; rfl)]
        exact ds_tu m _ (fun r hr => ds_pm_sk (h r (by omega)))
      · rw [ds_det_zrow (m + 1) m A (by omega) (fun c hc => by rw [hl c hc, ds_i0 (by omega), ds_i0 (by omega), Int.sub_self])]
        decide
def ds_ch : Nat → Nat → Nat
  | _, 0 => 1
  | 0, _ + 1 => 0
  | n + 1, k + 1 => ds_ch n k + ds_ch n (k + 1)
theorem ds_ch_mono (n : Nat) : ∀ k, ds_ch n k ≤ ds_ch (n + 1) k
  | 0 => by
    cases n <;> exact Nat.le_refl _
  | k + 1 => by
    rw [show ds_ch (n + 1) (k + 1) = ds_ch n k + ds_ch n (k + 1) from rfl]
    omega
def ds_cnt : Nat → (Nat → Bool) → Nat
  | 0, _ => 0
  | m + 1, O => ds_cnt m O + (if O m then 1 else 0)
theorem ds_cnt_congr {O P : Nat → Bool} : ∀ m, (∀ i, i < m → O i = P i) → ds_cnt m O = ds_cnt m P
  | 0, _ => rfl
  | m + 1, h => by rw [ds_cnt, ds_cnt, ds_cnt_congr m (fun i hi => h i (by omega)), h m (by omega)]
def ds_off (O : Nat → Bool) (a : Nat) : Nat → Bool := fun i => if i = a then false else O i
theorem ds_cnt_off (O : Nat → Bool) (a : Nat) (ha : O a = true) : ∀ m, a < m → ds_cnt m O = ds_cnt m (ds_off O a) + 1
  | 0, h => absurd h (by omega)
  | m + 1, h => by
    rw [ds_cnt, ds_cnt]
    by_cases g : m = a
    · subst g
      rw [ds_cnt_congr m (P := ds_off O m) (fun i hi => by unfold ds_off; rw [if_neg (by omega)]), ha, show ds_off O m m = false from if_pos rfl]
      rfl
    · rw [ds_cnt_off O a ha m (by omega), show ds_off O a m = O m from if_neg g]
      omega
theorem ds_cnt_0 (O : Nat → Bool) : ∀ m, ds_cnt m O = 0 → ∀ i, i < m → O i = false
  | 0, _, i, hi => absurd hi (by omega)
  | m + 1, h, i, hi => by
    rw [ds_cnt] at h
    have h2 : O m = false := by
      cases q : O m with
      | false => rfl
      | true => rw [q] at h; simp at h
    by_cases g : i = m
    · rw [g, h2]
    · exact ds_cnt_0 O m (by omega) i (by omega)
theorem ds_cnt_1 (O : Nat → Bool) : ∀ m, ds_cnt m O ≠ 0 → ∃ i, i < m ∧ O i = true
  | 0, h => absurd rfl h
  | m + 1, h => by
    rw [ds_cnt] at h
    cases q : O m with
    | true => exact ⟨m, by omega, q⟩
    | false =>
      rw [q] at h
      obtain ⟨i, h1, h2⟩ := ds_cnt_1 O m (by simpa using h)
      exact ⟨i, by omega, h2⟩
/-- open rows: what the wires say; the others as they are -/
def ds_X (n : Nat) (a b : Nat → Nat) (v : Nat → Nat → Int) (O : Nat → Bool) (C : Nat → Nat → Int) : Nat → Nat → Int := fun i c => if O i then ds_sum n (fun w => (ds_i i (a w) - ds_i i (b w)) * v w c) else C i c
theorem ds_X_off (n : Nat) (a b : Nat → Nat) (v : Nat → Nat → Int) (O : Nat → Bool) (C : Nat → Nat → Int) (p : Nat) (x : Nat → Int) : ds_set (ds_X n a b v O C) p x = ds_X n a b v (ds_off O p) (ds_set C p x) := by
  funext i c
  unfold ds_set ds_X ds_off
  dsimp only
  by_cases g : i = p
  · rw [if_pos g, if_pos g, if_pos g]
    rfl
  · rw [if_neg g, if_neg g, if_neg g]
theorem ds_wires : ∀ (n m : Nat) (a b : Nat → Nat) (v : Nat → Nat → Int) (O : Nat → Bool) (C : Nat → Nat → Int), (∀ w, w < n → ds_pm m (v w)) → (∀ i, i < m → O i = false → ds_pm m (C i)) → (ds_det m (ds_X n a b v O C)).natAbs ≤ ds_ch n (ds_cnt m O)
  | 0, m, a, b, v, O, C, _, hC => by
    by_cases h : ds_cnt m O = 0
    · rw [h]
      refine ds_tu m _ (fun r hr => ?_)
      have e := ds_cnt_0 O m h r hr
      obtain ⟨p, q, h1⟩ := hC r hr e
      refine ⟨p, q, fun c hc => ?_⟩
      unfold ds_X
      rw [e]
      exact h1 c hc
    · obtain ⟨i, hi, ho⟩ := ds_cnt_1 O m h
      rw [ds_det_zrow m i _ hi (fun c _ => by
        unfold ds_X
        rw [if_pos ho]
        rfl)]
      exact Nat.zero_le _
  | n + 1, m, a, b, v, O, C, hv, hC => by
    have hv' : ∀ w, w < n → ds_pm m (v w) := fun w hw => hv w (by omega)
    have ih := ds_wires n m a b v O C hv' hC
    have hoff : ∀ p, p < m → O p = true → ∀ (a b : Nat → Nat), (ds_det m (ds_X n a b v (ds_off O p) (ds_set C p (v n)))).natAbs ≤ ds_ch n (ds_cnt m (ds_off O p)) := fun p hp ho a b => by
      refine ds_wires n m a b v _ _ hv' (fun i hi h => ?_)
      unfold ds_set
      by_cases g : i = p
      · obtain ⟨p1, q1, h1⟩ := hv n (by omega)
        exact ⟨p1, q1, fun c hc => by dsimp only; rw [if_pos g]; exact h1 c hc⟩
      · unfold ds_off at h
        rw [if_neg g] at h
        obtain ⟨p1, q1, h1⟩ := hC i hi h
        exact ⟨p1, q1, fun c hc => by dsimp only; rw [if_neg g]; exact h1 c hc⟩
    have hstep : ∀ i c, ds_X (n + 1) a b v O C i c = ds_X n a b v O C i c + (if O i then (ds_i i (a n) - ds_i i (b n)) * v n c else 0) := fun i c => by
      unfold ds_X
      by_cases g : O i = true
      · rw [if_pos g, if_pos g, if_pos g, ds_sum]
      · rw [if_neg g, if_neg g, if_neg g, Int.add_zero]
    have hsame : (∀ i, i < m → O i = true → ds_i i (a n) - ds_i i (b n) = 0) → (ds_det m (ds_X (n + 1) a b v O C)).natAbs ≤ ds_ch (n + 1) (ds_cnt m O) := fun h => by
      rw [ds_det_congr m (B := ds_X n a b v O C) (fun i c hi _ => by
        rw [hstep]
        by_cases g : O i = true
        · rw [if_pos g, h i hi g, Int.zero_mul, Int.add_zero]
        · rw [if_neg g, Int.add_zero])]
      exact Nat.le_trans ih (ds_ch_mono n _)
    -- one open end
    have hone : ∀ (p : Nat) (s : Int), p < m → O p = true → s.natAbs = 1 → (∀ i, i < m → O i = true → ds_i i (a n) - ds_i i (b n) = if i = p then s else 0) → (ds_det m (ds_X (n + 1) a b v O C)).natAbs ≤ ds_ch (n + 1) (ds_cnt m O) := fun p s hp ho hs h => by
      have e := ds_det_lin m p (ds_X n a b v O C) (ds_X n a b v O C p) (v n) 1 s hp
      rw [ds_set_self, Int.one_mul, ds_X_off n a b v O C p (v n)] at e
      rw [ds_det_congr m (B := ds_set (ds_X n a b v O C) p (fun c => 1 * ds_X n a b v O C p c + s * v n c)) (fun i c hi _ => by
        rw [hstep]
        unfold ds_set
        by_cases g : i = p
        · rw [if_pos g, g, if_pos ho, h p hp ho, if_pos rfl]
          dsimp only
          rw [Int.one_mul]
        · rw [if_neg g]
          by_cases g2 : O i = true
          · rw [if_pos g2, h i hi g2, if_neg g, Int.zero_mul, Int.add_zero]
          · rw [if_neg g2, Int.add_zero]), e, ds_cnt_off O p ho m hp]
      rw [ds_cnt_off O p ho m hp] at ih
      have i2 := hoff p hp ho a b
      refine Nat.le_trans (Int.natAbs_add_le _ _) ?_
      rw [Int.natAbs_mul, hs, Nat.one_mul, show ds_ch (n + 1) (ds_cnt m (ds_off O p) + 1) = ds_ch n (ds_cnt m (ds_off O p)) + ds_ch n (ds_cnt m (ds_off O p) + 1) from rfl]
      omega
    by_cases hab : a n = b n
    · exact hsame (fun i _ _ => by rw [hab, Int.sub_self])
    by_cases ha : a n < m ∧ O (a n) = true
    · obtain ⟨ha1, ha2⟩ := ha
      by_cases hb : b n < m ∧ O (b n) = true
      · obtain ⟨hb1, hb2⟩ := hb
        -- both open: add row a to row b
        let B := ds_X n a b v O C
        have e0 : ds_det m (ds_X (n + 1) a b v O C) = ds_det m (ds_set (ds_set B (b n) (fun c => B (a n) c + B (b n) c)) (a n) (fun c => 1 * B (a n) c + 1 * v n c)) := by
          rw [← ds_det_op m (b n) (a n) (ds_X (n + 1) a b v O C) 1 hb1 ha1 (fun h => hab h.symm)]
          refine ds_det_congr m (fun i c hi _ => ?_)
          unfold ds_set
          by_cases g : i = a n
          · rw [if_neg (show ¬ i = b n by omega), if_pos g, g, hstep, if_pos ha2, ds_i1, ds_i0 hab]
            show B (a n) c + _ = 1 * B (a n) c + 1 * v n c
            omega
          · rw [if_neg g]
            by_cases g2 : i = b n
            · rw [if_pos g2, if_pos g2]
              dsimp only
              rw [hstep, hstep, if_pos hb2, if_pos ha2, ds_i1, ds_i1, ds_i0 hab, ds_i0 (fun h => hab h.symm)]
              show B (b n) c + _ + 1 * (B (a n) c + _) = _
              omega
            · rw [if_neg g2, if_neg g2, hstep]
              by_cases g3 : O i = true
              · rw [if_pos g3, ds_i0 g, ds_i0 g2, Int.sub_self, Int.zero_mul, Int.add_zero]
              · rw [if_neg g3, Int.add_zero]
        have e1 := ds_det_lin m (a n) (ds_set B (b n) (fun c => B (a n) c + B (b n) c)) (B (a n)) (v n) 1 1 ha1
        have e2 : ds_det m (ds_set (ds_set B (b n) (fun c => B (a n) c + B (b n) c)) (a n) (B (a n))) = ds_det m B := by
          rw [← ds_det_op m (b n) (a n) B 1 hb1 ha1 (fun h => hab h.symm)]
          refine ds_det_congr m (fun i c hi _ => ?_)
          unfold ds_set
          by_cases g : i = a n
          · rw [if_pos g, if_neg (show ¬ i = b n by omega), g]
          · rw [if_neg g]
            by_cases g2 : i = b n
            · rw [if_pos g2, if_pos g2]
              dsimp only
              omega
            · rw [if_neg g2, if_neg g2]
        have e3 : ds_det m (ds_set (ds_set B (b n) (fun c => B (a n) c + B (b n) c)) (a n) (v n)) = ds_det m (ds_X n (fun w => if a w = a n then b n else a w) (fun w => if b w = a n then b n else b w) v (ds_off O (a n)) (ds_set C (a n) (v n))) := by
          refine ds_det_congr m (fun i c hi _ => ?_)
          unfold ds_set ds_X ds_off
          dsimp only
          by_cases g : i = a n
          · rw [if_pos g, if_pos g, if_pos g]
            rfl
          · rw [if_neg g, if_neg g, if_neg g]
            by_cases g2 : i = b n
            · rw [if_pos g2, g2, if_pos hb2]
              show (if O (a n) then _ else _) + (if O (b n) then _ else _) = _
              rw [if_pos ha2, if_pos hb2, ← ds_add]
              refine ds_congr (fun w _ => ?_)
              rw [← Int.add_mul]
              congr 1
              have k : ∀ x, ds_i (a n) x + ds_i (b n) x = ds_i (b n) (if x = a n then b n else x) := fun x => by
                by_cases q : x = a n
                · rw [if_pos q, q, ds_i1, ds_i1, ds_i0 (fun h => hab h.symm)]
                  rfl
                · rw [if_neg q, ds_i0 (fun h => q h.symm), Int.zero_add]
              rw [← k, ← k]
              omega
            · rw [if_neg g2]
              show (if O i then _ else _) = _
              by_cases g3 : O i = true
              · rw [if_pos g3, if_pos g3]
                refine ds_congr (fun w _ => ?_)
                have k : ∀ x, ds_i i x = ds_i i (if x = a n then b n else x) := fun x => by
                  by_cases q : x = a n
                  · rw [if_pos q, q, ds_i0 g, ds_i0 g2]
                  · rw [if_neg q]
                rw [← k, ← k]
              · rw [if_neg g3, if_neg g3]
        rw [e2, e3, Int.one_mul, Int.one_mul] at e1
        rw [e0, e1, ds_cnt_off O (a n) ha2 m ha1]
        rw [ds_cnt_off O (a n) ha2 m ha1] at ih
        have i2 := hoff (a n) ha1 ha2 (fun w => if a w = a n then b n else a w) (fun w => if b w = a n then b n else b w)
        refine Nat.le_trans (Int.natAbs_add_le _ _) ?_
        rw [show ds_ch (n + 1) (ds_cnt m (ds_off O (a n)) + 1) = ds_ch n (ds_cnt m (ds_off O (a n))) + ds_ch n (ds_cnt m (ds_off O (a n)) + 1) from rfl]
        have i3 : (ds_det m B).natAbs ≤ ds_ch n (ds_cnt m (ds_off O (a n)) + 1) := ih
        omega
      · refine hone (a n) 1 ha1 ha2 rfl (fun i hi ho => ?_)
        rw [ds_i0 (show i ≠ b n from fun h => hb ⟨h ▸ hi, h ▸ ho⟩), Int.sub_zero]
        rfl
    · by_cases hb : b n < m ∧ O (b n) = true
      · obtain ⟨hb1, hb2⟩ := hb
        refine hone (b n) (-1) hb1 hb2 rfl (fun i hi ho => ?_)
        rw [ds_i0 (show i ≠ a n from fun h => ha ⟨h ▸ hi, h ▸ ho⟩)]
        unfold ds_i
        by_cases g : i = b n
        · rw [if_pos g, if_pos g]; rfl
        · rw [if_neg g, if_neg g]; rfl
      · exact hsame (fun i hi ho => by rw [ds_i0 (show i ≠ a n from fun h => ha ⟨h ▸ hi, h ▸ ho⟩), ds_i0 (show i ≠ b n from fun h => hb ⟨h ▸ hi, h ▸ ho⟩), Int.sub_self])
theorem ds_ch_22 : ∀ n, n ≤ 22 → ∀ k, k ≤ 12 → ds_ch n k ≤ 705432 := by
  intro n hn k hk
  have h : ∀ d n, n + d = 22 → ds_ch n k ≤ ds_ch 22 k := by
    intro d
    induction d with
    | zero => intro n h; rw [show n = 22 by omega]; exact Nat.le_refl _
    | succ d ih => intro n h; exact Nat.le_trans (ds_ch_mono n k) (ih (n + 1) (by omega))
  refine Nat.le_trans (h (22 - n) n (by omega)) ?_
  have : ∀ k, k < 13 → ds_ch 22 k ≤ 705432 := by decide
  exact this k (by omega)
theorem ds_cnt_le (O : Nat → Bool) : ∀ m, ds_cnt m O ≤ m
  | 0 => Nat.le_refl _
  | m + 1 => by
    rw [ds_cnt]
    have := ds_cnt_le O m
    by_cases h : O m = true
    · rw [if_pos h]; omega
    · rw [if_neg h]; omega

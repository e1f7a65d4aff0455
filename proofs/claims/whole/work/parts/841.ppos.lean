/-! ===== PURE 24b: what is positive ===== -/
section
variable {K n G S : Nat} {a b : Nat → Nat} {pl : Nat → Bool}
theorem ds_sqn (x : Int) : 0 ≤ x * x := by
  rcases Int.le_total 0 x with h | h
  · exact Int.mul_nonneg h h
  · exact Int.mul_nonneg_of_nonpos_of_nonpos h h
theorem fl_quad (hab : ∀ w, w < n → a w < K ∧ b w < K) {p : Nat} (hp : p ≤ K) (y : Nat → Int) : 0 ≤ ds_sum p (fun i => y i * ds_sum p (fun j => fl_A K n G S a b pl i j * y j)) := by
  let z : Nat → Int := fun j => if j < p ∧ j ≠ G then y j else 0
  have cut : ∀ f : Nat → Int, (∀ j, ¬ j < p → f j = 0) → ds_sum K f = ds_sum p f := by
    intro f hf
    have : ∀ d, ds_sum (p + d) f = ds_sum p f := by
      intro d
      induction d with
      | zero => rfl
      | succ d ih => rw [← Nat.add_assoc, ds_sum, ih, hf (p + d) (by omega), Int.add_zero]
    have := this (K - p)
    rw [show p + (K - p) = K by omega] at this
    exact this
  have hrow : ∀ i, i < p → i ≠ G → ds_sum p (fun j => fl_A K n G S a b pl i j * y j) = ds_sum K (fun j => fl_lp n a b pl i j * z j) := by
    intro i hi hiG
    rw [cut (fun j => fl_lp n a b pl i j * z j) (fun j hj => by
      have : z j = 0 := if_neg (fun q => hj q.1)
      rw [this, Int.mul_zero])]
    refine ds_congr (fun j hj => ?_)
    show _ = fl_lp n a b pl i j * (if j < p ∧ j ≠ G then y j else 0)
    unfold fl_A
    rw [if_neg (show ¬ j = K by omega)]
    by_cases g : j = G
    · rw [if_pos (Or.inr g), if_neg (fun q => q.2 g), ds_i0 (show i ≠ j by omega), Int.mul_zero, Int.zero_mul]
    · rw [if_neg (fun q => q.elim hiG g), if_pos ⟨hj, g⟩]
  have hG : ∀ i, i < p → i = G → ds_sum p (fun j => fl_A K n G S a b pl i j * y j) = y i := by
    intro i hi e
    subst e
    rw [ds_sum_one _ i p hi (fun j hj hn => by
      unfold fl_A
      rw [if_neg (show ¬ j = K by omega), if_pos (Or.inl rfl), ds_i0 (fun q => hn q.symm), Int.zero_mul])]
    unfold fl_A
    rw [if_neg (show ¬ i = K by omega), if_pos (Or.inl rfl), ds_i1, Int.one_mul]
  have e1 : ds_sum p (fun i => y i * ds_sum p (fun j => fl_A K n G S a b pl i j * y j)) = ds_sum p (fun i => z i * ds_sum K (fun j => fl_lp n a b pl i j * z j)) + ds_sum p (fun i => if i = G then y i * y i else 0) := by
    rw [← ds_add]
    refine ds_congr (fun i hi => ?_)
    by_cases g : i = G
    · have : z i = 0 := if_neg (fun q => q.2 g)
      rw [if_pos g, hG i hi g, this, Int.zero_mul, Int.zero_add]
    · have : z i = y i := if_pos ⟨hi, g⟩
      rw [if_neg g, hrow i hi g, this, Int.add_zero]
  rw [e1]
  have e2 : ds_sum p (fun i => z i * ds_sum K (fun j => fl_lp n a b pl i j * z j)) = ds_sum n (fun w => (if pl w then z (a w) - z (b w) else 0) * (if pl w then z (a w) - z (b w) else 0)) := by
    rw [← cut (fun i => z i * ds_sum K (fun j => fl_lp n a b pl i j * z j)) (fun j hj => by
      have : z j = 0 := if_neg (fun q => hj q.1)
      rw [this, Int.zero_mul])]
    have e3 : ds_sum K (fun i => z i * ds_sum K (fun j => fl_lp n a b pl i j * z j)) = ds_sum K (fun i => ds_sum n (fun w => (if pl w then z (a w) - z (b w) else 0) * (z i * ds_i i (a w) - z i * ds_i i (b w)))) := ds_congr (fun i _ => by
      rw [fl_form hab, ← ds_mul]
      exact ds_congr (fun w _ => by grind))
    rw [e3, ds_swap (fun i w => (if pl w then z (a w) - z (b w) else 0) * (z i * ds_i i (a w) - z i * ds_i i (b w))) n K]
    refine ds_congr (fun w hw => ?_)
    rw [ds_mul, ds_sub]
    have a1 := ds_sum_e2 z (a w) K
    have a2 := ds_sum_e2 z (b w) K
    rw [if_pos (hab w hw).1] at a1
    rw [if_pos (hab w hw).2] at a2
    rw [show (fun i => z i * ds_i i (a w)) = (fun i => z i * ds_e (a w) i) from rfl, show (fun i => z i * ds_i i (b w)) = (fun i => z i * ds_e (b w) i) from rfl, a1, a2]
    by_cases g : pl w = true
    · rw [if_pos g]
    · rw [if_neg g, Int.zero_mul, Int.zero_mul]
  rw [e2]
  have n1 := (ds_nn n (fun w => (if pl w then z (a w) - z (b w) else 0) * (if pl w then z (a w) - z (b w) else 0)) (fun w _ => ds_sqn _)).1
  have n2 := (ds_nn p (fun i => if i = G then y i * y i else 0) (fun i _ => by
    by_cases g : i = G
    · rw [if_pos g]; exact ds_sqn _
    · rw [if_neg g]; exact Int.le_refl _)).1
  omega
theorem fl_dpos (hab : ∀ w, w < n → a w < K ∧ b w < K) (hinj : el_inj (fl_A K n G S a b pl) K) : ∀ p, p ≤ K → 0 < ds_det p (fl_A K n G S a b pl)
  | 0, _ => by rw [show ds_det 0 (fl_A K n G S a b pl) = 1 from rfl]; decide
  | p + 1, hp => by
    have ih := fl_dpos hab hinj p (by omega)
    have h0 := el_D hinj (p + 1) hp
    let A := fl_A K n G S a b pl
    have q := fl_quad (G := G) (S := S) (pl := pl) hab hp (fun j => if j < p then - el_R A p j p else ds_det p A)
    have rows : ∀ i, i < p + 1 → ds_sum (p + 1) (fun j => A i j * (if j < p then - el_R A p j p else ds_det p A)) = if i = p then ds_det (p + 1) A else 0 := by
      intro i hi
      have e3 : ds_sum (p + 1) (fun j => A i j * (if j < p then - el_R A p j p else ds_det p A)) = - ds_sum p (fun l => A i l * el_R A p l p) + A i p * ds_det p A := by
        rw [ds_sum, if_neg (by omega), ← ds_neg]
        congr 1
        exact ds_congr (fun j hj => by rw [if_pos hj, Int.mul_neg])
      rw [e3]
      have e4 := el_I A p i p
      rcases Nat.lt_or_ge i p with g | g
      · rw [if_pos g] at e4
        rw [if_neg (by omega), Int.mul_comm (A i p)]
        omega
      · have e5 : i = p := by omega
        subst e5
        have ep : el_R A i i i = ds_det (i + 1) A := el_piv hinj (by omega)
        rw [if_neg (by omega), ep] at e4
        rw [if_pos rfl, Int.mul_comm (A i i)]
        omega
    have e : ds_sum (p + 1) (fun i => (if i < p then - el_R A p i p else ds_det p A) * ds_sum (p + 1) (fun j => A i j * (if j < p then - el_R A p j p else ds_det p A))) = ds_det p A * ds_det (p + 1) A := by
      rw [ds_sum_one _ p (p + 1) (by omega) (fun i hi hn => by rw [rows i hi, if_neg hn, Int.mul_zero]), rows p (by omega), if_pos rfl, if_neg (by omega)]
    have q2 : 0 ≤ ds_det p A * ds_det (p + 1) A := by rw [← e]; exact q
    rcases Int.lt_or_gt_of_ne h0 with g | g
    · have : ds_det p A * ds_det (p + 1) A < 0 := Int.mul_neg_of_pos_of_neg ih g
      omega
    · exact g
theorem fl_hpos {fi se cu : Nat → Int32} {bt : Nat} (hN : fw_Net K n bt a b fi se cu) : 0 < fl_h K n (b bt) (a bt) a b (fl_pl bt cu) (a bt) := by
  obtain ⟨hK, hn, hf, hs, hp, hc⟩ := id hN
  obtain ⟨ha, hb, hne⟩ := hf bt hp
  have hg := fl_g_ne (G := b bt) (S := a bt) (fw_ab hN) hb ha hc
  let c := fl_c K n (b bt) (a bt) a b (fl_pl bt cu)
  let h := fl_h K n (b bt) (a bt) a b (fl_pl bt cu)
  let X : Nat → Int := fun k => ds_sum n (fun w => c w * (ds_i k (a w) - ds_i k (b w)))
  have hDpos := fl_dpos (fw_ab hN) (fl_inj (S := a bt) (fw_ab hN) hb hc) K (Nat.le_refl _)
  -- the flow out of the upper pole
  have hXS : ((fl_g K n (b bt) (a bt) a b (fl_pl bt cu) : Nat) : Int) * X (a bt) = ds_det K (fl_A K n (b bt) (a bt) a b (fl_pl bt cu)) := by
    have e1 := fl_form (pl := fl_pl bt cu) (fw_ab hN) (fl_H K n (b bt) (a bt) a b (fl_pl bt cu)) (a bt)
    have e2 := ds_adj K (a bt) (a bt) (fl_A K n (b bt) (a bt) a b (fl_pl bt cu)) ha ha
    rw [if_pos rfl] at e2
    have e3 : ds_sum K (fun j => fl_lp n a b (fl_pl bt cu) (a bt) j * fl_H K n (b bt) (a bt) a b (fl_pl bt cu) j) = ds_det K (fl_A K n (b bt) (a bt) a b (fl_pl bt cu)) := by
      refine Eq.trans (ds_congr (fun j hj => ?_)) e2
      show _ = fl_A K n (b bt) (a bt) a b (fl_pl bt cu) (a bt) j * fl_H K n (b bt) (a bt) a b (fl_pl bt cu) j
      by_cases g : j = b bt
      · rw [g, fl_HG (m := K - 1) (by omega) hb ha hne, Int.mul_zero, Int.mul_zero]
      · unfold fl_A
        rw [if_neg (show ¬ j = K by omega), if_neg (fun q => q.elim hne g)]
    rw [← e3, e1]
    show _ * ds_sum n (fun w => c w * (ds_i (a bt) (a w) - ds_i (a bt) (b w))) = _
    rw [← ds_mul]
    refine ds_congr (fun w hw => ?_)
    show _ * (fl_c K n (b bt) (a bt) a b (fl_pl bt cu) w * _) = _
    unfold fl_c
    by_cases g : fl_pl bt cu w = true
    · rw [if_pos g, if_pos g, fl_h_mul (fw_ab hN w hw).1, fl_h_mul (fw_ab hN w hw).2]
      grind
    · rw [if_neg g, if_neg g, Int.mul_zero, Int.zero_mul, Int.mul_zero]
  have hXpos : 0 < X (a bt) := by
    rw [← hXS] at hDpos
    rcases Int.lt_or_le 0 (X (a bt)) with g | g
    · exact g
    · have : ((fl_g K n (b bt) (a bt) a b (fl_pl bt cu) : Nat) : Int) * X (a bt) ≤ 0 := Int.mul_nonpos_of_nonneg_of_nonpos (by omega) g
      omega
  have hh0 : h (b bt) = 0 := by
    have e := fl_h_mul (K := K) (n := n) (G := b bt) (S := a bt) (a := a) (b := b) (pl := fl_pl bt cu) hb
    rw [fl_HG (m := K - 1) (by omega) hb ha hne] at e
    rcases Int.mul_eq_zero.mp e.symm with q | q
    · exact absurd q (by omega)
    · exact q
  -- the energy
  have hE : h (a bt) * X (a bt) = ds_sum n (fun w => c w * c w) := by
    have t1 : ds_sum K (fun k => h k * X k) = h (a bt) * X (a bt) := by
      rw [ds_sum_one _ (a bt) K ha (fun k hk hn => by
        by_cases g : k = b bt
        · rw [g, hh0, Int.zero_mul]
        · have : X k = 0 := pa_kirch hN hk g hn
          rw [this, Int.mul_zero])]
    rw [← t1]
    have t2 : ds_sum K (fun k => h k * X k) = ds_sum K (fun k => ds_sum n (fun w => c w * (h k * ds_i k (a w) - h k * ds_i k (b w)))) := ds_congr (fun k _ => by
      show h k * ds_sum n (fun w => c w * (ds_i k (a w) - ds_i k (b w))) = _
      rw [← ds_mul]
      exact ds_congr (fun w _ => by grind))
    rw [t2, ds_swap (fun k w => c w * (h k * ds_i k (a w) - h k * ds_i k (b w))) n K]
    refine ds_congr (fun w hw => ?_)
    rw [ds_mul, ds_sub]
    have a1 := ds_sum_e2 h (a w) K
    have a2 := ds_sum_e2 h (b w) K
    rw [if_pos (fw_ab hN w hw).1] at a1
    rw [if_pos (fw_ab hN w hw).2] at a2
    rw [show (fun i => h i * ds_i i (a w)) = (fun i => h i * ds_e (a w) i) from rfl, show (fun i => h i * ds_i i (b w)) = (fun i => h i * ds_e (b w) i) from rfl, a1, a2]
    show fl_c K n (b bt) (a bt) a b (fl_pl bt cu) w * _ = fl_c K n (b bt) (a bt) a b (fl_pl bt cu) w * fl_c K n (b bt) (a bt) a b (fl_pl bt cu) w
    unfold fl_c
    by_cases g : fl_pl bt cu w = true
    · rw [if_pos g]
    · rw [if_neg g, Int.zero_mul, Int.zero_mul]
  obtain ⟨n1, n2⟩ := ds_nn n (fun w => c w * c w) (fun w _ => ds_sqn _)
  show 0 < h (a bt)
  rcases Int.lt_or_le 0 (h (a bt)) with g | g
  · exact g
  · have m1 : h (a bt) * X (a bt) ≤ 0 := Int.mul_nonpos_of_nonpos_of_nonneg g (by omega)
    have z : ds_sum n (fun w => c w * c w) = 0 := by omega
    have zz := n2 z
    have : X (a bt) = 0 := by
      show ds_sum n (fun w => c w * (ds_i (a bt) (a w) - ds_i (a bt) (b w))) = 0
      refine Eq.trans (ds_congr (fun w hw => ?_)) (ds_zero n)
      rcases Int.mul_eq_zero.mp (zz w hw) with q | q <;> rw [q, Int.zero_mul]
    omega
end

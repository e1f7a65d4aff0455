/-! ===== PURE 24: every face has its place; the flow as a whole ===== -/
section
variable {K n F bt : Nat} {a b t : Nat → Nat} {u : Nat → Nat → Nat} {fc : Nat → Nat} {cu : Nat → Int32} {po : Int32}
theorem pa_Fc (h : nt_Ok K n a b t u) (hF : tr_Faces n F (pl_nx a b t u) fc) : pl_Fc n a b fc (pl_nx a b t u) :=
  ⟨fun d hd => ⟨(nt_nx h hd).1, (nt_nx h hd).2.1, (hF.1 d hd).2⟩, fun x y hx hy => nt_inj h hx hy⟩
theorem pa_step (h : nt_Ok K n a b t u) (hF : tr_Faces n F (pl_nx a b t u) fc) (V : Nat → Prop) (hV : ∀ w, w < n → (V (fc (2 * w)) ↔ V (fc (2 * w + 1)))) {k i : Nat} (hk : k < K) (hi : i < t k) (hD : V (fc (pl_out a k (u k i)))) : V (fc (pl_out a k (u k (if i + 1 < t k then i + 1 else 0)))) := by
  obtain ⟨w1, w2⟩ := h.2.1 k hk i hi
  have key : ∀ e, e < 2 * n → pl_en a b e = k → e / 2 = u k i → V (fc e) → V (fc (pl_out a k (u k (if i + 1 < t k then i + 1 else 0)))) := by
    intro e he e1 e2 e3
    obtain ⟨i', i1, i2, _, i4⟩ := nt_nw h hk w1 w2
    have ii : i' = i := h.2.2.1 k hk i' i i1 hi i2
    have nxe : pl_nx a b t u e = pl_out a k (u k (if i + 1 < t k then i + 1 else 0)) := by
      unfold pl_nx
      rw [e1, e2, i4, ii]
    rw [← nxe, (hF.1 e he).2]
    exact e3
  unfold pl_out at hD
  by_cases g : a (u k i) = k
  · rw [if_pos g] at hD
    refine key (2 * u k i + 1) (by omega) ?_ (by omega) ((hV _ w1).mp hD)
    rw [pl_en1]; exact g
  · rw [if_neg g] at hD
    refine key (2 * u k i) (by omega) ?_ (by omega) ((hV _ w1).mpr hD)
    rw [pl_en0]; exact w2.resolve_left g
theorem pa_turn (h : nt_Ok K n a b t u) (hF : tr_Faces n F (pl_nx a b t u) fc) (V : Nat → Prop) (hV : ∀ w, w < n → (V (fc (2 * w)) ↔ V (fc (2 * w + 1)))) {k i : Nat} (hk : k < K) (hi : i < t k) (hD : V (fc (pl_out a k (u k i)))) : ∀ j, j < t k → V (fc (pl_out a k (u k j))) := by
  have up : ∀ d i, i < t k → V (fc (pl_out a k (u k i))) → i + d < t k → V (fc (pl_out a k (u k (i + d)))) := by
    intro d
    induction d with
    | zero => intro i _ h1 _; exact h1
    | succ d ih =>
      intro i hi h1 h2
      have h3 := ih i hi h1 (by omega)
      have h4 := pa_step h hF V hV hk (show i + d < t k by omega) h3
      rw [if_pos (by omega)] at h4
      exact h4
  have h0 : V (fc (pl_out a k (u k 0))) := by
    have h1 := up (t k - 1 - i) i hi hD (by omega)
    have h2 := pa_step h hF V hV hk (show i + (t k - 1 - i) < t k by omega) h1
    rw [if_neg (by omega)] at h2
    exact h2
  intro j hj
  have := up j 0 (by omega) h0 (by omega)
  rw [Nat.zero_add] at this
  exact this
theorem pa_all (h : rd_Ok K n F bt a b t u fc cu po) {c : Nat → Int} {m : Nat} {o tw : Nat → Nat} {p : Nat → Int} (hS : pp_S F n bt fc c m o tw p) (hcl : pp_Cl n bt fc m o n) : m = F ∧ ∀ f, f < F → pp_P m o f := by
  obtain ⟨hok, hF, hE, hbt, _, _, hconn, _⟩ := h
  have hV : ∀ w, w < n → (pp_P m o (fc (2 * w)) ↔ pp_P m o (fc (2 * w + 1))) := by
    intro w hw
    by_cases g : w = bt
    · subst g
      have e := pl_ortho (pa_Fc hok hF) (fun f => @ite Int (pp_P m o f) (Classical.propDecidable _) 1 0) (fun k => ds_i k (a w))
      rw [ds_sum_one _ w n hw (fun x hx hn => by
        have := hcl x hx hn
        by_cases q : pp_P m o (fc (2 * x))
        · rw [if_pos q, if_pos (this.mp q), Int.sub_self, Int.zero_mul]
        · rw [if_neg q, if_neg (fun z => q (this.mpr z)), Int.sub_self, Int.zero_mul])] at e
      rw [ds_i1, ds_i0 (fun z => (hok.1 w hw).2.2 z.symm)] at e
      constructor
      · intro q
        refine Classical.byContradiction (fun z => ?_)
        rw [if_pos q, if_neg z] at e
        exact absurd e (by decide)
      · intro q
        refine Classical.byContradiction (fun z => ?_)
        rw [if_neg z, if_pos q] at e
        exact absurd e (by decide)
    · exact hcl w hw g
  -- the knots
  have hQ : ∀ k, k < K → ∀ j, j < t k → pp_P m o (fc (pl_out a k (u k j))) := by
    intro k hk
    refine hconn (fun k => ∀ j, j < t k → pp_P m o (fc (pl_out a k (u k j)))) (fun w hw => ?_) (b bt) k (hok.1 bt hbt).2.1 hk ?_
    · obtain ⟨ha, hb, hne⟩ := hok.1 w hw
      obtain ⟨i, i1, i2⟩ := hok.2.2.2 (a w) ha w hw (Or.inl rfl)
      obtain ⟨j, j1, j2⟩ := hok.2.2.2 (b w) hb w hw (Or.inr rfl)
      have oa : pl_out a (a w) w = 2 * w := if_pos rfl
      have ob : pl_out a (b w) w = 2 * w + 1 := if_neg hne
      constructor
      · intro q
        have := q i i1
        rw [i2, oa] at this
        refine pa_turn hok hF _ hV hb j1 ?_
        rw [j2, ob]
        exact (hV w hw).mp this
      · intro q
        have := q j j1
        rw [j2, ob] at this
        refine pa_turn hok hF _ hV ha i1 ?_
        rw [i2, oa]
        exact (hV w hw).mpr this
    · obtain ⟨j, j1, j2⟩ := hok.2.2.2 (b bt) (hok.1 bt hbt).2.1 bt hbt (Or.inr rfl)
      refine pa_turn hok hF _ hV (hok.1 bt hbt).2.1 j1 ?_
      have ob : pl_out a (b bt) bt = 2 * bt + 1 := if_neg (hok.1 bt hbt).2.2
      rw [j2, ob]
      exact ⟨0, hS.1, hS.2.2.2.1⟩
  have hall : ∀ f, f < F → pp_P m o f := by
    intro f hf
    obtain ⟨d, d1, d2⟩ := hF.2.1 f hf
    rw [← d2]
    obtain ⟨ha, hb, hne⟩ := hok.1 (d / 2) (by omega)
    by_cases g : d % 2 = 0
    · obtain ⟨i, i1, i2⟩ := hok.2.2.2 (a (d / 2)) ha (d / 2) (by omega) (Or.inl rfl)
      have := hQ _ ha i i1
      rw [i2, show pl_out a (a (d / 2)) (d / 2) = 2 * (d / 2) from if_pos rfl] at this
      rw [show d = 2 * (d / 2) by omega]
      exact this
    · obtain ⟨i, i1, i2⟩ := hok.2.2.2 (b (d / 2)) hb (d / 2) (by omega) (Or.inr rfl)
      have := hQ _ hb i i1
      rw [i2, show pl_out a (b (d / 2)) (d / 2) = 2 * (d / 2) + 1 from if_neg hne] at this
      rw [show d = 2 * (d / 2) + 1 by omega]
      exact this
  refine ⟨?_, hall⟩
  have m1 := pp_le hS
  have m2 : F ≤ m := pz_pigeon m F (fun f => if hf : f < F then Classical.choose (hall f hf) else 0) (fun f hf => by
    rw [dif_pos hf]
    exact (Classical.choose_spec (hall f hf)).1) (fun x y hx hy e => by
    rw [dif_pos hx, dif_pos hy] at e
    rw [← (Classical.choose_spec (hall x hx)).2, e]
    exact (Classical.choose_spec (hall y hy)).2)
  omega
/-- what flows into a knot flows out of it -/
theorem pa_kirch {fi se : Nat → Int32} (hN : fw_Net K n bt a b fi se cu) {k : Nat} (hk : k < K) (hkG : k ≠ b bt) (hkS : k ≠ a bt) : ds_sum n (fun w => fl_c K n (b bt) (a bt) a b (fl_pl bt cu) w * (ds_i k (a w) - ds_i k (b w))) = 0 := by
  obtain ⟨hK, hn, hf, hs, hp, hc⟩ := id hN
  obtain ⟨ha, hb, hne⟩ := hf bt hp
  have hg := fl_g_ne (G := b bt) (S := a bt) (fw_ab hN) hb ha hc
  have e1 := fl_form (pl := fl_pl bt cu) (fw_ab hN) (fl_H K n (b bt) (a bt) a b (fl_pl bt cu)) k
  have e2 := ds_adj K k (a bt) (fl_A K n (b bt) (a bt) a b (fl_pl bt cu)) hk ha
  rw [if_neg hkS] at e2
  have e3 : ds_sum K (fun j => fl_lp n a b (fl_pl bt cu) k j * fl_H K n (b bt) (a bt) a b (fl_pl bt cu) j) = 0 := by
    refine Eq.trans (ds_congr (fun j hj => ?_)) e2
    show _ = fl_A K n (b bt) (a bt) a b (fl_pl bt cu) k j * fl_H K n (b bt) (a bt) a b (fl_pl bt cu) j
    by_cases g : j = b bt
    · rw [g, fl_HG (m := K - 1) (by omega) hb ha hne, Int.mul_zero, Int.mul_zero]
    · unfold fl_A
      rw [if_neg (show ¬ j = K by omega), if_neg (fun q => q.elim hkG g)]
  rw [e3] at e1
  have e4 : ds_sum n (fun w => (ds_i k (a w) - ds_i k (b w)) * (if fl_pl bt cu w then fl_H K n (b bt) (a bt) a b (fl_pl bt cu) (a w) - fl_H K n (b bt) (a bt) a b (fl_pl bt cu) (b w) else 0)) = ((fl_g K n (b bt) (a bt) a b (fl_pl bt cu) : Nat) : Int) * ds_sum n (fun w => fl_c K n (b bt) (a bt) a b (fl_pl bt cu) w * (ds_i k (a w) - ds_i k (b w))) := by
    rw [← ds_mul]
    refine ds_congr (fun w hw => ?_)
    unfold fl_c
    by_cases g : fl_pl bt cu w = true
    · rw [if_pos g, if_pos g, fl_h_mul (fw_ab hN w hw).1, fl_h_mul (fw_ab hN w hw).2]
      grind
    · rw [if_neg g, if_neg g, Int.mul_zero, Int.zero_mul, Int.mul_zero]
  rw [e4] at e1
  rcases Int.mul_eq_zero.mp e1.symm with q | q
  · exact absurd q (by omega)
  · exact q
theorem pa_cons {fi se : Nat → Int32} (hN : fw_Net K n bt a b fi se cu) (h : rd_Ok K n F bt a b t u fc cu po) {o tw : Nat → Nat} {p : Nat → Int} (hS : pp_S F n bt fc (fl_c K n (b bt) (a bt) a b (fl_pl bt cu)) F o tw p) : ∀ w, w < n → w ≠ bt → p (fc (2 * w + 1)) - p (fc (2 * w)) = fl_c K n (b bt) (a bt) a b (fl_pl bt cu) w := by
  obtain ⟨hok, hF, hE, hbt, _, _, hconn, _⟩ := h
  obtain ⟨ha, hb, hne⟩ := hok.1 bt hbt
  obtain ⟨s1, s2, s3, s4, s5, s6, s7⟩ := hS
  let c := fl_c K n (b bt) (a bt) a b (fl_pl bt cu)
  let X : Nat → Int := fun k => ds_sum n (fun w => c w * (ds_i k (a w) - ds_i k (b w)))
  have cbt : c bt = 0 := by
    show fl_c K n (b bt) (a bt) a b (fl_pl bt cu) bt = 0
    unfold fl_c
    rw [if_neg (by unfold fl_pl; rw [decide_eq_true_iff]; exact fun q => q.1 rfl)]
  have hX : ∀ k, k < K → k ≠ b bt → k ≠ a bt → X k = 0 := fun k hk h1 h2 => pa_kirch hN hk h1 h2
  have hXs : X (a bt) + X (b bt) = 0 := by
    have tot : ds_sum K X = 0 := by
      show ds_sum K (fun k => ds_sum n (fun w => c w * (ds_i k (a w) - ds_i k (b w)))) = 0
      rw [ds_swap (fun k w => c w * (ds_i k (a w) - ds_i k (b w))) n K]
      refine Eq.trans (ds_congr (fun w hw => ?_)) (ds_zero n)
      rw [ds_mul, ds_sub]
      have q : ∀ x, x < K → ds_sum K (fun k => ds_i k x) = 1 := fun x hx => by
        rw [ds_sum_one _ x K hx (fun i _ hn => ds_i0 hn), ds_i1]
      rw [q _ (hok.1 w hw).1, q _ (hok.1 w hw).2.1, Int.sub_self, Int.mul_zero]
    have sp : ds_sum K X = ds_sum K (fun k => (if k = a bt then X k else 0) + (if k = b bt then X k else 0)) := ds_congr (fun k hk => by
      by_cases g1 : k = a bt
      · rw [if_pos g1, if_neg (by omega), Int.add_zero]
      · rw [if_neg g1, Int.zero_add]
        by_cases g2 : k = b bt
        · rw [if_pos g2]
        · rw [if_neg g2]; exact hX k hk g2 g1)
    rw [sp, ds_add, ds_one, ds_one, if_pos ha, if_pos hb] at tot
    exact tot
  have hdiv : ∀ k, k < K → ds_sum n (fun w => (if w = bt then - X (a bt) else c w) * (ds_i k (a w) - ds_i k (b w))) = 0 := by
    intro k hk
    have e : ds_sum n (fun w => (if w = bt then - X (a bt) else c w) * (ds_i k (a w) - ds_i k (b w))) = X k + - X (a bt) * (ds_i k (a bt) - ds_i k (b bt)) := by
      have e1 : ds_sum n (fun w => (if w = bt then - X (a bt) else c w) * (ds_i k (a w) - ds_i k (b w)) - c w * (ds_i k (a w) - ds_i k (b w))) = - X (a bt) * (ds_i k (a bt) - ds_i k (b bt)) := by
        rw [ds_sum_one _ bt n hbt (fun w _ hn => by rw [if_neg hn, Int.sub_self]), if_pos rfl, cbt, Int.zero_mul, Int.sub_zero]
      rw [ds_sub] at e1
      show _ = ds_sum n (fun w => c w * (ds_i k (a w) - ds_i k (b w))) + _
      omega
    rw [e]
    by_cases g1 : k = a bt
    · rw [g1, ds_i1, ds_i0 hne]
      omega
    · by_cases g2 : k = b bt
      · rw [g2, ds_i1, ds_i0 (fun z => hne z.symm)]
        omega
      · rw [hX k hk g2 g1, ds_i0 g1, ds_i0 g2]
        omega
  have res := pl_cons (pa_Fc hok hF) (fun w hw => ⟨(hok.1 w hw).1, (hok.1 w hw).2.1⟩) hE (fun q hq k j hk hj => (hconn (fun x => q k = q x) (fun w hw => by rw [hq w hw]) k j hk hj rfl)) o tw s3 (fun j j1 j2 => ⟨(s6 j j1 j2).1, (s6 j j1 j2).2.2.1⟩) (fun w => if w = bt then - X (a bt) else c w) p hdiv (fun j j1 j2 => by
    obtain ⟨_, t2, _, t4⟩ := s6 j j1 j2
    rw [if_neg t2]
    exact t4)
  intro w hw hwb
  have := res w hw
  rw [if_neg hwb] at this
  exact this
end

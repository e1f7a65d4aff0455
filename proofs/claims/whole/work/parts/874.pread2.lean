/-! ===== PURE 31b: read, the class finds the lines ===== -/
section
variable {E : Nat} {lv lf rt : Nat → Int} {m : Nat} {H L R : Nat → Int}
theorem fi_s1 (hr : ∀ e, e < E → lf e < rt e) (hc : ln_Cov E lv lf rt m H L R) (hs : ln_Srt m H L R) {e : Nat} (he : e < E) (h : m = 0 ∨ lv e < H (m - 1) ∨ (lv e = H (m - 1) ∧ R (m - 1) < lf e)) : ln_Cov E lv lf rt (m + 1) (upz H m (lv e)) (upz L m (lf e)) (upz R m (rt e)) ∧ ln_Srt (m + 1) (upz H m (lv e)) (upz L m (lf e)) (upz R m (rt e)) := by
  constructor
  · intro k hk
    by_cases g : k = m
    · subst g
      rw [upz_1, upz_1, upz_1]
      exact ⟨hr e he, fun x h1 h2 => ⟨e, he, rfl, h1, h2⟩⟩
    · rw [upz_2 _ _ g, upz_2 _ _ g, upz_2 _ _ g]
      exact hc k (by omega)
  · intro k k' h1 h2
    rw [upz_2 H _ (show k ≠ m by omega), upz_2 R _ (show k ≠ m by omega)]
    by_cases g : k' = m
    · subst g
      rw [upz_1, upz_1]
      have c1 := (hc (k' - 1) (by omega)).1
      by_cases g2 : k = k' - 1
      · rw [← g2] at h
        omega
      · have := hs k (k' - 1) (by omega) (by omega)
        omega
    · rw [upz_2 _ _ g, upz_2 _ _ g]
      exact hs k k' h1 (by omega)
theorem fi_s2 (hc : ln_Cov E lv lf rt (m + 1) H L R) (hs : ln_Srt (m + 1) H L R) {e : Nat} (he : e < E) (h1 : lv e = H m) (h2 : lf e ≤ R m) {y : Int} (hy : R m ≤ y) (hy2 : y = R m ∨ y = rt e) : ln_Cov E lv lf rt (m + 1) H L (upz R m y) ∧ ln_Srt (m + 1) H L (upz R m y) := by
  constructor
  · intro k hk
    by_cases g : k = m
    · subst g
      rw [upz_1]
      obtain ⟨c1, c2⟩ := hc k (by omega)
      refine ⟨by omega, fun x x1 x2 => ?_⟩
      rcases Int.lt_or_le x (R k) with g | g
      · exact c2 x x1 g
      · exact ⟨e, he, h1, by omega, by omega⟩
    · rw [upz_2 _ _ g]
      exact hc k (by omega)
  · intro k k' h1 h2
    rw [upz_2 R _ (show k ≠ m by omega)]
    exact hs k k' h1 h2
end
section
variable {T : Nat} {X Y Z : Nat → Int} {DL DY DS : Nat → Int32}
theorem fi_right (q : rq_Ok T X Y Z) (a : rq_At T X Y Z DL DY DS) {e : Nat} (he : e < 2 * T) : fX5_right DL DS (nI (e / 2)) = some (DL (e / 2) + DS (e / 2)) ∧ (DL (e / 2) + DS (e / 2)).toInt = ed_r X Z e := by
  have hT := q.2.1
  unfold fX5_right
  rw [pz_gd (pz_in (show e / 2 < 21 by omega) (by decide)), nI_clamp (by omega)]
  exact ⟨rfl, (rq_top q a (by omega)).2⟩
theorem fi_old (q : rq_Ok T X Y Z) (a : rq_At T X Y Z DL DY DS) {e : Nat} (he : e < 2 * T) (o g : Nat → Int32) (m j : Nat) (x2 x3 z : Int32) : ∃ y, jX3_find_93 o g (nI (m + 1)) DL DY DS z x2 x3 (nI j) (nI e) (nI (e / 2)) = some (.inr (x2, y, nI (j + 1), upd g e (nI m), nI (m + 1))) ∧ x3.toInt ≤ y.toInt ∧ ed_r X Z e ≤ y.toInt ∧ (y.toInt = x3.toInt ∨ y.toInt = ed_r X Z e) := by
  have hT := q.2.1
  obtain ⟨r1, r2⟩ := fi_right q a he
  unfold jX3_find_93
  rw [r1, pz_bs]
  simp only [pz_let, nI_1]
  rw [pz_gd (pz_in (show e < 42 by omega) (by decide)), nI_clamp (by omega), nI_sub1]
  refine ⟨_, rfl, ?_⟩
  by_cases c : x3 < DL (e / 2) + DS (e / 2)
  · rw [if_pos c]
    have := Int32.lt_iff_toInt_lt.mp c
    omega
  · rw [if_neg c]
    have := Int32.le_iff_toInt_le.mp (Int32.not_lt.mp c)
    omega
theorem fi_new (q : rq_Ok T X Y Z) (a : rq_At T X Y Z DL DY DS) {e : Nat} (he : e < 2 * T) (o g : Nat → Int32) (m j : Nat) (z : Int32) : ∃ v y, jX3_find_69 o g (nI m) DL DY DS z (nI j) (nI e) (nI (e / 2)) = some (.inr (v, y, nI (j + 1), upd g e (nI m), nI (m + 1))) ∧ v.toInt = ed_v Y Z e ∧ y.toInt = ed_r X Z e := by
  obtain ⟨r1, r2⟩ := fi_right q a he
  obtain ⟨v, v1, v2⟩ := rq_lev q a he
  obtain ⟨y, y1, y2, y3, y4⟩ := fi_old q a he o g m j v (DL (e / 2) + DS (e / 2)) z
  unfold jX3_find_69
  simp only [pz_let, nI_1]
  rw [v1, pz_bs, r1, pz_bs, y1]
  exact ⟨v, y, rfl, v2, by omega⟩
def fi_I (T : Nat) (X Y Z : Nat → Int) (σ : Nat → Nat) (j : Nat) (st : Int32 × Int32 × Int32 × (Nat → Int32) × Int32) : Prop := ∃ m H L R, st.2.2.1 = nI j ∧ st.2.2.2.2 = nI m ∧ m ≤ j ∧ ln_Cov (2 * T) (ed_v Y Z) (ed_l X) (ed_r X Z) m H L R ∧ ln_Srt m H L R ∧ (∀ p, p < j → ∃ k, k < m ∧ st.2.2.2.1 (σ p) = nI k ∧ H k = ed_v Y Z (σ p) ∧ L k ≤ ed_l X (σ p) ∧ ed_r X Z (σ p) ≤ R k) ∧ (0 < j → 0 < m ∧ st.1.toInt = H (m - 1) ∧ st.2.1.toInt = R (m - 1) ∧ H (m - 1) = ed_v Y Z (σ (j - 1)) ∧ L (m - 1) ≤ ed_l X (σ (j - 1)))
theorem fi_a (q : rq_Ok T X Y Z) (a : rq_At T X Y Z DL DY DS) {σ : Nat → Nat} (ho : so_Ok X Y Z (2 * T) σ) {j : Nat} (hj : j < 2 * T) (o : Nat → Int32) {g : Nat → Int32} {m : Nat} {H L R : Nat → Int} (z : Int32) (hm : m ≤ j) (hc : ln_Cov (2 * T) (ed_v Y Z) (ed_l X) (ed_r X Z) m H L R) (hs : ln_Srt m H L R) (hp : ∀ p, p < j → ∃ k, k < m ∧ g (σ p) = nI k ∧ H k = ed_v Y Z (σ p) ∧ L k ≤ ed_l X (σ p) ∧ ed_r X Z (σ p) ≤ R k) (h : m = 0 ∨ ed_v Y Z (σ j) < H (m - 1) ∨ (ed_v Y Z (σ j) = H (m - 1) ∧ R (m - 1) < ed_l X (σ j))) : ∃ s', jX3_find_69 o g (nI m) DL DY DS z (nI j) (nI (σ j)) (nI (σ j / 2)) = some (.inr s') ∧ fi_I T X Y Z σ (j + 1) s' := by
  have se := ho.1 j hj
  obtain ⟨v, y, l1, l2, l3⟩ := fi_new q a se o g m j z
  have hr : ∀ e, e < 2 * T → ed_l X e < ed_r X Z e := fun e he => by
    have := (q.2.2.1 (e / 2) (by omega)).2.2.1
    unfold ed_l ed_r
    omega
  obtain ⟨k1, k2⟩ := fi_s1 hr hc hs se h
  refine ⟨_, l1, m + 1, _, _, _, rfl, rfl, by omega, k1, k2, fun p h1 => ?_, fun _ => ⟨by omega, ?_, ?_, ?_, ?_⟩⟩
  · show ∃ k, k < m + 1 ∧ upd g (σ j) (nI m) (σ p) = nI k ∧ _
    by_cases e : p = j
    · subst e
      refine ⟨m, by omega, tr_u1 _ _ _, ?_⟩
      rw [upz_1, upz_1, upz_1]
      exact ⟨rfl, Int.le_refl _, Int.le_refl _⟩
    · obtain ⟨k, c1, c2, c3⟩ := hp p (by omega)
      refine ⟨k, by omega, ?_, ?_⟩
      · rw [tr_u2 _ _ ((ho.2.2 p j (by omega) hj).1)]; exact c2
      · rw [upz_2 _ _ (by omega), upz_2 _ _ (by omega), upz_2 _ _ (by omega)]; exact c3
  · show v.toInt = _
    rw [Nat.add_sub_cancel, upz_1]; exact l2
  · show y.toInt = _
    rw [Nat.add_sub_cancel, upz_1]; exact l3
  · rw [Nat.add_sub_cancel, Nat.add_sub_cancel, upz_1]
  · rw [Nat.add_sub_cancel, Nat.add_sub_cancel, upz_1]; exact Int.le_refl _
theorem fi_b (q : rq_Ok T X Y Z) (a : rq_At T X Y Z DL DY DS) {σ : Nat → Nat} (ho : so_Ok X Y Z (2 * T) σ) {j : Nat} (hj : j < 2 * T) (o : Nat → Int32) {g : Nat → Int32} {m : Nat} {H L R : Nat → Int} (z : Int32) {x2 x3 : Int32} (hm : m + 1 ≤ j) (hc : ln_Cov (2 * T) (ed_v Y Z) (ed_l X) (ed_r X Z) (m + 1) H L R) (hs : ln_Srt (m + 1) H L R) (hp : ∀ p, p < j → ∃ k, k < m + 1 ∧ g (σ p) = nI k ∧ H k = ed_v Y Z (σ p) ∧ L k ≤ ed_l X (σ p) ∧ ed_r X Z (σ p) ≤ R k) (h1 : x2.toInt = H m) (h2 : x3.toInt = R m) (h3 : ed_v Y Z (σ j) = H m) (h4 : ed_l X (σ j) ≤ R m) (h5 : L m ≤ ed_l X (σ j)) : ∃ s', jX3_find_93 o g (nI (m + 1)) DL DY DS z x2 x3 (nI j) (nI (σ j)) (nI (σ j / 2)) = some (.inr s') ∧ fi_I T X Y Z σ (j + 1) s' := by
  have se := ho.1 j hj
  obtain ⟨y, l1, l2, l3, l4⟩ := fi_old q a se o g m j x2 x3 z
  obtain ⟨k1, k2⟩ := fi_s2 hc hs se h3 h4 (y := y.toInt) (by omega) (by omega)
  refine ⟨_, l1, m + 1, _, _, _, rfl, rfl, by omega, k1, k2, fun p h1 => ?_, fun _ => ⟨by omega, ?_, ?_, ?_, ?_⟩⟩
  · show ∃ k, k < m + 1 ∧ upd g (σ j) (nI m) (σ p) = nI k ∧ _
    by_cases e : p = j
    · subst e
      refine ⟨m, by omega, tr_u1 _ _ _, h3.symm, h5, ?_⟩
      rw [upz_1]
      exact l3
    · obtain ⟨k, c1, c2, c3, c4, c5⟩ := hp p (by omega)
      refine ⟨k, by omega, ?_, c3, c4, ?_⟩
      · rw [tr_u2 _ _ ((ho.2.2 p j (by omega) hj).1)]; exact c2
      · by_cases e2 : k = m
        · subst e2
          rw [upz_1]
          omega
        · rw [upz_2 _ _ e2]; exact c5
  · show x2.toInt = _
    rw [Nat.add_sub_cancel]; exact h1
  · show y.toInt = _
    rw [Nat.add_sub_cancel, upz_1]
  · rw [Nat.add_sub_cancel, Nat.add_sub_cancel]; exact h3.symm
  · rw [Nat.add_sub_cancel, Nat.add_sub_cancel]; exact h5
theorem fi_step (q : rq_Ok T X Y Z) (a : rq_At T X Y Z DL DY DS) {σ : Nat → Nat} (ho : so_Ok X Y Z (2 * T) σ) {o : Nat → Int32} (hO : ∀ p, p < 2 * T → o p = nI (σ p)) {j : Nat} (hj : j < 2 * T) {st : Int32 × Int32 × Int32 × (Nat → Int32) × Int32} (h : fi_I T X Y Z σ j st) : ∃ s', bX3_find_17 o DL DY DS (nI T) st = some (.inr s') ∧ fi_I T X Y Z σ (j + 1) s' := by
  have hT := q.2.1
  obtain ⟨x2, x3, x4, g, hm⟩ := st
  obtain ⟨m, H, L, R, i1, i2, i3, i4, i5, i6, i7⟩ := h
  dsimp only at i1 i2 i6 i7
  subst i1 i2
  have se := ho.1 j hj
  unfold bX3_find_17
  dsimp only
  rw [nI_two, if_neg (nI_ge hj (by omega)), pz_gd (pz_in (show j < 42 by omega) (by decide)), nI_clamp (by omega), hO j hj]
  simp only [pz_let]
  rw [(nt_d1 (σ j) (by omega)).1]
  by_cases j0 : j = 0
  · subst j0
    rw [if_pos (show nI 0 = 0 from rfl)]
    exact fi_a q a ho hj o (nI T) i3 i4 i5 i6 (Or.inl (by omega))
  · rw [if_neg (show ¬ nI j = 0 from fun k => j0 (pz_inj (b := 0) (by omega) (by decide) k))]
    obtain ⟨p1, p2, p3, p4, p5⟩ := i7 (by omega)
    obtain ⟨m', rfl⟩ : ∃ m', m = m' + 1 := ⟨m - 1, by omega⟩
    rw [Nat.add_sub_cancel] at p2 p3 p4 p5
    obtain ⟨v, v1, v2⟩ := rq_lev q a se
    have so := (ho.2.2 (j - 1) j (by omega) hj).2
    unfold ed_e at so
    rw [v1, pz_bs, pz_gd (pz_in (show σ j / 2 < 21 by omega) (by decide)), nI_clamp (by omega)]
    have a1 : (DL (σ j / 2)).toInt = ed_l X (σ j) := (a (σ j / 2) (by omega)).1
    by_cases c : v = x2
    · rw [if_pos c]
      have c1 : ed_v Y Z (σ j) = H m' := by rw [← v2, c, p2]
      by_cases d : DL (σ j / 2) ≤ x3
      · rw [if_pos d]
        have d1 := Int32.le_iff_toInt_le.mp d
        exact fi_b q a ho hj o (nI T) i3 i4 i5 i6 p2 p3 c1 (by omega) (by omega)
      · rw [if_neg d]
        have d1 := Int32.lt_iff_toInt_lt.mp (Int32.not_le.mp d)
        refine fi_a q a ho hj o (nI T) i3 i4 i5 i6 (Or.inr (Or.inr ?_))
        rw [Nat.add_sub_cancel]
        exact ⟨c1, by omega⟩
    · rw [if_neg c]
      have c1 : ed_v Y Z (σ j) ≠ H m' := fun k => c (Int32.toInt_inj.mp (by rw [v2, k, p2]))
      refine fi_a q a ho hj o (nI T) i3 i4 i5 i6 (Or.inr (Or.inl ?_))
      rw [Nat.add_sub_cancel]
      omega
theorem fi_all (q : rq_Ok T X Y Z) (a : rq_At T X Y Z DL DY DS) (o0 g0 : Nat → Int32) (z : Int32) : ∃ o g σ m H L R, fX3_find o0 g0 z DL DY DS (nI T) = some (o, g, nI m) ∧ so_Ok X Y Z (2 * T) σ ∧ (∀ p, p < 2 * T → o p = nI (σ p)) ∧ m ≤ 2 * T ∧ ln_Cov (2 * T) (ed_v Y Z) (ed_l X) (ed_r X Z) m H L R ∧ ln_Srt m H L R ∧ (∀ e, e < 2 * T → ∃ k, k < m ∧ g e = nI k ∧ H k = ed_v Y Z e ∧ L k ≤ ed_l X e ∧ ed_r X Z e ≤ R k) := by
  have hT := q.2.1
  obtain ⟨o, σ, o1, o2, o3⟩ := so_all q a o0
  obtain ⟨r, l1, l2⟩ := pz_fin (body := bX3_find_17 o DL DY DS (nI T)) (fi_I T X Y Z σ) (fun r => ∃ m H L R, r.2 = nI m ∧ m ≤ 2 * T ∧ ln_Cov (2 * T) (ed_v Y Z) (ed_l X) (ed_r X Z) m H L R ∧ ln_Srt m H L R ∧ (∀ p, p < 2 * T → ∃ k, k < m ∧ r.1 (σ p) = nI k ∧ H k = ed_v Y Z (σ p) ∧ L k ≤ ed_l X (σ p) ∧ ed_r X Z (σ p) ≤ R k)) (2 * T) (by
    intro j st hj h
    rcases Nat.lt_or_ge j (2 * T) with c | c
    · exact Or.inr ⟨c, fi_step q a o2 o3 c h⟩
    · left
      have e : j = 2 * T := by omega
      subst e
      obtain ⟨x2, x3, x4, g, hm⟩ := st
      obtain ⟨m, H, L, R, i1, i2, i3, i4, i5, i6, i7⟩ := h
      dsimp only at i1 i2 i6
      subst i1 i2
      unfold bX3_find_17
      dsimp only
      rw [nI_two, if_pos (nI_le (Nat.le_refl _) (by omega))]
      exact ⟨_, rfl, m, H, L, R, rfl, i3, i4, i5, i6⟩) 1000 0 (0, 0, 0, g0, 0) (by omega) ⟨0, fun _ => 0, fun _ => 0, fun _ => 0, rfl, rfl, Nat.le_refl _, fun k hk => absurd hk (by omega), fun k k' _ hk => absurd hk (by omega), fun p hp => absurd hp (by omega), fun h => absurd h (by omega)⟩ (by omega)
  obtain ⟨g, hm⟩ := r
  obtain ⟨m, H, L, R, r1, r2, r3, r4, r5⟩ := l2
  dsimp only at r1 r5
  subst r1
  unfold fX3_find
  rw [o1, pz_bs, l1, pz_bs]
  refine ⟨o, g, σ, m, H, L, R, rfl, o2, o3, r2, r3, r4, fun e he => ?_⟩
  obtain ⟨p, p1, p2⟩ := o2.2.1 e he
  rw [← p2]
  exact r5 p p1
end

/-! ===== PURE 28e: the class's search; both find the same ===== -/
section
variable {K n F be N : Nat} {a b fc : Nat → Nat} {fi se cu : Nat → Int32} {h c p : Nat → Int} {hC cC plC fC hM cM pm fM : Nat → Int32} {wv : Nat → Nat} {Y' QL QY QS : Nat → Int32}
theorem rb_size (B : bl_Ok n N be a b fc cu h c p wv Y' QL QY QS) {X Y R T : Int} {m : Int32} (hm : ∀ k, bt m k = (decide (k < N) && ri_b be cu fc a b h c p X Y R T (wv k))) : fJ6_bitCount_0f7a4 m = some (nI (ri_ct n be cu fc a b h c p X Y R T)) := by
  rw [bc_bitCount, ri_cnt4 B hm]
theorem rb_size0 : fJ6_bitCount_0f7a4 0 = some (nI 0) := by decide
theorem rb_les {k k0 : Nat} {X Y R X0 Y0 R0 : Int} (hk : k ≤ 22) (hk0 : k0 ≤ 22) (h1 : 1 ≤ k0) (bX : X.natAbs < 2 ^ 28) (bY : Y.natAbs < 2 ^ 28) (bR : R.natAbs < 2 ^ 28) (bX0 : X0.natAbs < 2 ^ 28) (bY0 : Y0.natAbs < 2 ^ 28) (bR0 : R0.natAbs < 2 ^ 28) : ∃ v, fX2_isLesserInner (nI k0) (Int32.ofInt X0) (Int32.ofInt Y0) (Int32.ofInt (R0 - X0)) (nI k) (Int32.ofInt X) (Int32.ofInt Y) (Int32.ofInt (R - X)) = some v ∧ ((v = 0 ∧ ri_le k0 X0 Y0 R0 k X Y R) ∨ (v = 1 ∧ ri_le k X Y R k0 X0 Y0 R0)) := by
  have j0 : ¬ nI k0 = 0 := nI_ne0 (by omega) (by omega)
  have j1 := nI_leI (a := k0) (b := k) (by omega) (by omega)
  have j2 := nI_eq (a := k) (b := k0) (by omega) (by omega)
  have k1 := pi_le (x := X0) (y := X) (by omega) (by omega)
  have k2 := pi_eq (x := X) (y := X0) (by omega) (by omega)
  have k3 := pi_le (x := Y0) (y := Y) (by omega) (by omega)
  have k4 := pi_eq (x := Y) (y := Y0) (by omega) (by omega)
  have k5 := pi_le (x := R0 - X0) (y := R - X) (by omega) (by omega)
  unfold fX2_isLesserInner jX2_isLesserInner_15 jX2_isLesserInner_30
  rw [if_neg j0, if_neg j0]
  unfold ri_le
  by_cases q2 : k = k0
  · rw [if_pos (j2.mpr q2)]
    by_cases q4 : X = X0
    · rw [if_pos (k2.mpr q4)]
      by_cases q6 : Y = Y0
      · rw [if_pos (k4.mpr q6)]
        by_cases q7 : R0 - X0 ≤ R - X
        · rw [if_pos (k5.mpr q7)]; exact ⟨0, rfl, Or.inl ⟨rfl, by omega⟩⟩
        · rw [if_neg (fun z => q7 (k5.mp z))]; exact ⟨1, rfl, Or.inr ⟨rfl, by omega⟩⟩
      · rw [if_neg (fun z => q6 (k4.mp z))]
        by_cases q7 : Y0 ≤ Y
        · rw [if_pos (k3.mpr q7)]; exact ⟨0, rfl, Or.inl ⟨rfl, by omega⟩⟩
        · rw [if_neg (fun z => q7 (k3.mp z))]; exact ⟨1, rfl, Or.inr ⟨rfl, by omega⟩⟩
    · rw [if_neg (fun z => q4 (k2.mp z))]
      by_cases q7 : X0 ≤ X
      · rw [if_pos (k1.mpr q7)]; exact ⟨0, rfl, Or.inl ⟨rfl, by omega⟩⟩
      · rw [if_neg (fun z => q7 (k1.mp z))]; exact ⟨1, rfl, Or.inr ⟨rfl, by omega⟩⟩
  · rw [if_neg (fun z => q2 (j2.mp z))]
    by_cases q7 : k0 ≤ k
    · rw [if_pos (j1.mpr q7)]; exact ⟨0, rfl, Or.inl ⟨rfl, by omega⟩⟩
    · rw [if_neg (fun z => q7 (j1.mp z))]; exact ⟨1, rfl, Or.inr ⟨rfl, by omega⟩⟩
theorem rb_con (H : ly_Ok K n F be a b fc fi se cu h c p hC cC plC fC hM cM pm fM) (B : bl_Ok n N be a b fc cu h c p wv Y' QL QY QS) {S : Int → Int → Int → Int → Prop} {s t : Nat} (hs : s < N) (ht : t < N) {X Y R T : Int} (hX : sq_l fc p (wv s) = X) (hY : sq_y a b h (wv s) = Y) (hR : sq_l fc p (wv t) + sq_s c (wv t) = R) (hT : sq_y a b h (wv t) + sq_s c (wv t) = T) (eR : fX5_right QL QS (nI t) = some (Int32.ofInt R)) (eT : fX5_top QY QS (nI t) = some (Int32.ofInt T)) (hXR : X < R) (hYT : Y < T) (z1 z2 z3 z4 z5 : Int32) (hst : rb_4 n N be cu fc a b wv h c p S (z1, z2, z3, z4, z5)) :
    ∃ st', fX2_considerInner z1 z2 z3 z4 z5 QL QY QS (nI N) (nI s) (nI t) = some st' ∧ rb_4 n N be cu fc a b wv h c p (rb_1 S X Y R T) st' := by
  have hn := H.2.1
  obtain ⟨b1, b2, b3⟩ := id B
  obtain ⟨s1, s2, s3, s4, s5, s6, s7⟩ := b3 s hs
  obtain ⟨t1, t2, t3, t4, t5, t6, t7⟩ := b3 t ht
  obtain ⟨_, x2, x3, _⟩ := ly_b H s1
  obtain ⟨_, c2, c3, c4⟩ := ly_b H t1
  rw [hX] at s5 x2
  rw [hY] at s6 x3
  have bX : X.natAbs < 2 ^ 28 := by omega
  have bY : Y.natAbs < 2 ^ 28 := by omega
  have bR : R.natAbs < 2 ^ 28 := by omega
  have bT : T.natAbs < 2 ^ 28 := by omega
  have i21 : dk_in (nI s) 21 = true := pz_in (by omega) (by decide)
  have ks : (nI s).toNatClampNeg = s := nI_clamp (by omega)
  obtain ⟨m, m1, m2⟩ := ri_between H B bX bY bR bT hXR hYT
  unfold fX2_considerInner
  rw [pz_gd i21, ks, s5, s6, pz_let, pz_let, eR, pz_bs, pz_let, pz_bs, eT, pz_bs, m1, pz_bs, ← Int32.ofInt_sub]
  have skip : ¬ ri_cand n be cu fc a b h c p X Y R T → ∃ st' : Int32 × Int32 × Int32 × Int32 × Int32, some (z1, z2, z3, z4, z5) = some st' ∧ rb_4 n N be cu fc a b wv h c p (rb_1 S X Y R T) st' := fun nc => ⟨_, rfl, rb_no hst nc⟩
  rcases m2 with ⟨gd, hm⟩ | ⟨gd, rfl⟩
  · have ctl : ri_ct n be cu fc a b h c p X Y R T ≤ N := by
      rw [b2]
      exact ds_cnt_mono n (fun i _ hi => by
        unfold ri_b at hi
        rw [Bool.and_eq_true] at hi
        exact hi.1)
    rw [rb_size B hm, pz_bs]
    by_cases g3 : ri_ct n be cu fc a b h c p X Y R T < 2
    · rw [if_pos (show nI (ri_ct n be cu fc a b h c p X Y R T) < (2 : Int32) from (nI_ltI (b := 2) (by omega) (by decide)).mpr g3)]
      exact skip (fun z => by have := z.2.2.2.1; omega)
    rw [if_neg (show ¬ nI (ri_ct n be cu fc a b h c p X Y R T) < (2 : Int32) from fun z => g3 ((nI_ltI (b := 2) (by omega) (by decide)).mp z))]
    by_cases g4 : ri_ct n be cu fc a b h c p X Y R T = N
    · rw [if_pos (nI_le (a := N) (b := ri_ct n be cu fc a b h c p X Y R T) (by omega) (by omega))]
      exact skip (fun z => z.2.2.2.2 (by rw [g4, b2]))
    rw [if_neg (nI_ge (a := ri_ct n be cu fc a b h c p X Y R T) (b := N) (by omega) (by omega))]
    have cd : ri_cand n be cu fc a b h c p X Y R T := ⟨hXR, hYT, gd, by omega, by rw [← b2]; exact g4⟩
    have take : (∀ X' Y' R' T', S X' Y' R' T' → ri_cand n be cu fc a b h c p X' Y' R' T' → ri_le (ri_ct n be cu fc a b h c p X Y R T) X Y R (ri_ct n be cu fc a b h c p X' Y' R' T') X' Y' R') → ∃ st' : Int32 × Int32 × Int32 × Int32 × Int32, some (m, nI (ri_ct n be cu fc a b h c p X Y R T), Int32.ofInt X, Int32.ofInt Y, Int32.ofInt (R - X)) = some st' ∧ rb_4 n N be cu fc a b wv h c p (rb_1 S X Y R T) st' := fun ho => ⟨_, rfl, rb_new cd ⟨hm, rfl, rfl, rfl, rfl, bX, bY, bR⟩ ho⟩
    rcases hst with ⟨z0, hno⟩ | ⟨X0, Y0, R0, T0, p1, p2, p3, p4⟩
    · have z2' : z2 = 0 := z0.2
      have l1 : fX2_isLesserInner z2 z3 z4 z5 (nI (ri_ct n be cu fc a b h c p X Y R T)) (Int32.ofInt X) (Int32.ofInt Y) (Int32.ofInt (R - X)) = some 1 := by
        unfold fX2_isLesserInner jX2_isLesserInner_15 jX2_isLesserInner_30
        rw [if_pos z2', if_pos z2']
      rw [l1, pz_bs, if_neg (by decide)]
      exact take (fun X' Y' R' T' hs hc' => absurd hc' (hno _ _ _ _ hs))
    · obtain ⟨e1, e2, e3, e4, e5, e6, e7, e8⟩ := id p3
      have e2' : z2 = nI (ri_ct n be cu fc a b h c p X0 Y0 R0 T0) := e2
      have e3' : z3 = Int32.ofInt X0 := e3
      have e4' : z4 = Int32.ofInt Y0 := e4
      have e5' : z5 = Int32.ofInt (R0 - X0) := e5
      have ctl0 : ri_ct n be cu fc a b h c p X0 Y0 R0 T0 ≤ 22 := Nat.le_trans (ds_cnt_le _ n) hn
      have ct2 := p2.2.2.2.1
      obtain ⟨v, v1, v2⟩ := rb_les (k := ri_ct n be cu fc a b h c p X Y R T) (k0 := ri_ct n be cu fc a b h c p X0 Y0 R0 T0) (X := X) (Y := Y) (R := R) (X0 := X0) (Y0 := Y0) (R0 := R0) (Nat.le_trans (ds_cnt_le _ n) hn) ctl0 (Nat.le_trans (by decide) ct2) bX bY bR e6 e7 e8
      rw [← e2', ← e3', ← e4', ← e5'] at v1
      rw [v1, pz_bs]
      rcases v2 with ⟨rfl, hl⟩ | ⟨rfl, hl⟩
      · rw [if_pos rfl]
        exact ⟨_, rfl, rb_keep p1 p2 p3 p4 hl⟩
      · rw [if_neg (by decide)]
        exact take (fun X' Y' R' T' hs hc' => ri_tr hl (p4 X' Y' R' T' hs hc'))
  · rw [rb_size0, pz_bs, if_pos (show nI 0 < (2 : Int32) by decide)]
    exact skip (fun zz => gd zz.2.2.1)
theorem rb_step4 (H : ly_Ok K n F be a b fc fi se cu h c p hC cC plC fC hM cM pm fM) (B : bl_Ok n N be a b fc cu h c p wv Y' QL QY QS) {S : Int → Int → Int → Int → Prop} {s t : Nat} (hs : s < N) (ht : t < N) (st : Int32 × Int32 × Int32 × Int32 × Int32) (hst : rb_4 n N be cu fc a b wv h c p S st) :
    ∃ st' : Int32 × Int32 × Int32 × Int32 × Int32, bX2_seekLeastInner_25 QL QY QS (nI N) (nI s) (nI t, st.1, st.2.1, st.2.2.1, st.2.2.2.1, st.2.2.2.2) = some (.inr (nI (t + 1), st'.1, st'.2.1, st'.2.2.1, st'.2.2.2.1, st'.2.2.2.2)) ∧ rb_4 n N be cu fc a b wv h c p (rb_1 S (sq_l fc p (wv s)) (sq_y a b h (wv s)) (sq_l fc p (wv t) + sq_s c (wv t)) (sq_y a b h (wv t) + sq_s c (wv t))) st' := by
  obtain ⟨z1, z2, z3, z4, z5⟩ := st
  obtain ⟨b1, b2, b3⟩ := id B
  obtain ⟨s1, s2, s3, s4, s5, s6, s7⟩ := b3 s hs
  obtain ⟨t1, t2, t3, t4, t5, t6, t7⟩ := b3 t ht
  obtain ⟨_, x2, x3, _⟩ := ly_b H s1
  obtain ⟨_, c2, c3, c4⟩ := ly_b H t1
  have eR : fX5_right QL QS (nI t) = some (Int32.ofInt (sq_l fc p (wv t) + sq_s c (wv t))) := by rw [pf_right (by omega), t5, t7, ri_sum]
  have eT : fX5_top QY QS (nI t) = some (Int32.ofInt (sq_y a b h (wv t) + sq_s c (wv t))) := by rw [pf_top (by omega), t6, t7, ri_sum]
  have i21 : dk_in (nI s) 21 = true := pz_in (by omega) (by decide)
  have ks : (nI s).toNatClampNeg = s := nI_clamp (by omega)
  have i1 := pi_le (x := sq_l fc p (wv t) + sq_s c (wv t)) (y := sq_l fc p (wv s)) (by omega) (by omega)
  have i2 := pi_le (x := sq_y a b h (wv t) + sq_s c (wv t)) (y := sq_y a b h (wv s)) (by omega) (by omega)
  have lt : ¬ nI N ≤ nI t := nI_ge ht (by omega)
  by_cases g1 : sq_l fc p (wv t) + sq_s c (wv t) ≤ sq_l fc p (wv s)
  · refine ⟨(z1, z2, z3, z4, z5), ?_, rb_no hst (fun z => by have := z.1; omega)⟩
    unfold bX2_seekLeastInner_25 jX2_seekLeastInner_82
    rw [if_neg lt, pz_gd i21, ks, eR, pz_bs, s5, if_pos (i1.mpr g1), pz_let, nI_1]
  by_cases g2 : sq_y a b h (wv t) + sq_s c (wv t) ≤ sq_y a b h (wv s)
  · refine ⟨(z1, z2, z3, z4, z5), ?_, rb_no hst (fun z => by have := z.2.1; omega)⟩
    unfold bX2_seekLeastInner_25 jX2_seekLeastInner_82
    rw [if_neg lt, pz_gd i21, ks, eR, pz_bs, s5, if_neg (fun z => g1 (i1.mp z)), eT, pz_bs, s6, if_pos (i2.mpr g2), pz_let, nI_1]
  obtain ⟨st', e1, e2⟩ := rb_con H B hs ht rfl rfl rfl rfl eR eT (by omega) (by omega) z1 z2 z3 z4 z5 hst
  refine ⟨st', ?_, e2⟩
  unfold bX2_seekLeastInner_25 jX2_seekLeastInner_82
  rw [if_neg lt, pz_gd i21, ks, eR, pz_bs, s5, if_neg (fun z => g1 (i1.mp z)), eT, pz_bs, s6, if_neg (fun z => g2 (i2.mp z)), e1, pz_bs, pz_let, nI_1]
theorem rb_all4 (H : ly_Ok K n F be a b fc fi se cu h c p hC cC plC fC hM cM pm fM) (B : bl_Ok n N be a b fc cu h c p wv Y' QL QY QS) (z1 z2 z3 z4 z5 : Int32) : ∃ st : Int32 × Int32 × Int32 × Int32 × Int32, fX2_seekLeastInner z1 z2 z3 z4 z5 QL QY QS (nI N) = some st ∧ rb_4 n N be cu fc a b wv h c p (fun X Y R T => ∃ s, s < N ∧ ∃ t, t < N ∧ rb_P fc a b h c p (wv s) (wv s) (wv t) (wv t) X Y R T) st := by
  have hb1 := B.1
  obtain ⟨st', e1, e2⟩ := rb_lp (rb_4 n N be cu fc a b wv h c p) (fun st j => (j, st.1, st.2.1, st.2.2.1, st.2.2.2.1, st.2.2.2.2)) (fun st => st) (bX2_seekLeastInner_12 QL QY QS (nI N)) N (by omega) (fun j X Y R T => ∃ s, s < j ∧ ∃ t, t < N ∧ rb_P fc a b h c p (wv s) (wv s) (wv t) (wv t) X Y R T) (fun j hj st hR => by
    obtain ⟨st', e1, e2⟩ := rb_lp (rb_4 n N be cu fc a b wv h c p) (fun st j => (j, st.1, st.2.1, st.2.2.1, st.2.2.2.1, st.2.2.2.2)) (fun st => st) (bX2_seekLeastInner_25 QL QY QS (nI N) (nI j)) N (by omega) (fun i X Y R T => (∃ s, s < j ∧ ∃ t, t < N ∧ rb_P fc a b h c p (wv s) (wv s) (wv t) (wv t) X Y R T) ∨ ∃ t, t < i ∧ rb_P fc a b h c p (wv j) (wv j) (wv t) (wv t) X Y R T) (fun i hi st hR => by
      obtain ⟨st', e1, e2⟩ := rb_step4 H B hj hi st hR
      refine ⟨st', e1, rb_ext (fun X Y R T => ?_) e2⟩
      unfold rb_1 rb_P
      constructor
      · rintro ((z | ⟨t, w1, w3⟩) | ⟨z1, z2, z3, z4⟩)
        · exact Or.inl z
        · exact Or.inr ⟨t, by omega, w3⟩
        · exact Or.inr ⟨i, by omega, z1, z2, z3, z4⟩
      · rintro (z | ⟨t, w1, w3⟩)
        · exact Or.inl (Or.inl z)
        · by_cases e : t = i
          · subst e; exact Or.inr w3
          · exact Or.inl (Or.inr ⟨t, by omega, w3⟩)) (fun st => by
      unfold bX2_seekLeastInner_25
      dsimp only
      rw [if_pos (nI_le (Nat.le_refl _) (by omega))]) st (rb_ext (fun X Y R T => ⟨fun z => Or.inl z, fun z => z.elim id (fun ⟨_, w1, _⟩ => absurd w1 (by omega))⟩) hR)
    refine ⟨st', ?_, rb_ext (fun X Y R T => ?_) e2⟩
    · unfold bX2_seekLeastInner_12
      dsimp only
      have e1' : dk_loop (bX2_seekLeastInner_25 QL QY QS (nI N) (nI j)) 1000 (0, st.1, st.2.1, st.2.2.1, st.2.2.2.1, st.2.2.2.2) = some st' := e1
      rw [if_neg (nI_ge hj (by omega)), e1', pz_bs, pz_let, nI_1]
    · constructor
      · rintro (⟨s, w1, w3⟩ | ⟨t, w1, w3⟩)
        · exact ⟨s, by omega, w3⟩
        · exact ⟨j, by omega, t, w1, w3⟩
      · rintro ⟨s, w1, t, w2, w3⟩
        by_cases e : s = j
        · subst e; exact Or.inr ⟨t, w2, w3⟩
        · exact Or.inl ⟨s, by omega, t, w2, w3⟩) (fun st => by
    unfold bX2_seekLeastInner_12
    dsimp only
    rw [if_pos (nI_le (Nat.le_refl _) (by omega))]) (0, 0, z3, z4, z5) (Or.inl ⟨⟨rfl, rfl⟩, fun X Y R T ⟨_, w1, _⟩ => absurd w1 (by omega)⟩)
  refine ⟨st', ?_, e2⟩
  unfold fX2_seekLeastInner
  have e1' : dk_loop (bX2_seekLeastInner_12 QL QY QS (nI N)) 1000 (0, 0, 0, z3, z4, z5) = some st' := e1
  rw [e1', pz_bs]
end
/-- both find the same set -/
theorem rb_same {K n F be N : Nat} {a b t : Nat → Nat} {u : Nat → Nat → Nat} {fc : Nat → Nat} {fi se cu : Nat → Int32} {po : Int32} {h c p : Nat → Int} {hC cC plC fC hM cM pm fM : Nat → Int32} {wv : Nat → Nat} {Y' QL QY QS : Nat → Int32} (hrd : rd_Ok K n F be a b t u fc cu po) (H : ly_Ok K n F be a b fc fi se cu h c p hC cC plC fC hM cM pm fM) (B : bl_Ok n N be a b fc cu h c p wv Y' QL QY QS) (z1 z2 z3 z4 z5 : Int32) :
    ∃ (st4 : Int32 × Int32 × Int32 × Int32 × Int32) (m7 : Int32), fX2_seekLeastInner z1 z2 z3 z4 z5 QL QY QS (nI N) = some st4 ∧ fX7_inner (nI n) (nI be) fi se cu fM hM cM pm = some m7 ∧ (st4.2.1 = 0 ↔ m7 = 0) ∧ (∀ s, s < N → bt st4.1 s = bt m7 (wv s)) ∧ (∀ w, bt m7 w = true → w < n ∧ sq_b be cu c w = true) := by
  obtain ⟨st4, e4, r4⟩ := rb_all4 H B z1 z2 z3 z4 z5
  obtain ⟨st7, e7, r7⟩ := rb_all7 H
  have hfo := H.2.2.2.2.2.2.1
  obtain ⟨b1, b2, b3⟩ := id B
  have to7 : ∀ X Y R T, (∃ s, s < N ∧ ∃ t, t < N ∧ rb_P fc a b h c p (wv s) (wv s) (wv t) (wv t) X Y R T) → (∃ wa, wa < n ∧ sq_b be cu c wa = true ∧ ∃ wb, wb < n ∧ sq_b be cu c wb = true ∧ ∃ wc, wc < n ∧ sq_b be cu c wc = true ∧ ∃ wd, wd < n ∧ sq_b be cu c wd = true ∧ rb_P fc a b h c p wa wb wc wd X Y R T) := by
    rintro X Y R T ⟨s, hs, t, ht, hP⟩
    obtain ⟨s1, s2, _⟩ := b3 s hs
    obtain ⟨t1, t2, _⟩ := b3 t ht
    exact ⟨wv s, s1, s2, wv s, s1, s2, wv t, t1, t2, wv t, t1, t2, hP⟩
  have bd : ∀ X Y R T, (∃ wa, wa < n ∧ sq_b be cu c wa = true ∧ ∃ wb, wb < n ∧ sq_b be cu c wb = true ∧ ∃ wc, wc < n ∧ sq_b be cu c wc = true ∧ ∃ wd, wd < n ∧ sq_b be cu c wd = true ∧ rb_P fc a b h c p wa wb wc wd X Y R T) → 0 ≤ X ∧ 0 ≤ Y ∧ R ≤ p (fc (2 * be)) ∧ T ≤ h (a be) := by
    rintro X Y R T ⟨wa, a1, a2, wb, c1, c2, wc, d1, d2, wd, f1, f2, q1, q2, q3, q4⟩
    have x1 := tl_in hrd hfo a1 a2
    have x2 := tl_in hrd hfo c1 c2
    have x3 := tl_in hrd hfo d1 d2
    have x4 := tl_in hrd hfo f1 f2
    omega
  have to4 : ∀ X Y R T, (∃ wa, wa < n ∧ sq_b be cu c wa = true ∧ ∃ wb, wb < n ∧ sq_b be cu c wb = true ∧ ∃ wc, wc < n ∧ sq_b be cu c wc = true ∧ ∃ wd, wd < n ∧ sq_b be cu c wd = true ∧ rb_P fc a b h c p wa wb wc wd X Y R T) → ri_cand n be cu fc a b h c p X Y R T → (∃ s, s < N ∧ ∃ t, t < N ∧ rb_P fc a b h c p (wv s) (wv s) (wv t) (wv t) X Y R T) := by
    intro X Y R T hS hc
    obtain ⟨q1, q2, q3, q4⟩ := bd X Y R T hS
    obtain ⟨⟨w, w1, w2, w3, w4⟩, ⟨v, v1, v2, v3, v4⟩⟩ := ri_corner hrd hfo q1 q2 q3 q4 hc.1 hc.2.1 hc.2.2.1
    obtain ⟨i1, i2⟩ := bl_ix B w1 w2
    obtain ⟨j1, j2⟩ := bl_ix B v1 v2
    refine ⟨_, i1, _, j1, ?_⟩
    unfold rb_P
    rw [i2, j2]
    exact ⟨w3.symm, w4.symm, v3.symm, v4.symm⟩
  refine ⟨st4, st7.1, e4, e7, ?_⟩
  rcases r7 with ⟨z7, n7⟩ | ⟨X7, Y7, R7, T7, s7, c7, E7, m7⟩ <;> rcases r4 with ⟨z4', n4⟩ | ⟨X4, Y4, R4, T4, s4, c4, E4, m4⟩
  · refine ⟨⟨fun _ => z7, fun _ => z4'.2⟩, fun s _ => ?_, fun w hw => ?_⟩
    · rw [z7, z4'.1, bt_0, bt_0]
    · rw [z7, bt_0] at hw
      exact absurd hw (by decide)
  · exact absurd c4 (n7 _ _ _ _ (to7 _ _ _ _ s4))
  · exact absurd c7 (n4 _ _ _ _ (to4 _ _ _ _ s7 c7))
  · have l1 := m4 _ _ _ _ (to4 _ _ _ _ s7 c7) c7
    have l2 := m7 _ _ _ _ (to7 _ _ _ _ s4) c4
    have eX : X4 = X7 := by unfold ri_le at l1 l2; omega
    have eY : Y4 = Y7 := by unfold ri_le at l1 l2; omega
    have eR : R4 = R7 := by unfold ri_le at l1 l2; omega
    have eC : ri_ct n be cu fc a b h c p X4 Y4 R4 T4 = ri_ct n be cu fc a b h c p X7 Y7 R7 T7 := by unfold ri_le at l1 l2; omega
    subst eX eY eR
    obtain ⟨q1, q2, q3, q4⟩ := bd _ _ _ _ s7
    obtain ⟨p1, p2, p3, p4⟩ := bd _ _ _ _ (to7 _ _ _ _ s4)
    have eT : T4 = T7 := by
      rcases Int.lt_trichotomy T4 T7 with g | g | g
      · have := ri_more hrd hfo q1 q2 q3 q4 c7.1 c4.2.1 g c7.2.2.1
        omega
      · exact g
      · have := ri_more hrd hfo q1 q2 q3 p4 c7.1 c7.2.1 g c4.2.2.1
        omega
    subst eT
    have ct2 := c4.2.2.2.1
    have ctl : ri_ct n be cu fc a b h c p X4 Y4 R4 T4 ≤ 22 := Nat.le_trans (ds_cnt_le _ n) H.2.1
    have n4 : ¬ st4.2.1 = 0 := by
      rw [E4.2.1]
      exact nI_ne0 (by omega) (by omega)
    have n7 : ¬ st7.1 = 0 := rb_ne0 (n := n) (by
      have e : ds_cnt n (bt st7.1) = ri_ct n be cu fc a b h c p X4 Y4 R4 T4 := rb_cong E7.1
      omega)
    refine ⟨⟨fun z => absurd z n4, fun z => absurd z n7⟩, fun s hs => ?_, fun w hw => ?_⟩
    · obtain ⟨s1, _⟩ := b3 s hs
      rw [E4.1, E7.1, decide_eq_true hs, decide_eq_true s1]
    · rw [E7.1, Bool.and_eq_true] at hw
      refine ⟨of_decide_eq_true hw.1, ?_⟩
      have := hw.2
      unfold ri_b at this
      rw [Bool.and_eq_true] at this
      exact this.1

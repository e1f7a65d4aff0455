/-! ===== PURE 28b: the class's sets; the best so far ===== -/
section
variable {K n F be N : Nat} {a b fc : Nat → Nat} {fi se cu : Nat → Int32} {h c p : Nat → Int} {hC cC plC fC hM cM pm fM : Nat → Int32} {wv : Nat → Nat} {Y' QL QY QS : Nat → Int32}
theorem ri_between (H : ly_Ok K n F be a b fc fi se cu h c p hC cC plC fC hM cM pm fM) (B : bl_Ok n N be a b fc cu h c p wv Y' QL QY QS) {X Y R T : Int} (bX : X.natAbs < 2 ^ 28) (bY : Y.natAbs < 2 ^ 28) (bR : R.natAbs < 2 ^ 28) (bT : T.natAbs < 2 ^ 28) (hXR : X < R) (hYT : Y < T) :
    ∃ m, fX2_setBetween QL QY QS (nI N) (Int32.ofInt X) (Int32.ofInt Y) (Int32.ofInt R) (Int32.ofInt T) = some m ∧ ((ri_gd n be cu fc a b h c p X Y R T ∧ ∀ k, bt m k = (decide (k < N) && ri_b be cu fc a b h c p X Y R T (wv k))) ∨ (¬ ri_gd n be cu fc a b h c p X Y R T ∧ m = 0)) := by
  have hn := H.2.1
  have hfo := H.2.2.2.2.2.2.1
  obtain ⟨b1, b2, b3⟩ := id B
  obtain ⟨r, l1, l2⟩ := pz_fin (body := bX2_setBetween_6 QL QY QS (nI N) (Int32.ofInt X) (Int32.ofInt Y) (Int32.ofInt R) (Int32.ofInt T)) (fun j st => ∃ m, st = (m, nI j) ∧ (∀ s, s < j → ri_ap fc a b h c p (wv s) X Y R T ∨ ri_in fc a b h c p (wv s) X Y R T) ∧ ∀ k, bt m k = (decide (k < j) && ri_b be cu fc a b h c p X Y R T (wv k))) (fun r => (∃ m, r = .inr m ∧ (∀ s, s < N → ri_ap fc a b h c p (wv s) X Y R T ∨ ri_in fc a b h c p (wv s) X Y R T) ∧ ∀ k, bt m k = (decide (k < N) && ri_b be cu fc a b h c p X Y R T (wv k))) ∨ (r = .inl 0 ∧ ¬ ri_gd n be cu fc a b h c p X Y R T)) N (by
    rintro j st hj ⟨m, rfl, hz, hm⟩
    unfold bX2_setBetween_6
    dsimp only
    rcases Nat.lt_or_ge j N with q | q
    · obtain ⟨q1, q2, q3, q4, q5, q6, q7⟩ := b3 j q
      obtain ⟨_, u2, u3, u4⟩ := ly_b H q1
      have s1 : 1 ≤ sq_s c (wv j) := by
        have := (tl_sq hfo q1 q2).2.2.2
        unfold sq_s
        omega
      have i1 := pi_le (x := sq_l fc p (wv j) + sq_s c (wv j)) (y := X) (by omega) (by omega)
      have i2 := pi_le (x := R) (y := sq_l fc p (wv j)) (by omega) (by omega)
      have i3 := pi_le (x := sq_y a b h (wv j) + sq_s c (wv j)) (y := Y) (by omega) (by omega)
      have i4 := pi_lt (x := sq_y a b h (wv j)) (y := T) (by omega) (by omega)
      have i5 := pi_lt (x := sq_l fc p (wv j)) (y := X) (by omega) (by omega)
      have i6 := pi_lt (x := R) (y := sq_l fc p (wv j) + sq_s c (wv j)) (by omega) (by omega)
      have i7 := pi_lt (x := sq_y a b h (wv j)) (y := Y) (by omega) (by omega)
      have i8 := pi_lt (x := T) (y := sq_y a b h (wv j) + sq_s c (wv j)) (by omega) (by omega)
      have i21 : dk_in (nI j) 21 = true := pz_in (by omega) (by decide)
      have kj : (nI j).toNatClampNeg = j := nI_clamp (by omega)
      have eR : fX5_right QL QS (nI j) = some (Int32.ofInt (sq_l fc p (wv j) + sq_s c (wv j))) := by rw [pf_right (by omega), q5, q7, ri_sum]
      have eT : fX5_top QY QS (nI j) = some (Int32.ofInt (sq_y a b h (wv j) + sq_s c (wv j))) := by rw [pf_top (by omega), q6, q7, ri_sum]
      -- with the flag 'apart' known
      have fin : ∀ z : Int32, ((z = 1 ∧ ri_ap fc a b h c p (wv j) X Y R T) ∨ (z = 0 ∧ ¬ ri_ap fc a b h c p (wv j) X Y R T)) → ((∃ r, jX2_setBetween_78 QL QY QS (nI N) (Int32.ofInt X) (Int32.ofInt Y) (Int32.ofInt R) (Int32.ofInt T) m (nI j) z = some (.inl r) ∧ ((∃ m, r = .inr m ∧ (∀ s, s < N → ri_ap fc a b h c p (wv s) X Y R T ∨ ri_in fc a b h c p (wv s) X Y R T) ∧ ∀ k, bt m k = (decide (k < N) && ri_b be cu fc a b h c p X Y R T (wv k))) ∨ (r = .inl 0 ∧ ¬ ri_gd n be cu fc a b h c p X Y R T))) ∨ (j < N ∧ ∃ s', jX2_setBetween_78 QL QY QS (nI N) (Int32.ofInt X) (Int32.ofInt Y) (Int32.ofInt R) (Int32.ofInt T) m (nI j) z = some (.inr s') ∧ ∃ m, s' = (m, nI (j + 1)) ∧ (∀ s, s < j + 1 → ri_ap fc a b h c p (wv s) X Y R T ∨ ri_in fc a b h c p (wv s) X Y R T) ∧ ∀ k, bt m k = (decide (k < j + 1) && ri_b be cu fc a b h c p X Y R T (wv k)))) := by
        intro z hz2
        unfold jX2_setBetween_78 jX2_setBetween_139 jX2_setBetween_140 jX2_setBetween_154 jX2_setBetween_169
        simp only [pz_gd i21, kj, eR, eT, pz_bs, q5, q6, pz_let, nI_1, pz_00, pz_10, if_true, if_false]
        have no : ¬ ri_in fc a b h c p (wv j) X Y R T → ((∃ r, (if z = 0 then some (.inl (.inl 0)) else some (.inr (m ||| 0, nI (j + 1))) : Option (((Int32) ⊕ (Int32)) ⊕ (Int32 × Int32))) = some (.inl r) ∧ ((∃ m, r = .inr m ∧ (∀ s, s < N → ri_ap fc a b h c p (wv s) X Y R T ∨ ri_in fc a b h c p (wv s) X Y R T) ∧ ∀ k, bt m k = (decide (k < N) && ri_b be cu fc a b h c p X Y R T (wv k))) ∨ (r = .inl 0 ∧ ¬ ri_gd n be cu fc a b h c p X Y R T))) ∨ (j < N ∧ ∃ s', (if z = 0 then some (.inl (.inl 0)) else some (.inr (m ||| 0, nI (j + 1))) : Option (((Int32) ⊕ (Int32)) ⊕ (Int32 × Int32))) = some (.inr s') ∧ ∃ m, s' = (m, nI (j + 1)) ∧ (∀ s, s < j + 1 → ri_ap fc a b h c p (wv s) X Y R T ∨ ri_in fc a b h c p (wv s) X Y R T) ∧ ∀ k, bt m k = (decide (k < j + 1) && ri_b be cu fc a b h c p X Y R T (wv k)))) := by
          intro ni
          rcases hz2 with ⟨z1, z2⟩ | ⟨z1, z2⟩
          · right
            rw [if_neg (by rw [z1]; decide)]
            refine ⟨q, _, rfl, m ||| 0, rfl, fun s hs => ?_, fun k => ?_⟩
            · by_cases e : s = j
              · rw [e]; exact Or.inl z2
              · exact hz s (by omega)
            · rw [bt_or, bt_0, Bool.or_false, hm k]
              by_cases e : k = j
              · have nb : ri_b be cu fc a b h c p X Y R T (wv j) = false := by
                  have nn : ¬ (X ≤ sq_l fc p (wv j) ∧ sq_l fc p (wv j) + sq_s c (wv j) ≤ R ∧ Y ≤ sq_y a b h (wv j) ∧ sq_y a b h (wv j) + sq_s c (wv j) ≤ T) := ni
                  unfold ri_b
                  rw [decide_eq_false nn, Bool.and_false]
                rw [e, nb, Bool.and_false, Bool.and_false]
              · by_cases g : k < j
                · rw [decide_eq_true g, decide_eq_true (show k < j + 1 by omega)]
                · rw [decide_eq_false g, decide_eq_false (show ¬ k < j + 1 by omega)]
          · left
            rw [if_pos z1]
            exact ⟨_, rfl, Or.inr ⟨rfl, fun zz => (zz (wv j) q1 q2).elim z2 ni⟩⟩
        by_cases c5 : sq_l fc p (wv j) < X
        · simp only [i5.mpr c5, if_true]
          exact no (by unfold ri_in; omega)
        simp only [show ¬ Int32.ofInt (sq_l fc p (wv j)) < Int32.ofInt X from fun zz => c5 (i5.mp zz), if_false]
        by_cases c6 : R < sq_l fc p (wv j) + sq_s c (wv j)
        · simp only [i6.mpr c6, if_true]
          exact no (by unfold ri_in; omega)
        simp only [show ¬ Int32.ofInt R < Int32.ofInt (sq_l fc p (wv j) + sq_s c (wv j)) from fun zz => c6 (i6.mp zz), if_false]
        by_cases c7 : sq_y a b h (wv j) < Y
        · simp only [i7.mpr c7, if_true]
          exact no (by unfold ri_in; omega)
        simp only [show ¬ Int32.ofInt (sq_y a b h (wv j)) < Int32.ofInt Y from fun zz => c7 (i7.mp zz), if_false]
        by_cases c8 : T < sq_y a b h (wv j) + sq_s c (wv j)
        · simp only [i8.mpr c8, if_true]
          exact no (by unfold ri_in; omega)
        simp only [show ¬ Int32.ofInt T < Int32.ofInt (sq_y a b h (wv j) + sq_s c (wv j)) from fun zz => c8 (i8.mp zz), if_false, ite_self]
        right
        refine ⟨q, _, rfl, m ||| pe j, rfl, fun s hs => ?_, fun k => ?_⟩
        · by_cases e : s = j
          · rw [e]
            right
            unfold ri_in
            omega
          · exact hz s (by omega)
        · rw [bt_or, hm k, bt_pe3 (by omega)]
          by_cases e : k = j
          · have yb : ri_b be cu fc a b h c p X Y R T (wv j) = true := by
              unfold ri_b
              rw [q2, Bool.true_and]
              exact decide_eq_true (by omega)
            rw [e, yb, decide_eq_true rfl, decide_eq_true (show j < j + 1 by omega), Bool.or_true]
            rfl
          · rw [decide_eq_false e, Bool.or_false]
            by_cases g3 : k < j
            · rw [decide_eq_true g3, decide_eq_true (show k < j + 1 by omega)]
            · rw [decide_eq_false g3, decide_eq_false (show ¬ k < j + 1 by omega)]
      unfold jX2_setBetween_73
      rw [if_neg (nI_ge q (by omega))]
      simp only [eR, eT, pz_bs, pz_gd i21, kj, q5, q6]
      unfold ri_ap at fin
      by_cases c1 : sq_l fc p (wv j) + sq_s c (wv j) ≤ X
      · rw [if_pos (i1.mpr c1)]; exact fin 1 (Or.inl ⟨rfl, by omega⟩)
      rw [if_neg (fun zz => c1 (i1.mp zz))]
      by_cases c2 : R ≤ sq_l fc p (wv j)
      · rw [if_pos (i2.mpr c2)]; exact fin 1 (Or.inl ⟨rfl, by omega⟩)
      rw [if_neg (fun zz => c2 (i2.mp zz))]
      by_cases c3 : sq_y a b h (wv j) + sq_s c (wv j) ≤ Y
      · rw [if_pos (i3.mpr c3)]; exact fin 1 (Or.inl ⟨rfl, by omega⟩)
      rw [if_neg (fun zz => c3 (i3.mp zz))]
      by_cases c4 : sq_y a b h (wv j) < T
      · rw [if_pos (i4.mpr c4)]; exact fin 0 (Or.inr ⟨rfl, by omega⟩)
      · rw [if_neg (fun zz => c4 (i4.mp zz))]; exact fin 1 (Or.inl ⟨rfl, by omega⟩)
    · left
      have e : j = N := by omega
      subst e
      exact ⟨_, by rw [if_pos (nI_le (Nat.le_refl _) (by omega))], Or.inl ⟨m, rfl, hz, hm⟩⟩) 1000 0 (0, 0) (by omega) ⟨0, rfl, fun w hw => absurd hw (by omega), fun k => by rw [bt_0, decide_eq_false (by omega), Bool.false_and]⟩ (by omega)
  unfold fX2_setBetween
  rw [l1, pz_bs]
  rcases l2 with ⟨m, rfl, g1, g2⟩ | ⟨rfl, g1⟩
  · refine ⟨m, rfl, Or.inl ⟨fun w hw hO => ?_, g2⟩⟩
    have i := bl_ix B hw hO
    have k := g1 _ i.1
    rw [i.2] at k
    exact k
  · exact ⟨0, rfl, Or.inr ⟨g1, rfl⟩⟩
/-- both count alike -/
theorem ri_cnt4 (B : bl_Ok n N be a b fc cu h c p wv Y' QL QY QS) {X Y R T : Int} {m : Int32} (hm : ∀ k, bt m k = (decide (k < N) && ri_b be cu fc a b h c p X Y R T (wv k))) : ds_cnt 32 (bt m) = ri_ct n be cu fc a b h c p X Y R T := by
  obtain ⟨b1, b2, b3⟩ := id B
  have up : ∀ d, ds_cnt (N + d) (bt m) = ds_cnt N (bt m) := by
    intro d
    induction d with
    | zero => rfl
    | succ d ih =>
      rw [← Nat.add_assoc, ds_cnt, ih, hm, decide_eq_false (by omega), Bool.false_and]
      rfl
  have u := up (32 - N)
  rw [show N + (32 - N) = 32 by omega] at u
  rw [u]
  have e : ∀ j, j ≤ n → ds_cnt (ds_cnt j (sq_b be cu c)) (bt m) = ds_cnt j (ri_b be cu fc a b h c p X Y R T) := by
    intro j
    induction j with
    | zero => intro _; rfl
    | succ j ih =>
      intro hj
      have ihj := ih (by omega)
      by_cases g : sq_b be cu c j = true
      · have i := bl_ix B (show j < n by omega) g
        rw [show ds_cnt (j + 1) (sq_b be cu c) = ds_cnt j (sq_b be cu c) + 1 from by rw [ds_cnt, if_pos g]]
        show ds_cnt (ds_cnt j (sq_b be cu c)) (bt m) + (if bt m (ds_cnt j (sq_b be cu c)) = true then 1 else 0) = ds_cnt j (ri_b be cu fc a b h c p X Y R T) + (if ri_b be cu fc a b h c p X Y R T j = true then 1 else 0)
        rw [ihj, hm, decide_eq_true i.1, Bool.true_and, i.2]
      · rw [show ds_cnt (j + 1) (sq_b be cu c) = ds_cnt j (sq_b be cu c) from by rw [ds_cnt, if_neg g]; rfl, ihj]
        show _ = ds_cnt j (ri_b be cu fc a b h c p X Y R T) + (if ri_b be cu fc a b h c p X Y R T j = true then 1 else 0)
        have : ri_b be cu fc a b h c p X Y R T j = false := by
          unfold ri_b
          have : sq_b be cu c j = false := by simpa using g
          rw [this, Bool.false_and]
        rw [this]
        rfl
  rw [b2]
  exact e n (Nat.le_refl _)
end

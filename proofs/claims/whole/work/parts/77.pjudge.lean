/-! ===== PURE 17: judge ===== -/
def wc_Ok (wc : Nat → Int32) : Prop := ∀ w, wc w ≠ Int32.minValue
theorem pj_neg {x : Int32} (h : x ≠ Int32.minValue) : (-x).toInt64 = - x.toInt64 := by
  have h1 : x.toInt ≠ Int32.minValue.toInt := fun q => h (Int32.toInt_inj.mp q)
  have h2 := Int32.le_toInt x
  have h3 := Int32.toInt_lt x
  have e : Int32.minValue.toInt = -2 ^ 31 := by decide
  apply Int64.toInt_inj.mp
  rw [Int32.toInt_toInt64, Int32.toInt_neg, Int64.toInt_neg, Int32.toInt_toInt64]
  rw [Int.bmod_eq_of_le (by omega) (by omega), Int.bmod_eq_of_le (by omega) (by omega)]
section
variable {fi se cu wc nk mk ts tu mu : Nat → Int32} {po : Int32} {K n : Nat} {fM : Nat → Int32} {HM : Int32}
theorem pj_wire (ok : NetOk K n fi se cu ts tu po) (hC : ∀ k, k < K → nk k = mk k) :
    ∃ r1 r2, dk_loop (bX4_wireClaimedWrong_2 fi se cu wc nk (nI n) po) 1000 0 = some r1 ∧ dk_loop (bX7_judge_12 (nI K) (nI n) po fi se cu mu ts wc mk fM HM) 1000 0 = some r2 ∧ ((∃ w, w < n ∧ r1 = .inl (nI w) ∧ r2 = .inl (1000 + nI w, fM, HM)) ∨ (r1 = .inr () ∧ r2 = .inr ())) := by
  obtain ⟨o1, o2, o3, o4, o5, o6⟩ := ok
  refine pz_sim (b1 := bX4_wireClaimedWrong_2 fi se cu wc nk (nI n) po) (b2 := bX7_judge_12 (nI K) (nI n) po fi se cu mu ts wc mk fM HM) (fun j s1 s2 => s1 = nI j ∧ s2 = nI j) _ n ?_ 1000 0 0 0 (by omega) ⟨rfl, rfl⟩ (by omega)
  rintro j s1 s2 hj ⟨rfl, rfl⟩
  unfold bX4_wireClaimedWrong_2 bX7_judge_12
  rcases Nat.lt_or_ge j n with h | h
  · obtain ⟨a, b, ha, hb, _, ea, eb⟩ := o4 j h
    rw [if_neg (nI_ge h (by omega)), if_neg (nI_ge h (by omega)), ph_pl4 (by omega), ph_pl7 (by omega), pz_bs, pz_bs]
    have i22 : dk_in (nI j) 22 = true := pz_in (by omega) (by decide)
    have j47 : ∀ z : Int64, ((∃ r1 r2, jX4_wireClaimedWrong_47 fi se cu wc nk (nI n) po (nI j) z = some (.inl r1) ∧ jX7_judge_57 (nI K) (nI n) po fi se cu mu ts wc mk fM HM (nI j) z = some (.inl r2) ∧ ((∃ w, w < n ∧ r1 = .inl (nI w) ∧ r2 = .inl (1000 + nI w, fM, HM)) ∨ (r1 = .inr () ∧ r2 = .inr ())))) ∨ (jX4_wireClaimedWrong_47 fi se cu wc nk (nI n) po (nI j) z = some (.inr (nI (j + 1))) ∧ jX7_judge_57 (nI K) (nI n) po fi se cu mu ts wc mk fM HM (nI j) z = some (.inr (nI (j + 1)))) := by
      intro z
      unfold jX4_wireClaimedWrong_47 jX7_judge_57
      rw [pz_gd i22, pz_gd i22, nI_clamp (by omega)]
      by_cases g : lg_cmp (wc j).toInt64 z = 0
      · right
        rw [if_pos g, if_pos g, pz_let, pz_let, nI_1]
        exact ⟨rfl, rfl⟩
      · left
        rw [if_neg g, if_neg g]
        exact ⟨_, _, rfl, rfl, Or.inl ⟨j, h, rfl, rfl⟩⟩
    have fin : ∀ z : Int64, (∃ r1 r2, jX4_wireClaimedWrong_47 fi se cu wc nk (nI n) po (nI j) z = some (.inl r1) ∧ jX7_judge_57 (nI K) (nI n) po fi se cu mu ts wc mk fM HM (nI j) z = some (.inl r2) ∧ ((∃ w, w < n ∧ r1 = .inl (nI w) ∧ r2 = .inl (1000 + nI w, fM, HM)) ∨ (r1 = .inr () ∧ r2 = .inr ()))) ∨ (j < n ∧ ∃ t1 t2, jX4_wireClaimedWrong_47 fi se cu wc nk (nI n) po (nI j) z = some (.inr t1) ∧ jX7_judge_57 (nI K) (nI n) po fi se cu mu ts wc mk fM HM (nI j) z = some (.inr t2) ∧ t1 = nI (j + 1) ∧ t2 = nI (j + 1)) := fun z => by
      rcases j47 z with q | ⟨q1, q2⟩
      · exact Or.inl q
      · exact Or.inr ⟨h, _, _, q1, q2, rfl, rfl⟩
    by_cases g : nI j ≠ po ∧ cu j = 0
    · rw [if_pos g, if_neg (by decide), if_neg (by decide)]
      rw [pz_gd i22, pz_gd i22, nI_clamp (show j < 2 ^ 31 by omega), ea, eb, pz_gd (pz_in (show a < 12 by omega) (by decide)), pz_gd (pz_in (show b < 12 by omega) (by decide)), pz_gd (pz_in (show a < 12 by omega) (by decide)), pz_gd (pz_in (show b < 12 by omega) (by decide)), nI_clamp (show a < 2 ^ 31 by omega), nI_clamp (show b < 2 ^ 31 by omega), hC a ha, hC b hb]
      exact fin _
    · rw [if_neg g, if_pos rfl, if_pos rfl]
      exact fin _
  · have e : j = n := by omega
    subst e
    left
    rw [if_pos (nI_le (Nat.le_refl _) (by omega)), if_pos (nI_le (Nat.le_refl _) (by omega))]
    exact ⟨_, _, rfl, rfl, Or.inr ⟨rfl, rfl⟩⟩
theorem pj_flow (ok : NetOk K n fi se cu ts tu po) (hw : wc_Ok wc) (x : Int32) : ∃ v, fX4_claimedOutflow fi se wc (nI n) x = some v ∧ dk_loop (bX7_judge_126 (nI K) (nI n) po fi se cu mu ts wc mk fM HM x) 1000 (0, 0) = some v := by
  obtain ⟨o1, o2, o3, o4, o5, o6⟩ := ok
  obtain ⟨r1, r2, h1, h2, h3⟩ := pz_sim (b1 := bX4_claimedOutflow_5 fi se wc (nI n) x) (b2 := bX7_judge_126 (nI K) (nI n) po fi se cu mu ts wc mk fM HM x) (fun j s1 s2 => ∃ z, s1 = (z, nI j) ∧ s2 = (z, nI j)) (fun r1 r2 => r1 = r2) n (by
    rintro j s1 s2 hj ⟨z, rfl, rfl⟩
    unfold bX4_claimedOutflow_5 bX7_judge_126 jX4_claimedOutflow_61 jX7_judge_182
    dsimp only
    rcases Nat.lt_or_ge j n with h | h
    · right
      refine ⟨h, ?_⟩
      rw [if_neg (nI_ge h (by omega)), if_neg (nI_ge h (by omega)), pz_gd (pz_in (show j < 22 by omega) (by decide)), pz_gd (pz_in (show j < 22 by omega) (by decide)), nI_clamp (show j < 2 ^ 31 by omega)]
      simp only [pz_let, nI_1]
      by_cases g : fi j = x
      · rw [if_pos g, if_pos g]
        exact ⟨_, _, rfl, rfl, _, rfl, rfl⟩
      · rw [if_neg g, if_neg g]
        by_cases g2 : se j = x
        · rw [if_pos g2, if_pos g2]
          refine ⟨_, _, rfl, rfl, _, rfl, ?_⟩
          rw [pj_neg (hw j), Int64.sub_eq_add_neg]
        · rw [if_neg g2, if_neg g2]
          refine ⟨_, _, rfl, rfl, _, rfl, ?_⟩
          rw [Int64.add_zero]
    · have e : j = n := by omega
      subst e
      left
      rw [if_pos (nI_le (Nat.le_refl _) (by omega)), if_pos (nI_le (Nat.le_refl _) (by omega))]
      exact ⟨_, _, rfl, rfl, rfl⟩) 1000 0 (0, 0) (0, 0) (by omega) ⟨0, rfl, rfl⟩ (by omega)
  refine ⟨r2, ?_, h2⟩
  unfold fX4_claimedOutflow
  rw [h1, h3]
  rfl
theorem pj_knot (ok : NetOk K n fi se cu ts tu po) (hw : wc_Ok wc) {p : Nat} (hp : p < n) (hpo : po = nI p) :
    ∃ r1 r2, dk_loop (bX4_knotClaimedUneven_2 fi se wc (nI K) (nI n) po) 1000 0 = some r1 ∧ dk_loop (bX7_judge_84 (nI K) (nI n) po fi se cu mu ts wc mk fM HM) 1000 0 = some r2 ∧ ((∃ k, k < K ∧ r1 = .inl (nI k) ∧ r2 = .inl (2000 + nI k, fM, HM)) ∨ (r1 = .inr () ∧ r2 = .inr ())) := by
  obtain ⟨o1, o2, o3, o4, o5, o6⟩ := id ok
  refine pz_sim (b1 := bX4_knotClaimedUneven_2 fi se wc (nI K) (nI n) po) (b2 := bX7_judge_84 (nI K) (nI n) po fi se cu mu ts wc mk fM HM) (fun j s1 s2 => s1 = nI j ∧ s2 = nI j) _ K ?_ 1000 0 0 0 (by omega) ⟨rfl, rfl⟩ (by omega)
  rintro j s1 s2 hj ⟨rfl, rfl⟩
  unfold bX4_knotClaimedUneven_2 bX7_judge_84 jX4_knotClaimedUneven_42 jX7_judge_202
  rcases Nat.lt_or_ge j K with h | h
  · obtain ⟨v, v1, v2⟩ := pj_flow (mu := mu) (mk := mk) (fM := fM) (HM := HM) ok hw (nI j)
    rw [if_neg (nI_ge h (by omega)), if_neg (nI_ge h (by omega)), v1, v2, hpo, if_neg (pz_m1 (by omega)), pz_ends (by omega), pz_bs, pz_gd (pz_in (show p < 22 by omega) (by decide)), nI_clamp (show p < 2 ^ 31 by omega)]
    simp only [pz_let, nI_1, pz_bs]
    by_cases g1 : nI j = fi p
    · rw [if_pos (Or.inl g1.symm), if_neg (by decide), if_pos g1]
      exact Or.inr ⟨h, _, _, rfl, rfl, rfl, rfl⟩
    · by_cases g2 : nI j = se p
      · rw [if_pos (Or.inr g2.symm), if_neg (by decide), if_neg g1, if_pos g2]
        exact Or.inr ⟨h, _, _, rfl, rfl, rfl, rfl⟩
      · rw [if_pos (show (if fi p = nI j ∨ se p = nI j then (1 : Int32) else 0) = 0 from if_neg (fun q => q.elim (fun q => g1 q.symm) (fun q => g2 q.symm))), if_neg g1, if_neg g2]
        by_cases g3 : lg_cmp v 0 = 0
        · rw [if_pos g3, if_pos g3]
          exact Or.inr ⟨h, _, _, rfl, rfl, rfl, rfl⟩
        · rw [if_neg g3, if_neg g3]
          exact Or.inl ⟨_, _, rfl, rfl, Or.inl ⟨j, h, rfl, rfl⟩⟩
  · have e : j = K := by omega
    subst e
    left
    rw [if_pos (nI_le (Nat.le_refl _) (by omega)), if_pos (nI_le (Nat.le_refl _) (by omega))]
    exact ⟨_, _, rfl, rfl, Or.inr ⟨rfl, rfl⟩⟩
theorem pg_i64 (x : Int32) : x.toInt64 = Int64.ofInt x.toInt ∧ x.toInt.natAbs < 2 ^ 32 := by
  have h2 := Int32.le_toInt x
  have h3 := Int32.toInt_lt x
  refine ⟨?_, by omega⟩
  apply Int64.toInt_inj.mp
  rw [Int32.toInt_toInt64, pg_toInt (by omega)]
theorem pj_gcd (hn : n ≤ 22) (z1 z2 : Nat → Int32) : ∃ v, dk_loop (bX6_judgeScale_64 fi se wc nk (nI n) po) 1000 (0, 0) = some v ∧ dk_loop (bX7_judge_254 (nI K) (nI n) po fi se cu mu ts wc mk fM HM) 1000 (0, 0) = some v := by
  obtain ⟨r1, r2, h1, h2, h3⟩ := pz_sim (b1 := bX6_judgeScale_64 fi se wc nk (nI n) po) (b2 := bX7_judge_254 (nI K) (nI n) po fi se cu mu ts wc mk fM HM) (fun j s1 s2 => ∃ z : Nat, z < 2 ^ 32 ∧ s1 = (Int64.ofInt z, nI j) ∧ s2 = (Int64.ofInt z, nI j)) (fun r1 r2 => r1 = r2) n (by
    rintro j s1 s2 hj ⟨z, hz, rfl, rfl⟩
    unfold bX6_judgeScale_64 bX7_judge_254
    dsimp only
    rcases Nat.lt_or_ge j n with h | h
    · right
      obtain ⟨q1, q2⟩ := pg_i64 (wc j)
      refine ⟨h, (Int64.ofInt (Int.gcd z (wc j).toInt), nI (j + 1)), (Int64.ofInt (Int.gcd z (wc j).toInt), nI (j + 1)), ?_, ?_, Int.gcd z (wc j).toInt, pg_le (by omega) q2, rfl, rfl⟩
      · rw [if_neg (nI_ge h (by omega)), pz_gd (pz_in (show j < 22 by omega) (by decide)), nI_clamp (show j < 2 ^ 31 by omega), q1, pg_cls (by omega) q2, pz_bs, pz_let, nI_1]
      · rw [if_neg (nI_ge h (by omega)), pz_gd (pz_in (show j < 22 by omega) (by decide)), nI_clamp (show j < 2 ^ 31 by omega), q1, pg_ref (by omega) q2, pz_bs, pz_let, nI_1]
    · have e : j = n := by omega
      subst e
      left
      rw [if_pos (nI_le (Nat.le_refl _) (by omega)), if_pos (nI_le (Nat.le_refl _) (by omega))]
      exact ⟨_, _, rfl, rfl, rfl⟩) 1000 0 (0, 0) (0, 0) (by omega) ⟨0, by omega, rfl, rfl⟩ (by omega)
  exact ⟨r2, by rw [h1, h3], h2⟩
end
section
variable {N_first N_second N_isCut N_wireClaim N_knotClaim N_turnSize N_turns : Nat → Int32} {N_knots N_wires N_power M_knots M_wires M_battery : Int32} {M_first M_second M_isCut M_turns M_turnMany M_wireClaim M_knotClaim : Nat → Int32} {F_faceOf F_dartAhead M_faceOf : Nat → Int32} {F_howMany M_faceMany : Int32}
theorem pc_judge (h : NetRel N_first N_second N_isCut N_wireClaim N_knotClaim N_turnSize N_turns N_knots N_wires N_power M_knots M_wires M_battery M_first M_second M_isCut M_turns M_turnMany M_wireClaim M_knotClaim) (hw : wc_Ok N_wireClaim) :
    ∃ r1 r2, fX6_judge N_first N_second N_isCut N_wireClaim N_knotClaim N_turnSize N_turns N_knots N_wires N_power F_faceOf F_dartAhead F_howMany = some r1 ∧ fX7_judge M_knots M_wires M_battery M_first M_second M_isCut M_turns M_turnMany M_wireClaim M_knotClaim M_faceOf M_faceMany = some r2 ∧ r1.1 = r2.1 := by
  obtain ⟨rfl, rfl, rfl, rfl, rfl, rfl, rfl, rfl, K, n, rfl, rfl, ok, hT, hC⟩ := h
  obtain ⟨v, fC, da, HC, fM, HM, h1, h2, h3⟩ := pk_cause ok hT F_faceOf F_dartAhead M_faceOf F_howMany M_faceMany
  obtain ⟨o1, o2, o3, o4, o5, o6⟩ := id ok
  unfold fX6_judge fX7_judge
  simp only [h1, h2, pz_bs]
  by_cases g : v = 0
  · subst g
    obtain ⟨F, p, a, b, t, u, f, rd, _⟩ := h3 rfl
    obtain ⟨_, _, _, hp, hpo, hcp, _⟩ := rd
    simp only [pz_00, if_true]
    obtain ⟨w1, w2, w3, w4, w5⟩ := pj_wire (mu := M_turns) (wc := N_wireClaim) (fM := fM) (HM := HM) ok hC
    unfold fX4_wireClaimedWrong fX4_knotClaimedUneven
    simp only [w3, w4, pz_bs]
    rcases w5 with ⟨w, hw', rfl, rfl⟩ | ⟨rfl, rfl⟩
    · show ∃ r1 r2, (if nI w = -1 then _ else _) = some r1 ∧ some _ = some r2 ∧ _
      rw [if_neg (pz_m1 (by omega))]
      exact ⟨_, _, rfl, rfl, rfl⟩
    obtain ⟨k1, k2, k3, k4, k5⟩ := pj_knot (mu := M_turns) (mk := M_knotClaim) (fM := fM) (HM := HM) ok hw hp hpo
    simp only [dk_sum, pz_bs, if_true, k3, k4]
    rcases k5 with ⟨k, hk', rfl, rfl⟩ | ⟨rfl, rfl⟩
    · simp only [dk_sum, pz_bs]
      rw [if_neg (pz_m1 (by omega))]
      exact ⟨_, _, rfl, rfl, rfl⟩
    obtain ⟨g', g1, g2⟩ := pj_gcd (fi := N_first) (se := N_second) (cu := N_isCut) (ts := N_turnSize) (wc := N_wireClaim) (nk := N_knotClaim) (mk := M_knotClaim) (mu := M_turns) (po := N_power) (K := K) (fM := fM) (HM := HM) o2 N_first N_first
    obtain ⟨a', b', ha, hb, _, ea, eb⟩ := o4 p hp
    unfold fX6_judgeScale
    simp only [dk_sum, pz_bs, if_true, g1, g2]
    subst hpo
    simp only [pz_gd (pz_in (show p < 22 by omega) (by decide)), nI_clamp (show p < 2 ^ 31 by omega), ea, eb, pz_gd (pz_in (show a' < 12 by omega) (by decide)), pz_gd (pz_in (show b' < 12 by omega) (by decide)), nI_clamp (show a' < 2 ^ 31 by omega), nI_clamp (show b' < 2 ^ 31 by omega), hC a' ha, hC b' hb]
    split
    · split
      · split
        · exact ⟨_, _, rfl, rfl, rfl⟩
        · exact ⟨_, _, rfl, rfl, rfl⟩
      · exact ⟨_, _, rfl, rfl, rfl⟩
    · exact ⟨_, _, rfl, rfl, rfl⟩
  · simp only [g, if_false]
    exact ⟨_, _, rfl, rfl, rfl⟩
end

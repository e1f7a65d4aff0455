/-! ===== PURE 25: trees, current, height, place, grant ===== -/
section
variable {N_first N_second N_isCut N_wireClaim N_knotClaim N_turnSize N_turns : Nat → Int32} {N_knots N_wires N_power M_knots M_wires M_battery : Int32} {M_first M_second M_isCut M_turns M_turnMany M_wireClaim M_knotClaim : Nat → Int32} {F_faceOf F_dartAhead M_faceOf : Nat → Int32} {F_howMany M_faceMany : Int32} {W_rows : Nat → Int64} {W_heightOf W_currentOf W_placeOf W_isPlaced : Nat → Int32} {W_wide W_high : Int32} {W_treeCount : Int64} {M_table : Nat → Int64} {M_heights M_currents M_places : Nat → Int32} {M_treeMany : Int64} {M_wide M_high : Int32}
/-- not READY, or all that flows -/
theorem fo_main (W_rows : Nat → Int64) (W_heightOf W_currentOf W_placeOf W_isPlaced : Nat → Int32) (W_wide W_high : Int32) (W_treeCount : Int64) (F_faceOf F_dartAhead M_faceOf : Nat → Int32) (F_howMany M_faceMany : Int32) (M_table : Nat → Int64) (M_heights M_currents M_places : Nat → Int32) (M_treeMany : Int64) (M_wide M_high : Int32) (hN : NetRel N_first N_second N_isCut N_wireClaim N_knotClaim N_turnSize N_turns N_knots N_wires N_power M_knots M_wires M_battery M_first M_second M_isCut M_turns M_turnMany M_wireClaim M_knotClaim) :
    (∃ (v : Int32) (fC da : Nat → Int32) (HC : Int32) (fM : Nat → Int32) (HM : Int32), v ≠ 0 ∧ fX6_findCause N_first N_second N_isCut N_turnSize N_turns N_knots N_wires N_power F_faceOf F_dartAhead F_howMany = some (v, fC, da, HC) ∧ fX7_flows M_knots M_wires M_battery M_first M_second M_isCut M_turns M_turnMany M_faceOf M_faceMany M_table M_heights M_currents M_places M_treeMany M_wide M_high = some (0, fM, HM, M_table, M_heights, M_currents, M_places, M_treeMany, M_wide, M_high)) ∨
    (∃ (K n F bt : Nat) (a b t : Nat → Nat) (u : Nat → Nat → Nat) (fc : Nat → Nat) (h c p : Nat → Int) (D : Int) (wd : Int32) (rW : Nat → Int64) (hC cC plC ipC : Nat → Int32) (tb : Nat → Int64) (hM cM pm fC da fM : Nat → Int32), N_knots = nI K ∧ N_wires = nI n ∧ K ≤ 12 ∧ n ≤ 22 ∧ F ≤ 22 ∧ rd_Ok K n F bt a b t u fc N_isCut N_power ∧ nt_Is K n a b t u N_first N_second N_turnSize N_turns ∧ nt_Is K n a b t u M_first M_second M_turnMany M_turns ∧ rd_Is n F a b t u fc fC da fM ∧ fo_Ok K n F bt a b fc N_isCut h c p ∧
      fX6_findCause N_first N_second N_isCut N_turnSize N_turns N_knots N_wires N_power F_faceOf F_dartAhead F_howMany = some (0, fC, da, nI F) ∧
      fX1_solve W_rows W_heightOf W_currentOf W_placeOf W_isPlaced W_wide W_high W_treeCount N_first N_second N_isCut N_knots N_wires N_power fC (nI F) = some (rW, hC, cC, plC, ipC, wd, Int32.ofInt (h (a bt)), Int64.ofInt D) ∧
      fX7_flows M_knots M_wires M_battery M_first M_second M_isCut M_turns M_turnMany M_faceOf M_faceMany M_table M_heights M_currents M_places M_treeMany M_wide M_high = some (1, fM, nI F, tb, hM, cM, pm, Int64.ofInt D, wd, Int32.ofInt (h (a bt))) ∧
      (∀ k, k < K → hC k = Int32.ofInt (h k) ∧ hM k = Int32.ofInt (h k)) ∧ (∀ w, w < n → cC w = Int32.ofInt (c w) ∧ cM w = Int32.ofInt (c w)) ∧ (∀ f, f < F → plC f = Int32.ofInt (p f) ∧ pm f = Int32.ofInt (p f))) := by
  obtain ⟨rfl, rfl, rfl, rfl, rfl, rfl, rfl, rfl, K, n, rfl, rfl, ok, hT, hC⟩ := hN
  obtain ⟨v, fC, da, HC, fM, HM, h1, h2, h3⟩ := pk_cause ok hT F_faceOf F_dartAhead M_faceOf F_howMany M_faceMany
  by_cases g : v = 0
  · right
    subst g
    obtain ⟨F, bt, a, b, t, u, fc, rd, i1, i2, i3, e1, e2⟩ := h3 rfl
    subst e1 e2
    obtain ⟨h, c, p, D, wd, rW, hC', cC, plC, ipC, tb, hM, cM, pm, f1, f2, f3, f4, f5, f6⟩ := fo_solve ok.1 ok.2.1 rd i1.1 i3 W_rows W_heightOf W_currentOf W_placeOf W_isPlaced W_wide W_high W_treeCount M_turns N_turnSize M_faceOf M_faceMany M_table M_heights M_currents M_places M_treeMany M_wide M_high h2
    have hK2 : 2 ≤ K := by
      have := rd.1.1 bt rd.2.2.2.1
      omega
    have hE := rd.2.2.1
    have hn := ok.2.1
    exact ⟨K, n, F, bt, a, b, t, u, fc, h, c, p, D, wd, rW, hC', cC, plC, ipC, tb, hM, cM, pm, fC, da, fM, rfl, rfl, ok.1, ok.2.1, by omega, rd, i1, i2, i3, f1, h1, f2, f3, f4, f5, f6⟩
  · left
    refine ⟨v, fC, da, HC, fM, HM, g, h1, ?_⟩
    unfold fX7_flows
    simp only [h2, pz_bs, g, if_false]
theorem pc_trees (hN : NetRel N_first N_second N_isCut N_wireClaim N_knotClaim N_turnSize N_turns N_knots N_wires N_power M_knots M_wires M_battery M_first M_second M_isCut M_turns M_turnMany M_wireClaim M_knotClaim) :
    ∃ r1 r2, fX6_trees N_first N_second N_isCut N_turnSize N_turns N_knots N_wires N_power F_faceOf F_dartAhead F_howMany W_rows W_heightOf W_currentOf W_placeOf W_isPlaced W_wide W_high W_treeCount = some r1 ∧ fX7_trees M_knots M_wires M_battery M_first M_second M_isCut M_turns M_turnMany M_faceOf M_faceMany M_table M_heights M_currents M_places M_treeMany M_wide M_high = some r2 ∧ r1.1 = r2.1 := by
  unfold fX6_trees fX7_trees fX6_letFlow
  rcases fo_main W_rows W_heightOf W_currentOf W_placeOf W_isPlaced W_wide W_high W_treeCount F_faceOf F_dartAhead M_faceOf F_howMany M_faceMany M_table M_heights M_currents M_places M_treeMany M_wide M_high hN with ⟨v, fC, da, HC, fM, HM, g, h1, h2⟩ | ⟨K, n, F, bt, a, b, t, u, fc, h, c, p, D, wd, rW, hC, cC, plC, ipC, tb, hM, cM, pm, fC, da, fM, rfl, rfl, hK, hn, hF, rd, i1, i2, i3, f1, h1, f2, f3, f4, f5, f6⟩
  · simp only [h1, h2, pz_bs, g, if_false, pz_00, if_true]
    exact ⟨_, _, rfl, rfl, rfl⟩
  · simp only [h1, f2, f3, pz_bs, pz_00, if_true, pz_10, if_false]
    exact ⟨_, _, rfl, rfl, rfl⟩
theorem pc_current (hN : NetRel N_first N_second N_isCut N_wireClaim N_knotClaim N_turnSize N_turns N_knots N_wires N_power M_knots M_wires M_battery M_first M_second M_isCut M_turns M_turnMany M_wireClaim M_knotClaim) (x1 : Int32) :
    ∃ r1 r2, fX6_current N_first N_second N_isCut N_turnSize N_turns N_knots N_wires N_power F_faceOf F_dartAhead F_howMany W_rows W_heightOf W_currentOf W_placeOf W_isPlaced W_wide W_high W_treeCount x1 = some r1 ∧ fX7_current M_knots M_wires M_battery M_first M_second M_isCut M_turns M_turnMany M_faceOf M_faceMany M_table M_heights M_currents M_places M_treeMany M_wide M_high x1 = some r2 ∧ r1.1 = r2.1 := by
  have hNe := hN
  unfold fX6_current fX7_current fX6_letFlow
  rcases fo_main W_rows W_heightOf W_currentOf W_placeOf W_isPlaced W_wide W_high W_treeCount F_faceOf F_dartAhead M_faceOf F_howMany M_faceMany M_table M_heights M_currents M_places M_treeMany M_wide M_high hN with ⟨v, fC, da, HC, fM, HM, g, h1, h2⟩ | ⟨K, n, F, bt, a, b, t, u, fc, h, c, p, D, wd, rW, hC, cC, plC, ipC, tb, hM, cM, pm, fC, da, fM, rfl, rfl, hK, hn, hF, rd, i1, i2, i3, f1, h1, f2, f3, f4, f5, f6⟩
  · obtain ⟨_, _, _, _, _, eK, eW, _, K, n, hKn, hnn, ok, _⟩ := hNe
    rw [← eK, ← eW] at h2 ⊢
    subst hKn hnn
    have o1 := ok.1
    have o2 := ok.2.1
    rcases pz_kn (K := n) (by omega) x1 with ⟨w, hx, rfl⟩ | ⟨z1, z2, z3, z4⟩
    · simp only [h1, h2, pz_bs, g, if_false, pz_00, if_true, (pz_kn1 (show n < 2 ^ 30 by omega) hx).2.2.1, pz_10]
      exact ⟨_, _, rfl, rfl, rfl⟩
    · simp only [h1, h2, pz_bs, g, if_false, pz_00, if_true, z3, pz_10]
      exact ⟨_, _, rfl, rfl, rfl⟩
  · obtain ⟨_, _, _, _, _, eK, eW, _⟩ := hNe
    rw [← eK, ← eW] at f3 ⊢
    rcases pz_kn (K := n) (by omega) x1 with ⟨w, hx, rfl⟩ | ⟨z1, z2, z3, z4⟩
    · simp only [h1, f2, f3, pz_bs, if_false, pz_00, if_true, (pz_kn1 (show n < 2 ^ 30 by omega) hx).2.2.1, (pz_kn1 (show n < 2 ^ 30 by omega) hx).2.2.2, pz_10, pz_gd (pz_in (show w < 22 by omega) (by decide)), nI_clamp (show w < 2 ^ 31 by omega)]
      refine ⟨_, _, rfl, rfl, ?_⟩
      dsimp only
      rw [(f5 w hx).1, (f5 w hx).2]
    · simp only [h1, f2, f3, pz_bs, if_false, pz_00, if_true, z3, z4, pz_10]
      exact ⟨_, _, rfl, rfl, rfl⟩
theorem pc_height (hN : NetRel N_first N_second N_isCut N_wireClaim N_knotClaim N_turnSize N_turns N_knots N_wires N_power M_knots M_wires M_battery M_first M_second M_isCut M_turns M_turnMany M_wireClaim M_knotClaim) (x1 : Int32) :
    ∃ r1 r2, fX6_height N_first N_second N_isCut N_turnSize N_turns N_knots N_wires N_power F_faceOf F_dartAhead F_howMany W_rows W_heightOf W_currentOf W_placeOf W_isPlaced W_wide W_high W_treeCount x1 = some r1 ∧ fX7_height M_knots M_wires M_battery M_first M_second M_isCut M_turns M_turnMany M_faceOf M_faceMany M_table M_heights M_currents M_places M_treeMany M_wide M_high x1 = some r2 ∧ r1.1 = r2.1 := by
  have hNe := hN
  unfold fX6_height fX7_height fX6_letFlow
  rcases fo_main W_rows W_heightOf W_currentOf W_placeOf W_isPlaced W_wide W_high W_treeCount F_faceOf F_dartAhead M_faceOf F_howMany M_faceMany M_table M_heights M_currents M_places M_treeMany M_wide M_high hN with ⟨v, fC, da, HC, fM, HM, g, h1, h2⟩ | ⟨K, n, F, bt, a, b, t, u, fc, h, c, p, D, wd, rW, hC, cC, plC, ipC, tb, hM, cM, pm, fC, da, fM, rfl, rfl, hK, hn, hF, rd, i1, i2, i3, f1, h1, f2, f3, f4, f5, f6⟩
  · obtain ⟨_, _, _, _, _, eK, eW, _, K, n, hKn, hnn, ok, _⟩ := hNe
    rw [← eK, ← eW] at h2 ⊢
    subst hKn hnn
    have o1 := ok.1
    have o2 := ok.2.1
    rcases pz_kn (K := K) (by omega) x1 with ⟨w, hx, rfl⟩ | ⟨z1, z2, z3, z4⟩
    · simp only [h1, h2, pz_bs, g, if_false, pz_00, if_true, (pz_kn1 (show K < 2 ^ 30 by omega) hx).1, pz_10]
      exact ⟨_, _, rfl, rfl, rfl⟩
    · simp only [h1, h2, pz_bs, g, if_false, pz_00, if_true, z1, pz_10]
      exact ⟨_, _, rfl, rfl, rfl⟩
  · obtain ⟨_, _, _, _, _, eK, eW, _⟩ := hNe
    rw [← eK, ← eW] at f3 ⊢
    rcases pz_kn (K := K) (by omega) x1 with ⟨w, hx, rfl⟩ | ⟨z1, z2, z3, z4⟩
    · simp only [h1, f2, f3, pz_bs, if_false, pz_00, if_true, (pz_kn1 (show K < 2 ^ 30 by omega) hx).1, (pz_kn1 (show K < 2 ^ 30 by omega) hx).2.1, pz_10, pz_gd (pz_in (show w < 12 by omega) (by decide)), nI_clamp (show w < 2 ^ 31 by omega)]
      refine ⟨_, _, rfl, rfl, ?_⟩
      dsimp only
      rw [(f4 w hx).1, (f4 w hx).2]
    · simp only [h1, f2, f3, pz_bs, if_false, pz_00, if_true, z1, z2, pz_10]
      exact ⟨_, _, rfl, rfl, rfl⟩
theorem pc_place (hN : NetRel N_first N_second N_isCut N_wireClaim N_knotClaim N_turnSize N_turns N_knots N_wires N_power M_knots M_wires M_battery M_first M_second M_isCut M_turns M_turnMany M_wireClaim M_knotClaim) (x1 : Int32) :
    ∃ r1 r2, fX6_place N_first N_second N_isCut N_turnSize N_turns N_knots N_wires N_power F_faceOf F_dartAhead F_howMany W_rows W_heightOf W_currentOf W_placeOf W_isPlaced W_wide W_high W_treeCount x1 = some r1 ∧ fX7_place M_knots M_wires M_battery M_first M_second M_isCut M_turns M_turnMany M_faceOf M_faceMany M_table M_heights M_currents M_places M_treeMany M_wide M_high x1 = some r2 ∧ r1.1 = r2.1 := by
  unfold fX6_place fX7_place fX6_letFlow
  rcases fo_main W_rows W_heightOf W_currentOf W_placeOf W_isPlaced W_wide W_high W_treeCount F_faceOf F_dartAhead M_faceOf F_howMany M_faceMany M_table M_heights M_currents M_places M_treeMany M_wide M_high hN with ⟨v, fC, da, HC, fM, HM, g, h1, h2⟩ | ⟨K, n, F, bt, a, b, t, u, fc, h, c, p, D, wd, rW, hC, cC, plC, ipC, tb, hM, cM, pm, fC, da, fM, rfl, rfl, hK, hn, hF, rd, i1, i2, i3, f1, h1, f2, f3, f4, f5, f6⟩
  · simp only [h1, h2, pz_bs, g, if_false, pz_00, if_true]
    exact ⟨_, _, rfl, rfl, rfl⟩
  · simp only [h1, f2, f3, pz_bs, pz_00, if_true, pz_10, if_false]
    rcases pk_in2 (m := F) (by omega) x1 with ⟨d, d1, rfl, d3, d4, d5⟩ | ⟨d3, d4⟩
    · simp only [d3, pz_bs, d4, d5, pz_10, if_false, if_true, pz_gd (pz_in (show d < 44 by omega) (by decide)), pz_gd (pz_in (show d < 24 by omega) (by decide)), nI_clamp (show d < 2 ^ 31 by omega)]
      refine ⟨_, _, rfl, rfl, ?_⟩
      dsimp only
      rw [(f6 d d1).1, (f6 d d1).2]
    · simp only [d3, pz_bs, pz_00, if_true]
      by_cases g : x1 < 0
      · simp only [g, if_true]
        exact ⟨_, _, rfl, rfl, rfl⟩
      · simp only [g, if_false, d4.resolve_left g]
        exact ⟨_, _, rfl, rfl, rfl⟩
def gx_f (j : Nat) (c : Nat → Int) (f : Nat → Int32) : Nat → Int32 := fun i => if i < j then Int32.ofInt (c i) else f i
theorem gx_0 (c : Nat → Int) (f : Nat → Int32) : gx_f 0 c f = f := by
  funext i
  exact if_neg (by omega)
theorem gx_s (j : Nat) (c : Nat → Int) (f : Nat → Int32) : upd (gx_f j c f) j (Int32.ofInt (c j)) = gx_f (j + 1) c f := by
  funext i
  unfold gx_f
  by_cases g : i = j
  · subst g
    rw [tr_u1, if_pos (by omega)]
  · rw [tr_u2 _ _ g]
    by_cases g2 : i < j
    · rw [if_pos g2, if_pos (by omega)]
    · rw [if_neg g2, if_neg (by omega)]
theorem gx_loop {m N : Nat} (hN : N ≤ 22) {body : Int32 × (Nat → Int32) → Option ((Nat → Int32) ⊕ (Int32 × (Nat → Int32)))} {s : Nat → Int32} (c : Nat → Int) (f : Nat → Int32) (hm : m ≤ N) (hs : ∀ w, w < m → s w = Int32.ofInt (c w)) (hb : ∀ st, body st = (if nI m ≤ st.1 then some (.inl st.2) else dk_gd (dk_in st.1 N) (dk_let (upd st.2 st.1.toNatClampNeg (s st.1.toNatClampNeg)) (fun x => dk_let (st.1 + 1) (fun y => some (.inr (y, x))))))) : dk_loop body 1000 (0, f) = some (gx_f m c f) := by
  obtain ⟨r, l1, l2⟩ := pz_fin (body := body) (fun j st => st = (nI j, gx_f j c f)) (fun r => r = gx_f m c f) m (by
    rintro j st hj rfl
    rw [hb]
    dsimp only
    rcases Nat.lt_or_ge j m with q | q
    · right
      refine ⟨q, _, ?_, rfl⟩
      rw [if_neg (nI_ge q (by omega)), pz_gd (pz_in (by omega) (by omega)), pz_let, pz_let, nI_clamp (by omega), hs j q, gx_s, nI_1]
    · left
      have e : j = m := by omega
      subst e
      exact ⟨_, by rw [if_pos (nI_le (Nat.le_refl _) (by omega))], rfl⟩) 1000 0 (0, f) (by omega) (by rw [gx_0]; rfl) (by omega)
  rw [l1, l2]
theorem pc_grant (hN : NetRel N_first N_second N_isCut N_wireClaim N_knotClaim N_turnSize N_turns N_knots N_wires N_power M_knots M_wires M_battery M_first M_second M_isCut M_turns M_turnMany M_wireClaim M_knotClaim) (hw : wc_Ok N_wireClaim) :
    ∃ r1 r2, fX6_grant N_first N_second N_isCut N_wireClaim N_knotClaim N_turnSize N_turns N_knots N_wires N_power F_faceOf F_dartAhead F_howMany W_rows W_heightOf W_currentOf W_placeOf W_isPlaced W_wide W_high W_treeCount = some r1 ∧ fX7_grant M_knots M_wires M_battery M_first M_second M_isCut M_turns M_turnMany M_wireClaim M_knotClaim M_faceOf M_faceMany M_table M_heights M_currents M_places M_treeMany M_wide M_high = some r2 ∧ r1.1 = r2.1 ∧ NetRel N_first N_second N_isCut r1.2.1 r1.2.2.1 N_turnSize N_turns N_knots N_wires N_power M_knots M_wires M_battery M_first M_second M_isCut M_turns M_turnMany r2.2.1 r2.2.2.1 ∧ wc_Ok r1.2.1 := by
  have hNe := hN
  unfold fX6_grant fX7_grant fX6_letFlow
  rcases fo_main W_rows W_heightOf W_currentOf W_placeOf W_isPlaced W_wide W_high W_treeCount F_faceOf F_dartAhead M_faceOf F_howMany M_faceMany M_table M_heights M_currents M_places M_treeMany M_wide M_high hN with ⟨v, fC, da, HC, fM, HM, g, h1, h2⟩ | ⟨K, n, F, bt, a, b, t, u, fc, h, c, p, D, wd, rW, hC, cC, plC, ipC, tb, hM, cM, pm, fC, da, fM, rfl, rfl, hK, hn, hF, rd, i1, i2, i3, f1, h1, f2, f3, f4, f5, f6⟩
  · simp only [h1, h2, pz_bs, g, if_false, pz_00, if_true]
    exact ⟨_, _, rfl, rfl, rfl, hNe, hw⟩
  · obtain ⟨e1, e2, e3, e4, e5, eK, eW, e8, K', n', hKn, hnn, ok, hT, hCl⟩ := hNe
    rw [← eK, ← eW] at f3 ⊢
    simp only [h1, f2, f3, pz_bs, pz_00, if_true, pz_10, if_false]
    have g1 : ∀ x, dk_loop (bX6_grant_12 N_first N_second N_isCut x N_turnSize N_turns (nI K) (nI n) N_power fC da (nI F) rW hC cC plC ipC wd (Int32.ofInt (h (a bt))) (Int64.ofInt D)) 1000 (0, N_wireClaim) = some (gx_f n c N_wireClaim) := fun x => gx_loop (m := n) (N := 22) (by omega) c N_wireClaim (by omega) (fun w hw => (f5 w hw).1) (fun _ => rfl)
    have g2 : ∀ x, dk_loop (bX6_grant_49 N_first N_second N_isCut x N_turnSize N_turns (nI K) (nI n) N_power fC da (nI F) rW hC cC plC ipC wd (Int32.ofInt (h (a bt))) (Int64.ofInt D)) 1000 (0, N_knotClaim) = some (gx_f K h N_knotClaim) := fun x => gx_loop (m := K) (N := 12) (by omega) h N_knotClaim (by omega) (fun w hw => (f4 w hw).1) (fun _ => rfl)
    have g3 : ∀ x, dk_loop (bX7_grant_12 (nI K) (nI n) M_battery M_first M_second M_isCut M_turns M_turnMany x fM (nI F) tb hM cM pm (Int64.ofInt D) wd (Int32.ofInt (h (a bt)))) 1000 (0, M_wireClaim) = some (gx_f n c M_wireClaim) := fun x => gx_loop (m := n) (N := 22) (by omega) c M_wireClaim (by omega) (fun w hw => (f5 w hw).2) (fun _ => rfl)
    have g4 : ∀ x, dk_loop (bX7_grant_40 (nI K) (nI n) M_battery M_first M_second M_isCut M_turns M_turnMany x fM (nI F) tb hM cM pm (Int64.ofInt D) wd (Int32.ofInt (h (a bt)))) 1000 (0, M_knotClaim) = some (gx_f K h M_knotClaim) := fun x => gx_loop (m := K) (N := 12) (by omega) h M_knotClaim (by omega) (fun w hw => (f4 w hw).2) (fun _ => rfl)
    simp only [g1, g2, g3, g4, pz_bs]
    refine ⟨_, _, rfl, rfl, rfl, ⟨e1, e2, e3, ?_, e5, rfl, rfl, e8, K', n', hKn, hnn, ok, hT, fun k hk => ?_⟩, fun w => ?_⟩
    · rw [e4]
    · dsimp only
      unfold gx_f
      by_cases q : k < K
      · rw [if_pos q, if_pos q]
      · rw [if_neg q, if_neg q]
        exact hCl k hk
    · dsimp only
      unfold gx_f
      by_cases q : w < n
      · rw [if_pos q]
        intro e
        have b1 := f1.1 w q
        have b2 := f1.2.2.1 _ (rd.1.1 w q).1
        have b3 := f1.2.2.1 _ (rd.1.1 w q).2.1
        have b4 : (c w).natAbs ≤ 2 * 705432 := by
          rw [b1]
          by_cases z : fl_pl bt N_isCut w = true
          · rw [if_pos z]; omega
          · rw [if_neg z]; decide
        have e2 : (Int32.ofInt (c w)).toInt = Int32.minValue.toInt := by rw [e]
        rw [Int32.toInt_ofInt_of_le (by omega) (by omega)] at e2
        have : Int32.minValue.toInt = -2 ^ 31 := by decide
        omega
      · rw [if_neg q]
        exact hw w
end

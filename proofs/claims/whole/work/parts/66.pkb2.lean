/-! ===== PURE 6: keep and back agree ===== -/
section
variable {N_first N_second N_isCut N_wireClaim N_knotClaim N_turnSize N_turns : Nat → Int32} {N_knots N_wires N_power : Int32} {kq : Option KT} {M_knots M_wires M_battery : Int32} {M_first M_second M_isCut M_turns M_turnMany M_wireClaim M_knotClaim : Nat → Int32} {M_hasKept M_keptKnots M_keptWires M_keptBattery : Int32} {M_keptFirst M_keptSecond M_keptTurns M_keptMany M_keptWire M_keptKnot M_keptCut : Nat → Int32}
theorem pc_keep (hN : NetRel N_first N_second N_isCut N_wireClaim N_knotClaim N_turnSize N_turns N_knots N_wires N_power M_knots M_wires M_battery M_first M_second M_isCut M_turns M_turnMany M_wireClaim M_knotClaim)
    (hK : KeptRel kq M_hasKept M_keptKnots M_keptWires M_keptBattery M_keptFirst M_keptSecond M_keptTurns M_keptMany M_keptWire M_keptKnot M_keptCut) :
    ∃ r1 r2, fX6_keep N_first N_second N_isCut N_wireClaim N_knotClaim N_turnSize N_turns N_knots N_wires N_power kq = some r1 ∧ fX7_keep M_knots M_wires M_battery M_first M_second M_isCut M_turns M_turnMany M_wireClaim M_knotClaim M_hasKept M_keptKnots M_keptWires M_keptBattery M_keptFirst M_keptSecond M_keptTurns M_keptMany M_keptWire M_keptKnot M_keptCut = some r2 ∧ r1.1 = r2.1 ∧
      KeptRel (some r1.2) r2.2.1 r2.2.2.1 r2.2.2.2.1 r2.2.2.2.2.1 r2.2.2.2.2.2.1 r2.2.2.2.2.2.2.1 r2.2.2.2.2.2.2.2.1 r2.2.2.2.2.2.2.2.2.1 r2.2.2.2.2.2.2.2.2.2.1 r2.2.2.2.2.2.2.2.2.2.2.1 r2.2.2.2.2.2.2.2.2.2.2.2 := by
  obtain ⟨e1, e2, e3, e4, e5, e6, e7, e8, K, n, hKn, hn, ok, ht, hc⟩ := id hN
  have o5 := ok.2.2.2.2.1
  cases kq with
  | none =>
    obtain ⟨q0, q1, q2, q3, q4, q5⟩ := hK
    refine ⟨(N_wires, (pz_cp N_first (fun _ => 0) 22, pz_cp N_second (fun _ => 0) 22, pz_cp N_isCut (fun _ => 0) 22, pz_cp N_wireClaim (fun _ => 0) 22, pz_cp N_knotClaim (fun _ => 0) 12, pz_cp N_turnSize (fun _ => 0) 12, pz_cp N_turns (fun _ => 0) 264, N_knots, N_wires, N_power)), _, ?_, py_keep, e7, ?_⟩
    · unfold fX6_keep
      show dk_bnd (fX4_takeFrom _ _ _ _ _ _ _ _ _ _ N_first N_second N_isCut N_wireClaim N_knotClaim N_turnSize N_turns N_knots N_wires N_power) _ = _
      rw [py_take o5]
      rfl
    · refine ⟨rfl, ?_⟩
      dsimp only
      rw [q1, q2, q3, q4, q5]
      exact pz_relcp hN (fun _ => Or.inl rfl)
  | some k =>
    obtain ⟨q0, hk⟩ := hK
    obtain ⟨d1, d2, d3, d4, d5, d6, d7, d8, K', n', hK', hn', ok', ht', hc'⟩ := id hk
    refine ⟨(N_wires, (pz_cp N_first k.1 22, pz_cp N_second k.2.1 22, pz_cp N_isCut k.2.2.1 22, pz_cp N_wireClaim k.2.2.2.1 22, pz_cp N_knotClaim k.2.2.2.2.1 12, pz_cp N_turnSize k.2.2.2.2.2.1 12, pz_cp N_turns k.2.2.2.2.2.2.1 264, N_knots, N_wires, N_power)), _, ?_, py_keep, e7, ?_⟩
    · show fX6_keep1 _ _ _ _ _ _ _ _ _ _ _ _ _ _ _ _ _ _ _ _ = _
      unfold fX6_keep1
      rw [py_take o5]
      rfl
    · refine ⟨rfl, ?_⟩
      dsimp only
      rw [← d1, ← d2, ← d3, ← d4, ← d5]
      exact pz_relcp hN ok'.2.2.2.2.1
theorem pc_back (hN : NetRel N_first N_second N_isCut N_wireClaim N_knotClaim N_turnSize N_turns N_knots N_wires N_power M_knots M_wires M_battery M_first M_second M_isCut M_turns M_turnMany M_wireClaim M_knotClaim)
    (hK : KeptRel kq M_hasKept M_keptKnots M_keptWires M_keptBattery M_keptFirst M_keptSecond M_keptTurns M_keptMany M_keptWire M_keptKnot M_keptCut) :
    ∃ r1 r2, fX6_back N_first N_second N_isCut N_wireClaim N_knotClaim N_turnSize N_turns N_knots N_wires N_power kq = some r1 ∧ fX7_back M_knots M_wires M_battery M_first M_second M_isCut M_turns M_turnMany M_wireClaim M_knotClaim M_hasKept M_keptKnots M_keptWires M_keptBattery M_keptFirst M_keptSecond M_keptTurns M_keptMany M_keptWire M_keptKnot M_keptCut = some r2 ∧ r1.1 = r2.1 ∧
      NetRel r1.2.1 r1.2.2.1 r1.2.2.2.1 r1.2.2.2.2.1 r1.2.2.2.2.2.1 r1.2.2.2.2.2.2.1 r1.2.2.2.2.2.2.2.1 r1.2.2.2.2.2.2.2.2.1 r1.2.2.2.2.2.2.2.2.2.1 r1.2.2.2.2.2.2.2.2.2.2 r2.2.1 r2.2.2.1 r2.2.2.2.1 r2.2.2.2.2.1 r2.2.2.2.2.2.1 r2.2.2.2.2.2.2.1 r2.2.2.2.2.2.2.2.1 r2.2.2.2.2.2.2.2.2.1 r2.2.2.2.2.2.2.2.2.2.1 r2.2.2.2.2.2.2.2.2.2.2 := by
  obtain ⟨e1, e2, e3, e4, e5, e6, e7, e8, K, n, hKn, hn, ok, ht, hc⟩ := id hN
  cases kq with
  | none =>
    obtain ⟨q0, -⟩ := hK
    refine ⟨(-2000000000, N_first, N_second, N_isCut, N_wireClaim, N_knotClaim, N_turnSize, N_turns, N_knots, N_wires, N_power), (-2000000000, M_knots, M_wires, M_battery, M_first, M_second, M_isCut, M_turns, M_turnMany, M_wireClaim, M_knotClaim), rfl, ?_, rfl, hN⟩
    unfold fX7_back
    rw [if_pos q0]
  | some k =>
    obtain ⟨q0, hk⟩ := hK
    obtain ⟨d1, d2, d3, d4, d5, d6, d7, d8, K', n', hK', hn', ok', ht', hc'⟩ := id hk
    refine ⟨(k.2.2.2.2.2.2.2.2.1, (pz_cp k.1 N_first 22, pz_cp k.2.1 N_second 22, pz_cp k.2.2.1 N_isCut 22, pz_cp k.2.2.2.1 N_wireClaim 22, pz_cp k.2.2.2.2.1 N_knotClaim 12, pz_cp k.2.2.2.2.2.1 N_turnSize 12, pz_cp k.2.2.2.2.2.2.1 N_turns 264, k.2.2.2.2.2.2.2.1, k.2.2.2.2.2.2.2.2.1, k.2.2.2.2.2.2.2.2.2)), _, ?_, py_back (by rw [q0]; decide), d7, ?_⟩
    · show fX6_back1 _ _ _ _ _ _ _ _ _ _ _ _ _ _ _ _ _ _ _ _ = _
      unfold fX6_back1
      rw [py_take ok'.2.2.2.2.1]
      rfl
    · dsimp only
      rw [← e1, ← e2, ← e3, ← e4, ← e5]
      exact pz_relcp hk ok.2.2.2.2.1
end

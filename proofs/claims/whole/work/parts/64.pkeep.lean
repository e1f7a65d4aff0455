/-! ===== PURE 4: the reference's copying loops ===== -/
def pz_cp (f g : Nat → Int32) (j : Nat) : Nat → Int32 := fun i => if i < j then f i else g i
theorem pz_cp0 (f g : Nat → Int32) : pz_cp f g 0 = g := by
  funext i
  unfold pz_cp
  rw [if_neg (by omega)]
theorem pz_cpS (f g : Nat → Int32) (j : Nat) : upd (pz_cp f g j) j (f j) = pz_cp f g (j + 1) := by
  funext i
  by_cases e : i = j
  · subst e
    rw [pk_us]
    unfold pz_cp
    rw [if_pos (by omega)]
  · rw [pk_un e]
    unfold pz_cp
    by_cases h : i < j
    · rw [if_pos h, if_pos (by omega)]
    · rw [if_neg h, if_neg (by omega)]
section
variable {M_knots M_wires M_battery : Int32} {M_first M_second M_isCut M_turns M_turnMany M_wireClaim M_knotClaim : Nat → Int32} {M_hasKept M_keptKnots M_keptWires M_keptBattery : Int32} {M_keptFirst M_keptSecond M_keptTurns M_keptMany M_keptWire M_keptKnot M_keptCut : Nat → Int32}
theorem py_k31 (f s w c : Nat → Int32) : dk_loop (bX7_keep_31 M_knots M_wires M_battery M_first M_second M_isCut M_turns M_turnMany M_wireClaim M_knotClaim M_hasKept M_keptKnots M_keptWires M_keptBattery M_keptTurns M_keptMany M_keptKnot) 1000 (0, f, s, w, c) = some (pz_cp M_first f 22, pz_cp M_second s 22, pz_cp M_wireClaim w 22, pz_cp (fun i => vp_nar .boolean (M_isCut i)) c 22) := by
  obtain ⟨r, h1, h2⟩ := pz_fin (body := bX7_keep_31 M_knots M_wires M_battery M_first M_second M_isCut M_turns M_turnMany M_wireClaim M_knotClaim M_hasKept M_keptKnots M_keptWires M_keptBattery M_keptTurns M_keptMany M_keptKnot)
    (fun j st => st = (nI j, pz_cp M_first f j, pz_cp M_second s j, pz_cp M_wireClaim w j, pz_cp (fun i => vp_nar .boolean (M_isCut i)) c j)) (fun r => r = (pz_cp M_first f 22, pz_cp M_second s 22, pz_cp M_wireClaim w 22, pz_cp (fun i => vp_nar .boolean (M_isCut i)) c 22)) 22 (by
      intro j st hj hI
      subst hI
      unfold bX7_keep_31
      rcases Nat.lt_or_ge j 22 with h | h
      · right
        have c4 : (nI j).toNatClampNeg = j := nI_clamp (by omega)
        refine ⟨h, _, ?_, rfl⟩
        try dsimp only
        rw [if_neg (show ¬ (22 : Int32) ≤ nI j from nI_ge (b := 22) h (by decide)), pz_gd (pz_in h (by decide)), c4, ← pz_cpS M_first, ← pz_cpS M_second, ← pz_cpS M_wireClaim, ← pz_cpS (fun i => vp_nar .boolean (M_isCut i)), ← nI_1]
        rfl
      · left
        have e : j = 22 := by omega
        subst e
        refine ⟨_, ?_, rfl⟩
        try dsimp only
        rw [if_pos (by decide)]) 1000 0 (0, f, s, w, c) (by omega) (by rw [pz_cp0, pz_cp0, pz_cp0, pz_cp0]; rfl) (by omega)
  rw [h1, h2]
theorem py_k93 (a b : Nat → Int32) : dk_loop (bX7_keep_93 M_knots M_wires M_battery M_first M_second M_isCut M_turns M_turnMany M_wireClaim M_knotClaim M_hasKept M_keptKnots M_keptWires M_keptBattery M_keptFirst M_keptSecond M_keptTurns M_keptWire M_keptCut) 1000 (0, a, b) = some (pz_cp M_turnMany a 12, pz_cp M_knotClaim b 12) := by
  obtain ⟨r, h1, h2⟩ := pz_fin (body := bX7_keep_93 M_knots M_wires M_battery M_first M_second M_isCut M_turns M_turnMany M_wireClaim M_knotClaim M_hasKept M_keptKnots M_keptWires M_keptBattery M_keptFirst M_keptSecond M_keptTurns M_keptWire M_keptCut)
    (fun j st => st = (nI j, pz_cp M_turnMany a j, pz_cp M_knotClaim b j)) (fun r => r = (pz_cp M_turnMany a 12, pz_cp M_knotClaim b 12)) 12 (by
      intro j st hj hI
      subst hI
      unfold bX7_keep_93
      rcases Nat.lt_or_ge j 12 with h | h
      · right
        have c4 : (nI j).toNatClampNeg = j := nI_clamp (by omega)
        refine ⟨h, _, ?_, rfl⟩
        try dsimp only
        rw [if_neg (show ¬ (12 : Int32) ≤ nI j from nI_ge (b := 12) h (by decide)), pz_gd (pz_in h (by decide)), c4, ← pz_cpS M_turnMany, ← pz_cpS M_knotClaim, ← nI_1]
        rfl
      · left
        have e : j = 12 := by omega
        subst e
        refine ⟨_, ?_, rfl⟩
        try dsimp only
        rw [if_pos (by decide)]) 1000 0 (0, a, b) (by omega) (by rw [pz_cp0, pz_cp0]; rfl) (by omega)
  rw [h1, h2]
theorem py_k131 (a : Nat → Int32) : dk_loop (bX7_keep_131 M_knots M_wires M_battery M_first M_second M_isCut M_turns M_turnMany M_wireClaim M_knotClaim M_hasKept M_keptKnots M_keptWires M_keptBattery M_keptFirst M_keptSecond M_keptMany M_keptWire M_keptKnot M_keptCut) 1000 (0, a) = some (pz_cp M_turns a 264) := by
  obtain ⟨r, h1, h2⟩ := pz_fin (body := bX7_keep_131 M_knots M_wires M_battery M_first M_second M_isCut M_turns M_turnMany M_wireClaim M_knotClaim M_hasKept M_keptKnots M_keptWires M_keptBattery M_keptFirst M_keptSecond M_keptMany M_keptWire M_keptKnot M_keptCut)
    (fun j st => st = (nI j, pz_cp M_turns a j)) (fun r => r = pz_cp M_turns a 264) 264 (by
      intro j st hj hI
      subst hI
      unfold bX7_keep_131
      rcases Nat.lt_or_ge j 264 with h | h
      · right
        have c4 : (nI j).toNatClampNeg = j := nI_clamp (by omega)
        refine ⟨h, _, ?_, rfl⟩
        try dsimp only
        rw [if_neg (show ¬ (264 : Int32) ≤ nI j from nI_ge (b := 264) h (by decide)), pz_gd (pz_in h (by decide)), c4, ← pz_cpS M_turns, ← nI_1]
        rfl
      · left
        have e : j = 264 := by omega
        subst e
        refine ⟨_, ?_, rfl⟩
        try dsimp only
        rw [if_pos (by decide)]) 1000 0 (0, a) (by omega) (by rw [pz_cp0]; rfl) (by omega)
  rw [h1, h2]
theorem py_keep : fX7_keep M_knots M_wires M_battery M_first M_second M_isCut M_turns M_turnMany M_wireClaim M_knotClaim M_hasKept M_keptKnots M_keptWires M_keptBattery M_keptFirst M_keptSecond M_keptTurns M_keptMany M_keptWire M_keptKnot M_keptCut = some (M_wires, 1, M_knots, M_wires, M_battery, pz_cp M_first M_keptFirst 22, pz_cp M_second M_keptSecond 22, pz_cp M_turns M_keptTurns 264, pz_cp M_turnMany M_keptMany 12, pz_cp M_wireClaim M_keptWire 22, pz_cp M_knotClaim M_keptKnot 12, pz_cp (fun i => vp_nar .boolean (M_isCut i)) M_keptCut 22) := by
  unfold fX7_keep
  rw [py_k31, pz_bnd rfl, py_k93, pz_bnd rfl, py_k131, pz_bnd rfl]
end

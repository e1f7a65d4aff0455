/-! ===== PURE 5: keep and back ===== -/
section
variable {M_knots M_wires M_battery : Int32} {M_first M_second M_isCut M_turns M_turnMany M_wireClaim M_knotClaim : Nat → Int32} {M_hasKept M_keptKnots M_keptWires M_keptBattery : Int32} {M_keptFirst M_keptSecond M_keptTurns M_keptMany M_keptWire M_keptKnot M_keptCut : Nat → Int32}
theorem py_b36 (f s c w : Nat → Int32) : dk_loop (bX7_back_36 M_knots M_wires M_battery M_turns M_turnMany M_knotClaim M_hasKept M_keptKnots M_keptWires M_keptBattery M_keptFirst M_keptSecond M_keptTurns M_keptMany M_keptWire M_keptKnot M_keptCut) 1000 (0, f, s, c, w) = some (pz_cp M_keptFirst f 22, pz_cp M_keptSecond s 22, pz_cp (fun i => vp_nar .boolean (M_keptCut i)) c 22, pz_cp M_keptWire w 22) := by
  obtain ⟨r, h1, h2⟩ := pz_fin (body := bX7_back_36 M_knots M_wires M_battery M_turns M_turnMany M_knotClaim M_hasKept M_keptKnots M_keptWires M_keptBattery M_keptFirst M_keptSecond M_keptTurns M_keptMany M_keptWire M_keptKnot M_keptCut)
    (fun j st => st = (nI j, pz_cp M_keptFirst f j, pz_cp M_keptSecond s j, pz_cp (fun i => vp_nar .boolean (M_keptCut i)) c j, pz_cp M_keptWire w j)) (fun r => r = (pz_cp M_keptFirst f 22, pz_cp M_keptSecond s 22, pz_cp (fun i => vp_nar .boolean (M_keptCut i)) c 22, pz_cp M_keptWire w 22)) 22 (by
      intro j st hj hI
      subst hI
      unfold bX7_back_36
      rcases Nat.lt_or_ge j 22 with h | h
      · right
        have c4 : (nI j).toNatClampNeg = j := nI_clamp (by omega)
        refine ⟨h, _, ?_, rfl⟩
        try dsimp only
        rw [if_neg (show ¬ (22 : Int32) ≤ nI j from nI_ge (b := 22) h (by decide)), pz_gd (pz_in h (by decide)), c4, ← pz_cpS M_keptFirst, ← pz_cpS M_keptSecond, ← pz_cpS M_keptWire, ← pz_cpS (fun i => vp_nar .boolean (M_keptCut i)), ← nI_1]
        rfl
      · left
        have e : j = 22 := by omega
        subst e
        refine ⟨_, ?_, rfl⟩
        try dsimp only
        rw [if_pos (by decide)]) 1000 0 (0, f, s, c, w) (by omega) (by rw [pz_cp0, pz_cp0, pz_cp0, pz_cp0]; rfl) (by omega)
  rw [h1, h2]
theorem py_b98 (a b : Nat → Int32) : dk_loop (bX7_back_98 M_knots M_wires M_battery M_first M_second M_isCut M_turns M_wireClaim M_hasKept M_keptKnots M_keptWires M_keptBattery M_keptFirst M_keptSecond M_keptTurns M_keptMany M_keptWire M_keptKnot M_keptCut) 1000 (0, a, b) = some (pz_cp M_keptMany a 12, pz_cp M_keptKnot b 12) := by
  obtain ⟨r, h1, h2⟩ := pz_fin (body := bX7_back_98 M_knots M_wires M_battery M_first M_second M_isCut M_turns M_wireClaim M_hasKept M_keptKnots M_keptWires M_keptBattery M_keptFirst M_keptSecond M_keptTurns M_keptMany M_keptWire M_keptKnot M_keptCut)
    (fun j st => st = (nI j, pz_cp M_keptMany a j, pz_cp M_keptKnot b j)) (fun r => r = (pz_cp M_keptMany a 12, pz_cp M_keptKnot b 12)) 12 (by
      intro j st hj hI
      subst hI
      unfold bX7_back_98
      rcases Nat.lt_or_ge j 12 with h | h
      · right
        have c4 : (nI j).toNatClampNeg = j := nI_clamp (by omega)
        refine ⟨h, _, ?_, rfl⟩
        try dsimp only
        rw [if_neg (show ¬ (12 : Int32) ≤ nI j from nI_ge (b := 12) h (by decide)), pz_gd (pz_in h (by decide)), c4, ← pz_cpS M_keptMany, ← pz_cpS M_keptKnot, ← nI_1]
        rfl
      · left
        have e : j = 12 := by omega
        subst e
        refine ⟨_, ?_, rfl⟩
        try dsimp only
        rw [if_pos (by decide)]) 1000 0 (0, a, b) (by omega) (by rw [pz_cp0, pz_cp0]; rfl) (by omega)
  rw [h1, h2]
theorem py_b136 (a : Nat → Int32) : dk_loop (bX7_back_136 M_knots M_wires M_battery M_first M_second M_isCut M_turnMany M_wireClaim M_knotClaim M_hasKept M_keptKnots M_keptWires M_keptBattery M_keptFirst M_keptSecond M_keptTurns M_keptMany M_keptWire M_keptKnot M_keptCut) 1000 (0, a) = some (pz_cp M_keptTurns a 264) := by
  obtain ⟨r, h1, h2⟩ := pz_fin (body := bX7_back_136 M_knots M_wires M_battery M_first M_second M_isCut M_turnMany M_wireClaim M_knotClaim M_hasKept M_keptKnots M_keptWires M_keptBattery M_keptFirst M_keptSecond M_keptTurns M_keptMany M_keptWire M_keptKnot M_keptCut)
    (fun j st => st = (nI j, pz_cp M_keptTurns a j)) (fun r => r = pz_cp M_keptTurns a 264) 264 (by
      intro j st hj hI
      subst hI
      unfold bX7_back_136
      rcases Nat.lt_or_ge j 264 with h | h
      · right
        have c4 : (nI j).toNatClampNeg = j := nI_clamp (by omega)
        refine ⟨h, _, ?_, rfl⟩
        try dsimp only
        rw [if_neg (show ¬ (264 : Int32) ≤ nI j from nI_ge (b := 264) h (by decide)), pz_gd (pz_in h (by decide)), c4, ← pz_cpS M_keptTurns, ← nI_1]
        rfl
      · left
        have e : j = 264 := by omega
        subst e
        refine ⟨_, ?_, rfl⟩
        try dsimp only
        rw [if_pos (by decide)]) 1000 0 (0, a) (by omega) (by rw [pz_cp0]; rfl) (by omega)
  rw [h1, h2]
theorem py_back (h : ¬ M_hasKept = 0) : fX7_back M_knots M_wires M_battery M_first M_second M_isCut M_turns M_turnMany M_wireClaim M_knotClaim M_hasKept M_keptKnots M_keptWires M_keptBattery M_keptFirst M_keptSecond M_keptTurns M_keptMany M_keptWire M_keptKnot M_keptCut = some (M_keptWires, M_keptKnots, M_keptWires, M_keptBattery, pz_cp M_keptFirst M_first 22, pz_cp M_keptSecond M_second 22, pz_cp (fun i => vp_nar .boolean (M_keptCut i)) M_isCut 22, pz_cp M_keptTurns M_turns 264, pz_cp M_keptMany M_turnMany 12, pz_cp M_keptWire M_wireClaim 22, pz_cp M_keptKnot M_knotClaim 12) := by
  unfold fX7_back
  rw [if_neg h, py_b36, pz_bnd rfl, py_b98, pz_bnd rfl, py_b136, pz_bnd rfl]
end
theorem pz_cpy (f g : Nat → Int32) (v : Int32) (n : Nat) (hv : v.toNatClampNeg = n) : va_cpy f g (0 : Int32).toNatClampNeg (0 : Int32).toNatClampNeg v.toNatClampNeg = pz_cp f g n := by
  funext i
  have e0 : (0 : Int32).toNatClampNeg = 0 := by decide
  rw [hv, e0]
  by_cases h : i < n
  · rw [pk_cpy_in (by omega) (by omega)]
    unfold pz_cp
    rw [if_pos h]
    congr 1
    omega
  · rw [pk_cpy_out (by omega)]
    unfold pz_cp
    rw [if_neg h]
theorem pz_bos {f : Nat → Int32} (h : ∀ w, f w = 0 ∨ f w = 1) : ∀ n, dk_bos f n = true
  | 0 => rfl
  | n + 1 => by
    rw [dk_bos, Bool.and_eq_true]
    exact ⟨decide_eq_true (h n), pz_bos h n⟩
theorem py_take {N_first N_second N_isCut N_wireClaim N_knotClaim N_turnSize N_turns : Nat → Int32} {N_knots N_wires N_power : Int32} {O_first O_second O_isCut O_wireClaim O_knotClaim O_turnSize O_turns : Nat → Int32} {O_knots O_wires O_power : Int32} (h : ∀ w, O_isCut w = 0 ∨ O_isCut w = 1) :
    fX4_takeFrom N_first N_second N_isCut N_wireClaim N_knotClaim N_turnSize N_turns N_knots N_wires N_power O_first O_second O_isCut O_wireClaim O_knotClaim O_turnSize O_turns O_knots O_wires O_power = some (pz_cp O_first N_first 22, pz_cp O_second N_second 22, pz_cp O_isCut N_isCut 22, pz_cp O_wireClaim N_wireClaim 22, pz_cp O_knotClaim N_knotClaim 12, pz_cp O_turnSize N_turnSize 12, pz_cp O_turns N_turns 264, O_knots, O_wires, O_power) := by
  unfold fX4_takeFrom
  rw [pz_let, pz_let, pz_gd (pz_bos h 22), pz_cpy _ _ 22 22 (by decide), pz_cpy _ _ 22 22 (by decide), pz_cpy _ _ 22 22 (by decide), pz_cpy _ _ 22 22 (by decide), pz_cpy _ _ 12 12 (by decide), pz_cpy _ _ 12 12 (by decide), pz_cpy _ _ 264 264 (by decide)]
  rfl
theorem pz_cpl {f g : Nat → Int32} {n i : Nat} (h : i < n) : pz_cp f g n i = f i := if_pos h
theorem pz_nar {f : Nat → Int32} (h : ∀ w, f w = 0 ∨ f w = 1) : (fun i => vp_nar .boolean (f i)) = f := by
  funext i
  rcases h i with e | e <;> rw [e] <;> decide +kernel
theorem pz_netcp {K n : Nat} {fi se cu ts tu gf gs gc gt gu : Nat → Int32} {po : Int32} (ok : NetOk K n fi se cu ts tu po) (hg : ∀ w, gc w = 0 ∨ gc w = 1) :
    NetOk K n (pz_cp fi gf 22) (pz_cp se gs 22) (pz_cp cu gc 22) (pz_cp ts gt 12) (pz_cp tu gu 264) po := by
  obtain ⟨o1, o2, o3, o4, o5, o6⟩ := ok
  refine ⟨o1, o2, ?_, ?_, ?_, ?_⟩
  · rcases o3 with q | ⟨p, q1, q2, q3⟩
    · exact Or.inl q
    · exact Or.inr ⟨p, q1, q2, by rw [pz_cpl (by omega)]; exact q3⟩
  · intro w hw
    rw [pz_cpl (by omega), pz_cpl (by omega)]
    exact o4 w hw
  · intro w
    unfold pz_cp
    by_cases h : w < 22
    · rw [if_pos h]; exact o5 w
    · rw [if_neg h]; exact hg w
  · intro k hk
    obtain ⟨t, t1, t2, t3, t4⟩ := o6 k hk
    refine ⟨t, t1, by rw [pz_cpl (by omega)]; exact t2, ?_, ?_⟩
    · intro i hi
      obtain ⟨w, w1, w2, w3⟩ := t3 i hi
      refine ⟨w, w1, by rw [pz_cpl (by omega)]; exact w2, ?_⟩
      rw [pz_cpl (by omega), pz_cpl (by omega)]
      exact w3
    · intro i j hi hj e
      rw [pz_cpl (by omega), pz_cpl (by omega)] at e
      exact t4 i j hi hj e
/-- a net and its picture, copied over others -/
theorem pz_relcp {N_first N_second N_isCut N_wireClaim N_knotClaim N_turnSize N_turns : Nat → Int32} {N_knots N_wires N_power : Int32} {M_knots M_wires M_battery : Int32} {M_first M_second M_isCut M_turns M_turnMany M_wireClaim M_knotClaim : Nat → Int32} {gf gs gc gw gk gt gu hk hu : Nat → Int32}
    (h : NetRel N_first N_second N_isCut N_wireClaim N_knotClaim N_turnSize N_turns N_knots N_wires N_power M_knots M_wires M_battery M_first M_second M_isCut M_turns M_turnMany M_wireClaim M_knotClaim) (hg : ∀ w, gc w = 0 ∨ gc w = 1) :
    NetRel (pz_cp N_first gf 22) (pz_cp N_second gs 22) (pz_cp N_isCut gc 22) (pz_cp N_wireClaim gw 22) (pz_cp N_knotClaim gk 12) (pz_cp N_turnSize gt 12) (pz_cp N_turns gu 264) N_knots N_wires N_power M_knots M_wires M_battery (pz_cp M_first gf 22) (pz_cp M_second gs 22) (pz_cp (fun i => vp_nar .boolean (M_isCut i)) gc 22) (pz_cp M_turns hu 264) (pz_cp M_turnMany gt 12) (pz_cp M_wireClaim gw 22) (pz_cp M_knotClaim hk 12) := by
  obtain ⟨e1, e2, e3, e4, e5, e6, e7, e8, K, n, hK, hn, ok, ht, hc⟩ := h
  subst e1 e2 e3 e4 e5 e6 e7 e8
  have o1 := ok.1
  have o2 := ok.2.1
  rw [pz_nar ok.2.2.2.2.1]
  refine ⟨rfl, rfl, rfl, rfl, rfl, rfl, rfl, rfl, K, n, hK, hn, pz_netcp ok hg, ?_, ?_⟩
  · intro k i t hk q1 q2 q3
    rw [pz_cpl (by omega)] at q1
    rw [pz_cpl (by omega), pz_cpl (by omega)]
    exact ht k i t hk q1 q2 q3
  · intro k hk
    rw [pz_cpl (by omega), pz_cpl (by omega)]
    exact hc k hk

/-! ===== PURE 28g: rectangle ===== -/
def pe_Bad (n be : Nat) (cu : Nat → Int32) (c : Nat → Int) : Prop := (∃ w, w < n ∧ fl_pl be cu w = true ∧ c w = 0) ∨ (∃ u w, u < w ∧ w < n ∧ sq_b be cu c u = true ∧ sq_b be cu c w = true ∧ sq_s c u = sq_s c w)
section
variable {K n F N be : Nat} {a b fc : Nat → Nat} {fi se cu : Nat → Int32} {h c p : Nat → Int} {hC cC plC fC hM cM pm fM : Nat → Int32} {wv : Nat → Nat} {Y QL QY QS : Nat → Int32}
theorem pe_c1 {N : Nat} (hN : N ≤ 21) (z : Int32) (Q : Nat → Int32) {s : Nat} (hs : s < N) : ∃ r, dk_loop (bX2_isPerfect_17 z Q (nI N) (nI s)) 1000 (nI (s + 1)) = some r ∧ ((r = .inl 0 ∧ ∃ t, s < t ∧ t < N ∧ Q s = Q t) ∨ (r = .inr () ∧ ∀ t, s < t → t < N → Q s ≠ Q t)) := by
  exact pz_fin (body := bX2_isPerfect_17 z Q (nI N) (nI s)) (fun j st => s < j ∧ st = nI j ∧ ∀ t, s < t → t < j → Q s ≠ Q t) (fun r => (r = .inl 0 ∧ ∃ t, s < t ∧ t < N ∧ Q s = Q t) ∨ (r = .inr () ∧ ∀ t, s < t → t < N → Q s ≠ Q t)) N (by
    rintro j st hj ⟨hsj, rfl, hz⟩
    unfold bX2_isPerfect_17
    rcases Nat.lt_or_ge j N with q | q
    · rw [if_neg (nI_ge q (by omega)), pz_gd (pz_in (show s < 21 by omega) (by decide)), pz_gd (pz_in (show j < 21 by omega) (by decide)), nI_clamp (by omega), nI_clamp (by omega)]
      simp only [pz_let, nI_1]
      by_cases e : Q s = Q j
      · left
        rw [if_pos e]
        exact ⟨_, rfl, Or.inl ⟨rfl, j, hsj, q, e⟩⟩
      · right
        rw [if_neg e]
        refine ⟨q, _, rfl, by omega, rfl, fun t h1 h2 => ?_⟩
        by_cases e2 : t = j
        · rw [e2]; exact e
        · exact hz t h1 (by omega)
    · left
      have e : j = N := by omega
      subst e
      exact ⟨_, by rw [if_pos (nI_le (Nat.le_refl _) (by omega))], Or.inr ⟨rfl, hz⟩⟩) 1000 (s + 1) (nI (s + 1)) (by omega) ⟨by omega, rfl, fun t h1 h2 => absurd h1 (by omega)⟩ (by omega)
theorem pe_c2 {N : Nat} (hN : N ≤ 21) (z : Int32) (Q : Nat → Int32) : ∃ r, dk_loop (bX2_isPerfect_2 z Q (nI N)) 1000 0 = some r ∧ ((r = .inl 0 ∧ ∃ s t, s < t ∧ t < N ∧ Q s = Q t) ∨ (r = .inr () ∧ ∀ s t, s < t → t < N → Q s ≠ Q t)) := by
  exact pz_fin (body := bX2_isPerfect_2 z Q (nI N)) (fun j st => st = nI j ∧ ∀ s t, s < j → s < t → t < N → Q s ≠ Q t) (fun r => (r = .inl 0 ∧ ∃ s t, s < t ∧ t < N ∧ Q s = Q t) ∨ (r = .inr () ∧ ∀ s t, s < t → t < N → Q s ≠ Q t)) N (by
    rintro j st hj ⟨rfl, hz⟩
    unfold bX2_isPerfect_2
    rcases Nat.lt_or_ge j N with q | q
    · obtain ⟨r, l1, l2⟩ := pe_c1 hN z Q q
      rw [if_neg (nI_ge q (by omega))]
      simp only [pz_let, nI_1]
      rw [l1, pz_bs]
      rcases l2 with ⟨rfl, t, t1, t2, t3⟩ | ⟨rfl, t1⟩
      · left
        exact ⟨_, rfl, Or.inl ⟨rfl, j, t, t1, t2, t3⟩⟩
      · right
        refine ⟨q, _, rfl, rfl, fun s t h0 h1 h2 => ?_⟩
        by_cases e2 : s = j
        · rw [e2]; rw [e2] at h1; exact t1 t h1 h2
        · exact hz s t (by omega) h1 h2
    · left
      have e : j = N := by omega
      subst e
      exact ⟨_, by rw [if_pos (nI_le (Nat.le_refl _) (by omega))], Or.inr ⟨rfl, fun s t h1 h2 => hz s t (by omega) h1 h2⟩⟩) 1000 0 0 (by omega) ⟨rfl, fun s t h0 h1 h2 => absurd h0 (by omega)⟩ (by omega)
theorem pe_cls (H : ly_Ok K n F be a b fc fi se cu h c p hC cC plC fC hM cM pm fM) (B : bl_Ok n N be a b fc cu h c p wv Y QL QY QS) {idl : Int32} (hi : (idl = 0 ∧ ∀ w, w < n → fl_pl be cu w = true → c w ≠ 0) ∨ (idl = 1 ∧ ∃ w, w < n ∧ fl_pl be cu w = true ∧ c w = 0)) : ∃ v, fX2_isPerfect idl QS (nI N) = some v ∧ (v = 0 ↔ pe_Bad n be cu c) := by
  obtain ⟨b1, b2, b3⟩ := id B
  obtain ⟨r, l1, l2⟩ := pe_c2 b1 idl QS
  have sz : ∀ {s t : Nat}, s < N → t < N → (QS s = QS t ↔ sq_s c (wv s) = sq_s c (wv t)) := by
    intro s t hs ht
    obtain ⟨p1, p2, p3, p4, p5, p6, p7⟩ := b3 s hs
    obtain ⟨q1, q2, q3, q4, q5, q6, q7⟩ := b3 t ht
    obtain ⟨_, _, _, m1⟩ := ly_b H p1
    obtain ⟨_, _, _, m2⟩ := ly_b H q1
    rw [p7, q7]
    exact pi_eq (by omega) (by omega)
  unfold fX2_isPerfect
  rw [l1, pz_bs]
  rcases l2 with ⟨rfl, s, t, t1, t2, t3⟩ | ⟨rfl, t1⟩
  · refine ⟨0, rfl, fun _ => ?_, fun _ => rfl⟩
    right
    obtain ⟨p1, p2, p3, p4, p5, p6, p7⟩ := b3 s (by omega)
    obtain ⟨q1, q2, q3, q4, q5, q6, q7⟩ := b3 t t2
    refine ⟨wv s, wv t, ?_, q1, p2, q2, (sz (by omega) t2).mp t3⟩
    rcases Nat.lt_or_ge (wv s) (wv t) with g | g
    · exact g
    · have := en_le (O := sq_b be cu c) g
      omega
  · rcases hi with ⟨rfl, hz⟩ | ⟨rfl, hz⟩
    · refine ⟨1, rfl, fun k => absurd k (by decide), ?_⟩
      rintro (⟨w, w1, w2, w3⟩ | ⟨u, w, g1, g2, g3, g4, g5⟩)
      · exact absurd w3 (hz w w1 w2)
      · have i1 := bl_ix B (show u < n by omega) g3
        have i2 := bl_ix B g2 g4
        exfalso
        refine t1 _ _ (en_lt g3 g1) i2.1 ((sz i1.1 i2.1).mpr ?_)
        rw [i1.2, i2.2]
        exact g5
    · exact ⟨0, rfl, fun _ => Or.inl hz, fun _ => rfl⟩
theorem pe_r1 (H : ly_Ok K n F be a b fc fi se cu h c p hC cC plC fC hM cM pm fM) {w : Nat} (hw : w < n) : ∃ r, dk_loop (bX7_isPerfect_31 (nI n) (nI be) cu cM (nI w)) 1000 0 = some r ∧ ((r = .inl 0 ∧ ∃ u, u < w ∧ sq_b be cu c u = true ∧ sq_b be cu c w = true ∧ sq_s c u = sq_s c w) ∨ (r = .inr () ∧ ∀ u, u < w → sq_b be cu c u = true → sq_b be cu c w = true → sq_s c u ≠ sq_s c w)) := by
  have hn : n ≤ 22 := H.2.1
  exact pz_fin (body := bX7_isPerfect_31 (nI n) (nI be) cu cM (nI w)) (fun j st => st = nI j ∧ ∀ u, u < j → sq_b be cu c u = true → sq_b be cu c w = true → sq_s c u ≠ sq_s c w) (fun r => (r = .inl 0 ∧ ∃ u, u < w ∧ sq_b be cu c u = true ∧ sq_b be cu c w = true ∧ sq_s c u = sq_s c w) ∨ (r = .inr () ∧ ∀ u, u < w → sq_b be cu c u = true → sq_b be cu c w = true → sq_s c u ≠ sq_s c w)) w (by
    rintro j st hj ⟨rfl, hz⟩
    unfold bX7_isPerfect_31 jX7_isPerfect_67
    rcases Nat.lt_or_ge j w with q | q
    · rw [if_neg (nI_ge q (by omega)), ly_isq H hw, pz_bs, ly_isq H (show j < n by omega), pz_bs, ly_side H hw, pz_bs, ly_side H (show j < n by omega), pz_bs]
      simp only [pz_let, nI_1]
      obtain ⟨_, _, _, m1⟩ := ly_b H hw
      obtain ⟨_, _, _, m2⟩ := ly_b H (show j < n by omega)
      by_cases g : sq_b be cu c w = true
      · rw [if_neg (fun k => (ly_sqv w).mp k g)]
        by_cases g2 : sq_b be cu c j = true
        · rw [if_neg (fun k => (ly_sqv j).mp k g2)]
          by_cases e : sq_s c w = sq_s c j
          · left
            rw [if_pos (by rw [e])]
            exact ⟨_, rfl, Or.inl ⟨rfl, j, q, g2, g, e.symm⟩⟩
          · right
            rw [if_neg (fun k => e ((pi_eq (by omega) (by omega)).mp k))]
            refine ⟨q, _, rfl, rfl, fun u h1 h2 h3 => ?_⟩
            by_cases e2 : u = j
            · rw [e2]; exact fun k => e k.symm
            · exact hz u (by omega) h2 h3
        · right
          rw [if_pos ((ly_sqv j).mpr g2)]
          refine ⟨q, _, rfl, rfl, fun u h1 h2 h3 => ?_⟩
          by_cases e2 : u = j
          · rw [e2] at h2; exact absurd h2 g2
          · exact hz u (by omega) h2 h3
      · right
        rw [if_pos ((ly_sqv w).mpr g)]
        exact ⟨q, _, rfl, rfl, fun u h1 h2 h3 => absurd h3 g⟩
    · left
      have e : j = w := by omega
      subst e
      exact ⟨_, by rw [if_pos (nI_le (Nat.le_refl _) (by omega))], Or.inr ⟨rfl, hz⟩⟩) 1000 0 0 (by omega) ⟨rfl, fun u h1 => absurd h1 (by omega)⟩ (by omega)
theorem pe_r2 (H : ly_Ok K n F be a b fc fi se cu h c p hC cC plC fC hM cM pm fM) {w : Nat} (hw : w < n) : ∃ r, jX7_isPerfect_29 (nI n) (nI be) cu cM (nI w) = some r ∧ ((r = .inl (.inl 0) ∧ ∃ u, u < w ∧ sq_b be cu c u = true ∧ sq_b be cu c w = true ∧ sq_s c u = sq_s c w) ∨ (r = .inr (nI (w + 1)) ∧ ∀ u, u < w → sq_b be cu c u = true → sq_b be cu c w = true → sq_s c u ≠ sq_s c w)) := by
  obtain ⟨r, l1, l2⟩ := pe_r1 H hw
  unfold jX7_isPerfect_29
  rw [l1, pz_bs]
  rcases l2 with ⟨rfl, l⟩ | ⟨rfl, l⟩
  · exact ⟨_, rfl, Or.inl ⟨rfl, l⟩⟩
  · exact ⟨_, rfl, Or.inr ⟨by rw [nI_1], l⟩⟩
theorem pe_ref (H : ly_Ok K n F be a b fc fi se cu h c p hC cC plC fC hM cM pm fM) : ∃ v, fX7_isPerfect (nI n) (nI be) cu cM = some v ∧ (v = 0 ↔ pe_Bad n be cu c) := by
  have hn : n ≤ 22 := H.2.1
  obtain ⟨r, l1, l2⟩ := pz_fin (body := bX7_isPerfect_2 (nI n) (nI be) cu cM) (fun j st => st = nI j ∧ (∀ w, w < j → fl_pl be cu w = true → c w ≠ 0) ∧ ∀ u w, u < w → w < j → sq_b be cu c u = true → sq_b be cu c w = true → sq_s c u ≠ sq_s c w) (fun r => (r = .inl 0 ∧ pe_Bad n be cu c) ∨ (r = .inr () ∧ ¬ pe_Bad n be cu c)) n (by
    rintro j st hj ⟨rfl, hz1, hz⟩
    unfold bX7_isPerfect_2
    rcases Nat.lt_or_ge j n with q | q
    · obtain ⟨b1, _⟩ := ly_b H q
      obtain ⟨hK, _, hF, hb, hf, hfc, hfo, hh, hcc, hp⟩ := id H
      have z : (Int32.ofInt (c j) = 0) ↔ c j = 0 := pi_eq (y := 0) (by omega) (by decide)
      rw [if_neg (nI_ge q (by omega)), ph_pl7 (by omega), pz_bs]
      obtain ⟨r, k1, k2⟩ := pe_r2 H q
      have fin : (fl_pl be cu j = true → c j ≠ 0) → (∃ r', jX7_isPerfect_29 (nI n) (nI be) cu cM (nI j) = some (.inl r') ∧ ((r' = .inl 0 ∧ pe_Bad n be cu c) ∨ (r' = .inr () ∧ ¬ pe_Bad n be cu c))) ∨ (j < n ∧ ∃ s', jX7_isPerfect_29 (nI n) (nI be) cu cM (nI j) = some (.inr s') ∧ (s' = nI (j + 1) ∧ (∀ w, w < j + 1 → fl_pl be cu w = true → c w ≠ 0) ∧ ∀ u w, u < w → w < j + 1 → sq_b be cu c u = true → sq_b be cu c w = true → sq_s c u ≠ sq_s c w)) := by
        intro hj0
        rw [k1]
        rcases k2 with ⟨rfl, u, u1, u2, u3, u4⟩ | ⟨rfl, l⟩
        · exact Or.inl ⟨_, rfl, Or.inl ⟨rfl, Or.inr ⟨u, j, u1, q, u2, u3, u4⟩⟩⟩
        · refine Or.inr ⟨q, _, rfl, rfl, fun w hw => ?_, fun u w g1 g2 => ?_⟩
          · by_cases e2 : w = j
            · rw [e2]; exact hj0
            · exact hz1 w (by omega)
          · by_cases e2 : w = j
            · subst e2; exact l u g1
            · exact hz u w g1 (by omega)
      by_cases g : fl_pl be cu j = true
      · rw [if_pos ((fl_pln (by omega) (by omega)).mpr g), if_neg (by decide), pz_gd (pz_in (show j < 22 by omega) (by decide)), nI_clamp (by omega), (hcc j q).2]
        by_cases e : c j = 0
        · left
          rw [if_pos (z.mpr e)]
          exact ⟨_, rfl, Or.inl ⟨rfl, Or.inl ⟨j, q, g, e⟩⟩⟩
        · rw [if_neg (fun k => e (z.mp k))]
          exact fin (fun _ => e)
      · rw [if_neg (fun z => g ((fl_pln (by omega) (by omega)).mp z)), if_pos rfl]
        exact fin (fun k => absurd k g)
    · left
      have e : j = n := by omega
      subst e
      refine ⟨_, by rw [if_pos (nI_le (Nat.le_refl _) (by omega))], Or.inr ⟨rfl, ?_⟩⟩
      rintro (⟨w, w1, w2, w3⟩ | ⟨u, w, g1, g2, g3, g4, g5⟩)
      · exact hz1 w w1 w2 w3
      · exact hz u w g1 g2 g3 g4 g5) 1000 0 0 (by omega) ⟨rfl, fun w h1 => absurd h1 (by omega), fun u w _ h1 => absurd h1 (by omega)⟩ (by omega)
  unfold fX7_isPerfect
  rw [l1, pz_bs]
  rcases l2 with ⟨rfl, l⟩ | ⟨rfl, l⟩
  · exact ⟨0, rfl, fun _ => l, fun _ => rfl⟩
  · exact ⟨1, rfl, fun k => absurd k (by decide), fun k => absurd k l⟩
end
section
variable {N_first N_second N_isCut N_wireClaim N_knotClaim N_turnSize N_turns : Nat → Int32} {N_knots N_wires N_power M_knots M_wires M_battery : Int32} {M_first M_second M_isCut M_turns M_turnMany M_wireClaim M_knotClaim : Nat → Int32} {F_faceOf F_dartAhead M_faceOf : Nat → Int32} {F_howMany M_faceMany : Int32} {W_rows : Nat → Int64} {W_heightOf W_currentOf W_placeOf W_isPlaced : Nat → Int32} {W_wide W_high : Int32} {W_treeCount : Int64} {M_table : Nat → Int64} {M_heights M_currents M_places : Nat → Int32} {M_treeMany : Int64} {M_wide M_high : Int32} {Y_wireOf : Nat → Int32} {Y_hasIdleWire Y_innerSet Y_innerSize Y_innerLeft Y_innerLow Y_innerWide : Int32} {Q_left Q_low Q_side : Nat → Int32} {Q_howMany : Int32}
theorem pc_rectangle (hN : NetRel N_first N_second N_isCut N_wireClaim N_knotClaim N_turnSize N_turns N_knots N_wires N_power M_knots M_wires M_battery M_first M_second M_isCut M_turns M_turnMany M_wireClaim M_knotClaim) (x1 : Int32) :
    ∃ r1 r2, fX6_rectangle N_first N_second N_isCut N_turnSize N_turns N_knots N_wires N_power F_faceOf F_dartAhead F_howMany W_rows W_heightOf W_currentOf W_placeOf W_isPlaced W_wide W_high W_treeCount Y_wireOf Y_hasIdleWire Y_innerSet Y_innerSize Y_innerLeft Y_innerLow Y_innerWide Q_left Q_low Q_side Q_howMany x1 = some r1 ∧ fX7_rectangle M_knots M_wires M_battery M_first M_second M_isCut M_turns M_turnMany M_faceOf M_faceMany M_table M_heights M_currents M_places M_treeMany M_wide M_high x1 = some r2 ∧ r1.1 = r2.1 := by
  have hNe := hN
  unfold fX6_rectangle fX7_rectangle fX6_layOut
  rcases fo_main W_rows W_heightOf W_currentOf W_placeOf W_isPlaced W_wide W_high W_treeCount F_faceOf F_dartAhead M_faceOf F_howMany M_faceMany M_table M_heights M_currents M_places M_treeMany M_wide M_high hN with ⟨v, fC, da, HC, fM, HM, g, h1, h2⟩ | ⟨K, n, F, bt, a, b, t, u, fc, h, c, p, D, wd, rW, hC, cC, plC, ipC, tb, hM, cM, pm, fC, da, fM, rfl, rfl, hK, hn, hF, rd, i1, i2, i3, f1, h1, f2, f3, f4, f5, f6⟩
  · simp only [h1, h2, pz_bs, g, if_false, pz_00, if_true]
    exact ⟨_, _, rfl, rfl, rfl⟩
  · obtain ⟨H, k1, k2, k3, k4, k5, k6, k7⟩ := fo_lay hNe hK hn hF rd i1 i3 f1 f4 f5 f6
    have rd' := rd
    subst k1 k2 k3 k4 k5 k6 k7
    obtain ⟨N, wv, Y, QL, QY, QS, idl, y1, y2, y3⟩ := bl_build H Y_wireOf Q_left Q_low Q_side Y_hasIdleWire Q_howMany
    obtain ⟨st4, m7, e4, e7, e0, eb, eo⟩ := rb_same rd' H y2 Y_innerSet Y_innerSize Y_innerLeft Y_innerLow Y_innerWide
    obtain ⟨v1, p1, p2⟩ := pe_cls H y2 y3
    obtain ⟨v2, p3, p4⟩ := pe_ref H
    simp only [h1, f2, f3, pz_bs, pz_00, if_true, pz_10, if_false, y1]
    by_cases x0 : x1 = 0
    · rw [if_pos x0, if_pos x0]
      exact ⟨_, _, rfl, rfl, rfl⟩
    rw [if_neg x0, if_neg x0]
    by_cases x0 : x1 = 1
    · rw [if_pos x0, if_pos x0]
      exact ⟨_, _, rfl, rfl, rfl⟩
    rw [if_neg x0, if_neg x0]
    by_cases x0 : x1 = 2
    · rw [if_pos x0, if_pos x0, ri_squares H, pz_bs]
      refine ⟨_, _, rfl, rfl, ?_⟩
      exact congrArg nI y2.2.1
    rw [if_neg x0, if_neg x0]
    by_cases x0 : x1 = 3
    · rw [if_pos x0, if_pos x0, p1, p3, pz_bs, pz_bs]
      by_cases g : pe_Bad n bt M_isCut c
      · rw [if_pos (p2.mpr g), if_pos (p4.mpr g)]
        exact ⟨_, _, rfl, rfl, rfl⟩
      · rw [if_neg (fun k => g (p2.mp k)), if_neg (fun k => g (p4.mp k))]
        exact ⟨_, _, rfl, rfl, rfl⟩
    rw [if_neg x0, if_neg x0]
    by_cases x0 : x1 = 4
    · rw [if_pos x0, if_pos x0, e4, e7, pz_bs, pz_bs]
      by_cases g : m7 = 0
      · rw [if_pos (e0.mpr g), if_pos g]
        exact ⟨_, _, rfl, rfl, rfl⟩
      · rw [if_neg (fun k => g (e0.mp k)), if_neg g]
        exact ⟨_, _, rfl, rfl, rfl⟩
    rw [if_neg x0, if_neg x0]
    exact ⟨_, _, rfl, rfl, rfl⟩
end

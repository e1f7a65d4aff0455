/-! ===== PURE 26b: square, at, copy ===== -/
section
variable {K n F bt N : Nat} {a b fc : Nat → Nat} {fi se cu : Nat → Int32} {h c p : Nat → Int} {hC cC plC fC hM cM pm fM : Nat → Int32} {wv : Nat → Nat} {Y QL QY QS : Nat → Int32}
theorem bl_ix (B : bl_Ok n N bt a b fc cu h c p wv Y QL QY QS) {w : Nat} (hw : w < n) (hs : sq_b bt cu c w = true) : ds_cnt w (sq_b bt cu c) < N ∧ wv (ds_cnt w (sq_b bt cu c)) = w := by
  obtain ⟨b1, b2, b3⟩ := B
  have hlt : ds_cnt w (sq_b bt cu c) < N := by rw [b2]; exact en_lt hs hw
  obtain ⟨q1, q2, q3, _⟩ := b3 _ hlt
  exact ⟨hlt, en_inj q2 hs q3⟩
theorem bl_find (B : bl_Ok n N bt a b fc cu h c p wv Y QL QY QS) (hn : n ≤ 22) {w : Nat} (hw : w < n) : fX2_squareOfWire Y (nI N) (nI w) = some (if sq_b bt cu c w = true then nI (ds_cnt w (sq_b bt cu c)) else -1) := by
  obtain ⟨b1, b2, b3⟩ := id B
  obtain ⟨r, l1, l2⟩ := pz_fin (body := bX2_squareOfWire_2 Y (nI N) (nI w)) (fun j st => st = nI j ∧ ∀ s, s < j → wv s ≠ w) (fun r => (∃ s, s < N ∧ wv s = w ∧ r = .inl (nI s)) ∨ (r = .inr () ∧ ∀ s, s < N → wv s ≠ w)) N (by
    rintro j st hj ⟨rfl, hz⟩
    unfold bX2_squareOfWire_2
    rcases Nat.lt_or_ge j N with q | q
    · obtain ⟨q1, q2, q3, q4, _⟩ := b3 j q
      rw [if_neg (nI_ge q (by omega)), pz_gd (pz_in (show j < 21 by omega) (by decide)), nI_clamp (by omega), q4]
      by_cases e : wv j = w
      · left
        rw [if_pos (by rw [e])]
        exact ⟨_, rfl, Or.inl ⟨j, q, e, rfl⟩⟩
      · right
        rw [if_neg (pz_nz (by omega) (by omega) e), pz_let]
        refine ⟨q, nI j + 1, rfl, nI_1 j, fun s hs => ?_⟩
        by_cases e2 : s = j
        · rw [e2]; exact e
        · exact hz s (by omega)
    · left
      have e : j = N := by omega
      subst e
      exact ⟨_, by rw [if_pos (nI_le (Nat.le_refl _) (by omega))], Or.inr ⟨rfl, hz⟩⟩) 1000 0 0 (by omega) ⟨rfl, fun s hs => absurd hs (by omega)⟩ (by omega)
  unfold fX2_squareOfWire
  rw [l1, pz_bs]
  rcases l2 with ⟨s, s1, s2, rfl⟩ | ⟨rfl, hz⟩
  · obtain ⟨q1, q2, q3, _⟩ := b3 s s1
    rw [s2] at q2 q3
    rw [if_pos q2, q3]
    rfl
  · by_cases g : sq_b bt cu c w = true
    · obtain ⟨i1, i2⟩ := bl_ix B hw g
      exact absurd i2 (hz _ i1)
    · rw [if_neg g]
      rfl
/-- the first wire whose square holds -/
def at_Is (n bt : Nat) (cu : Nat → Int32) (c : Nat → Int) (P : Nat → Prop) (r : Int32) : Prop := (∃ w, w < n ∧ sq_b bt cu c w = true ∧ P w ∧ r = nI w ∧ ∀ v, v < w → sq_b bt cu c v = true → ¬ P v) ∨ (r = -1 ∧ ∀ v, v < n → sq_b bt cu c v = true → ¬ P v)
theorem at_un {P : Nat → Prop} {r r' : Int32} (h1 : at_Is n bt cu c P r) (h2 : at_Is n bt cu c P r') : r = r' := by
  rcases h1 with ⟨w, w1, w2, w3, w4, w5⟩ | ⟨w1, w2⟩ <;> rcases h2 with ⟨v, v1, v2, v3, v4, v5⟩ | ⟨v1, v2⟩
  · have : w = v := by
      rcases Nat.lt_trichotomy w v with g | g | g
      · exact absurd w3 (v5 w g w2)
      · exact g
      · exact absurd v3 (w5 v g v2)
    rw [w4, v4, this]
  · exact absurd w3 (v2 w w1 w2)
  · exact absurd v3 (w2 v v1 v2)
  · rw [w1, v1]
def at_P (fc a b : Nat → Nat) (h c p : Nat → Int) (x y : Int32) (w : Nat) : Prop := ¬ x < Int32.ofInt (sq_l fc p w) ∧ ¬ Int32.ofInt (sq_l fc p w) + Int32.ofInt (sq_s c w) ≤ x ∧ ¬ y < Int32.ofInt (sq_y a b h w) ∧ ¬ Int32.ofInt (sq_y a b h w) + Int32.ofInt (sq_s c w) ≤ y
theorem at_cls (B : bl_Ok n N bt a b fc cu h c p wv Y QL QY QS) (hn : n ≤ 22) (x y : Int32) : ∃ v, fX2_wireOnUnit Y QL QY QS (nI N) x y = some v ∧ at_Is n bt cu c (at_P fc a b h c p x y) v := by
  obtain ⟨b1, b2, b3⟩ := id B
  obtain ⟨r, l1, l2⟩ := pz_fin (body := bX2_wireOnUnit_2 Y QL QY QS (nI N) x y) (fun j st => st = nI j ∧ ∀ s, s < j → ¬ at_P fc a b h c p x y (wv s)) (fun r => (∃ s, s < N ∧ at_P fc a b h c p x y (wv s) ∧ r = .inl (nI (wv s)) ∧ ∀ s', s' < s → ¬ at_P fc a b h c p x y (wv s')) ∨ (r = .inr () ∧ ∀ s, s < N → ¬ at_P fc a b h c p x y (wv s))) N (by
    rintro j st hj ⟨rfl, hz⟩
    unfold bX2_wireOnUnit_2 fX5_covers
    rcases Nat.lt_or_ge j N with q | q
    · obtain ⟨q1, q2, q3, q4, q5, q6, q7⟩ := b3 j q
      rw [if_neg (nI_ge q (by omega)), pz_gd (pz_in (show j < 21 by omega) (by decide)), pf_right (by omega), pf_top (by omega), pz_bs, pz_bs, pz_gd (pz_in (show j < 21 by omega) (by decide)), nI_clamp (by omega), q4, q5, q6, q7]
      have go : ¬ at_P fc a b h c p x y (wv j) → (∃ r, dk_bnd (some (0 : Int32)) (fun r_4 => if r_4 = 0 then dk_let (nI j + 1) (fun x3_6 => some (.inr x3_6)) else some (.inl (.inl (nI (wv j))) : ((Int32) ⊕ (Unit)) ⊕ (Int32))) = some (.inl r) ∧ ((∃ s, s < N ∧ at_P fc a b h c p x y (wv s) ∧ r = .inl (nI (wv s)) ∧ ∀ s', s' < s → ¬ at_P fc a b h c p x y (wv s')) ∨ (r = .inr () ∧ ∀ s, s < N → ¬ at_P fc a b h c p x y (wv s)))) ∨ (j < N ∧ ∃ s', dk_bnd (some (0 : Int32)) (fun r_4 => if r_4 = 0 then dk_let (nI j + 1) (fun x3_6 => some (.inr x3_6)) else some (.inl (.inl (nI (wv j))) : ((Int32) ⊕ (Unit)) ⊕ (Int32))) = some (.inr s') ∧ s' = nI (j + 1) ∧ ∀ s, s < j + 1 → ¬ at_P fc a b h c p x y (wv s)) := fun np => by
        right
        refine ⟨q, nI j + 1, rfl, nI_1 j, fun s hs => ?_⟩
        by_cases e : s = j
        · rw [e]; exact np
        · exact hz s (by omega)
      by_cases c1 : x < Int32.ofInt (sq_l fc p (wv j))
      · rw [if_pos c1]; exact go (fun z => z.1 c1)
      rw [if_neg c1]
      by_cases c2 : Int32.ofInt (sq_l fc p (wv j)) + Int32.ofInt (sq_s c (wv j)) ≤ x
      · rw [if_pos c2]; exact go (fun z => z.2.1 c2)
      rw [if_neg c2]
      by_cases c3 : y < Int32.ofInt (sq_y a b h (wv j))
      · rw [if_pos c3]; exact go (fun z => z.2.2.1 c3)
      rw [if_neg c3]
      by_cases c4 : Int32.ofInt (sq_y a b h (wv j)) + Int32.ofInt (sq_s c (wv j)) ≤ y
      · rw [if_pos c4]; exact go (fun z => z.2.2.2 c4)
      rw [if_neg c4]
      left
      exact ⟨_, rfl, Or.inl ⟨j, q, ⟨c1, c2, c3, c4⟩, rfl, hz⟩⟩
    · left
      have e : j = N := by omega
      subst e
      exact ⟨_, by rw [if_pos (nI_le (Nat.le_refl _) (by omega))], Or.inr ⟨rfl, hz⟩⟩) 1000 0 0 (by omega) ⟨rfl, fun s hs => absurd hs (by omega)⟩ (by omega)
  unfold fX2_wireOnUnit
  rw [l1, pz_bs]
  rcases l2 with ⟨s, s1, s2, rfl, s3⟩ | ⟨rfl, hz⟩
  · obtain ⟨q1, q2, q3, _⟩ := b3 s s1
    refine ⟨_, rfl, Or.inl ⟨wv s, q1, q2, s2, rfl, fun v hv hvs => ?_⟩⟩
    have i := bl_ix B (show v < n by omega) hvs
    have := en_lt hvs hv
    rw [q3] at this
    have k := s3 _ this
    rw [i.2] at k
    exact k
  · refine ⟨_, rfl, Or.inr ⟨rfl, fun v hv hvs => ?_⟩⟩
    have i := bl_ix B hv hvs
    have k := hz _ i.1
    rw [i.2] at k
    exact k
theorem at_ref (H : ly_Ok K n F bt a b fc fi se cu h c p hC cC plC fC hM cM pm fM) (x y : Int32) (z1 z2 : Int32) (z3 z4 : Nat → Int32) (z5 : Nat → Int64) (z6 : Int64) (z7 z8 z9 : Int32) : ∃ r, dk_loop (bX7_at_12 z1 (nI n) (nI bt) fi se cu z3 z4 fM z7 z5 hM cM pm z6 z8 z9 x y) 1000 0 = some r ∧ ((∃ w, w < n ∧ sq_b bt cu c w = true ∧ at_P fc a b h c p x y w ∧ r = .inl (nI w, fM, z7, z5, hM, cM, pm, z6, z8, z9) ∧ ∀ v, v < w → sq_b bt cu c v = true → ¬ at_P fc a b h c p x y v) ∨ (r = .inr () ∧ ∀ v, v < n → sq_b bt cu c v = true → ¬ at_P fc a b h c p x y v)) := by
  have hn := H.2.1
  refine pz_fin (body := bX7_at_12 z1 (nI n) (nI bt) fi se cu z3 z4 fM z7 z5 hM cM pm z6 z8 z9 x y) (fun j st => st = nI j ∧ ∀ v, v < j → sq_b bt cu c v = true → ¬ at_P fc a b h c p x y v) _ n ?_ 1000 0 0 (by omega) ⟨rfl, fun s hs => absurd hs (by omega)⟩ (by omega)
  rintro j st hj ⟨rfl, hz⟩
  unfold bX7_at_12 jX7_at_83
  rcases Nat.lt_or_ge j n with q | q
  · simp only [ly_isq H q, ly_left H q, ly_low H q, ly_side H q, pz_bs, pz_let, nI_1]
    rw [if_neg (nI_ge q (by omega))]
    have go : (sq_b bt cu c j = true → ¬ at_P fc a b h c p x y j) → ∀ v, v < j + 1 → sq_b bt cu c v = true → ¬ at_P fc a b h c p x y v := fun np v hv hvs => by
      by_cases e : v = j
      · rw [e]; rw [e] at hvs; exact np hvs
      · exact hz v (by omega) hvs
    by_cases g : sq_b bt cu c j = true
    · rw [if_neg (fun k => (ly_sqv j).mp k g)]
      by_cases c1 : x < Int32.ofInt (sq_l fc p j)
      · rw [if_pos c1]; exact Or.inr ⟨q, _, rfl, rfl, go (fun _ z => z.1 c1)⟩
      rw [if_neg c1]
      by_cases c2 : Int32.ofInt (sq_l fc p j) + Int32.ofInt (sq_s c j) ≤ x
      · rw [if_pos c2]; exact Or.inr ⟨q, _, rfl, rfl, go (fun _ z => z.2.1 c2)⟩
      rw [if_neg c2]
      by_cases c3 : y < Int32.ofInt (sq_y a b h j)
      · rw [if_pos c3]; exact Or.inr ⟨q, _, rfl, rfl, go (fun _ z => z.2.2.1 c3)⟩
      rw [if_neg c3]
      by_cases c4 : Int32.ofInt (sq_y a b h j) + Int32.ofInt (sq_s c j) ≤ y
      · rw [if_pos c4]; exact Or.inr ⟨q, _, rfl, rfl, go (fun _ z => z.2.2.2 c4)⟩
      rw [if_neg c4]
      exact Or.inl ⟨_, rfl, Or.inl ⟨j, q, g, ⟨c1, c2, c3, c4⟩, rfl, hz⟩⟩
    · rw [if_pos ((ly_sqv j).mpr g)]
      exact Or.inr ⟨q, _, rfl, rfl, go (fun k => absurd k g)⟩
  · left
    have e : j = n := by omega
    subst e
    exact ⟨_, by rw [if_pos (nI_le (Nat.le_refl _) (by omega))], Or.inr ⟨rfl, hz⟩⟩
end
section
variable {N_first N_second N_isCut N_wireClaim N_knotClaim N_turnSize N_turns : Nat → Int32} {N_knots N_wires N_power M_knots M_wires M_battery : Int32} {M_first M_second M_isCut M_turns M_turnMany M_wireClaim M_knotClaim : Nat → Int32} {F_faceOf F_dartAhead M_faceOf : Nat → Int32} {F_howMany M_faceMany : Int32} {W_rows : Nat → Int64} {W_heightOf W_currentOf W_placeOf W_isPlaced : Nat → Int32} {W_wide W_high : Int32} {W_treeCount : Int64} {M_table : Nat → Int64} {M_heights M_currents M_places : Nat → Int32} {M_treeMany : Int64} {M_wide M_high : Int32} {Y_wireOf : Nat → Int32} {Y_hasIdleWire : Int32} {Q_left Q_low Q_side : Nat → Int32} {Q_howMany : Int32} {D_left D_low D_side : Nat → Int32} {D_howMany M_told : Int32} {M_left M_low M_side : Nat → Int32}
theorem fo_lay (hN : NetRel N_first N_second N_isCut N_wireClaim N_knotClaim N_turnSize N_turns N_knots N_wires N_power M_knots M_wires M_battery M_first M_second M_isCut M_turns M_turnMany M_wireClaim M_knotClaim) {K n F bt : Nat} {a b t : Nat → Nat} {u : Nat → Nat → Nat} {fc : Nat → Nat} {h c p : Nat → Int} {hC cC plC hM cM pm fC da fM : Nat → Int32} (hK : K ≤ 12) (hn : n ≤ 22) (hF : F ≤ 22) (rd : rd_Ok K n F bt a b t u fc N_isCut N_power) (i1 : nt_Is K n a b t u N_first N_second N_turnSize N_turns) (i3 : rd_Is n F a b t u fc fC da fM) (f1 : fo_Ok K n F bt a b fc N_isCut h c p) (f4 : ∀ k, k < K → hC k = Int32.ofInt (h k) ∧ hM k = Int32.ofInt (h k)) (f5 : ∀ w, w < n → cC w = Int32.ofInt (c w) ∧ cM w = Int32.ofInt (c w)) (f6 : ∀ f, f < F → plC f = Int32.ofInt (p f) ∧ pm f = Int32.ofInt (p f)) : ly_Ok K n F bt a b fc N_first N_second N_isCut h c p hC cC plC fC hM cM pm fM ∧ N_power = nI bt ∧ M_battery = nI bt ∧ M_first = N_first ∧ M_second = N_second ∧ M_isCut = N_isCut ∧ M_knots = N_knots ∧ M_wires = N_wires := by
  obtain ⟨e1, e2, e3, e4, e5, e6, e7, e8, _⟩ := hN
  exact ⟨⟨hK, hn, hF, rd.2.2.2.1, fun w hw => ⟨(rd.1.1 w hw).1, (rd.1.1 w hw).2.1, (i1.1 w hw).1, (i1.1 w hw).2⟩, fun d hd => ⟨(rd.2.1.1 d hd).1, (i3 d hd).1, (i3 d hd).2.1⟩, f1, f4, f5, f6⟩, rd.2.2.2.2.1, by rw [← e8]; exact rd.2.2.2.2.1, e1.symm, e2.symm, e3.symm, e6.symm, e7.symm⟩
theorem pc_at (hN : NetRel N_first N_second N_isCut N_wireClaim N_knotClaim N_turnSize N_turns N_knots N_wires N_power M_knots M_wires M_battery M_first M_second M_isCut M_turns M_turnMany M_wireClaim M_knotClaim) (x1 x2 : Int32) :
    ∃ r1 r2, fX6_at N_first N_second N_isCut N_turnSize N_turns N_knots N_wires N_power F_faceOf F_dartAhead F_howMany W_rows W_heightOf W_currentOf W_placeOf W_isPlaced W_wide W_high W_treeCount Y_wireOf Y_hasIdleWire Q_left Q_low Q_side Q_howMany x1 x2 = some r1 ∧ fX7_at M_knots M_wires M_battery M_first M_second M_isCut M_turns M_turnMany M_faceOf M_faceMany M_table M_heights M_currents M_places M_treeMany M_wide M_high x1 x2 = some r2 ∧ r1.1 = r2.1 := by
  have hNe := hN
  unfold fX6_at fX7_at fX6_layOut
  rcases fo_main W_rows W_heightOf W_currentOf W_placeOf W_isPlaced W_wide W_high W_treeCount F_faceOf F_dartAhead M_faceOf F_howMany M_faceMany M_table M_heights M_currents M_places M_treeMany M_wide M_high hN with ⟨v, fC, da, HC, fM, HM, g, h1, h2⟩ | ⟨K, n, F, bt, a, b, t, u, fc, h, c, p, D, wd, rW, hC, cC, plC, ipC, tb, hM, cM, pm, fC, da, fM, rfl, rfl, hK, hn, hF, rd, i1, i2, i3, f1, h1, f2, f3, f4, f5, f6⟩
  · simp only [h1, h2, pz_bs, g, if_false, pz_00, if_true]
    exact ⟨_, _, rfl, rfl, rfl⟩
  · obtain ⟨H, k1, k2, k3, k4, k5, k6, k7⟩ := fo_lay hNe hK hn hF rd i1 i3 f1 f4 f5 f6
    subst k1 k2 k3 k4 k5 k6 k7
    obtain ⟨N, wv, Y, QL, QY, QS, idl, y1, y2, y3⟩ := bl_build H Y_wireOf Q_left Q_low Q_side Y_hasIdleWire Q_howMany
    obtain ⟨v, v1, v2⟩ := at_cls y2 hn x1 x2
    obtain ⟨r, w1, w2⟩ := at_ref H x1 x2 (nI K) 0 M_turns M_turnMany tb (Int64.ofInt D) (nI F) wd (Int32.ofInt (h (a bt)))
    simp only [h1, f2, f3, pz_bs, pz_00, if_true, pz_10, if_false, y1, v1, w1]
    rcases w2 with ⟨w, q1, q2, q3, rfl, q5⟩ | ⟨rfl, q5⟩
    · refine ⟨_, _, rfl, rfl, ?_⟩
      exact at_un v2 (Or.inl ⟨w, q1, q2, q3, rfl, q5⟩)
    · refine ⟨_, _, rfl, rfl, ?_⟩
      exact at_un v2 (Or.inr ⟨rfl, q5⟩)
theorem pc_square (hN : NetRel N_first N_second N_isCut N_wireClaim N_knotClaim N_turnSize N_turns N_knots N_wires N_power M_knots M_wires M_battery M_first M_second M_isCut M_turns M_turnMany M_wireClaim M_knotClaim) (x1 x2 : Int32) :
    ∃ r1 r2, fX6_square N_first N_second N_isCut N_turnSize N_turns N_knots N_wires N_power F_faceOf F_dartAhead F_howMany W_rows W_heightOf W_currentOf W_placeOf W_isPlaced W_wide W_high W_treeCount Y_wireOf Y_hasIdleWire Q_left Q_low Q_side Q_howMany x1 x2 = some r1 ∧ fX7_square M_knots M_wires M_battery M_first M_second M_isCut M_turns M_turnMany M_faceOf M_faceMany M_table M_heights M_currents M_places M_treeMany M_wide M_high x1 x2 = some r2 ∧ r1.1 = r2.1 := by
  have hNe := hN
  unfold fX6_square fX7_square fX6_layOut
  rcases fo_main W_rows W_heightOf W_currentOf W_placeOf W_isPlaced W_wide W_high W_treeCount F_faceOf F_dartAhead M_faceOf F_howMany M_faceMany M_table M_heights M_currents M_places M_treeMany M_wide M_high hN with ⟨v, fC, da, HC, fM, HM, g, h1, h2⟩ | ⟨K, n, F, bt, a, b, t, u, fc, h, c, p, D, wd, rW, hC, cC, plC, ipC, tb, hM, cM, pm, fC, da, fM, rfl, rfl, hK, hn, hF, rd, i1, i2, i3, f1, h1, f2, f3, f4, f5, f6⟩
  · obtain ⟨_, _, _, _, _, eK, eW, _, K, n, hKn, hnn, ok, _⟩ := hNe
    rw [← eK, ← eW] at h2 ⊢
    subst hKn hnn
    have o2 := ok.2.1
    rcases pz_kn (K := n) (by omega) x1 with ⟨w, hx, rfl⟩ | ⟨z1, z2, z3, z4⟩
    · simp only [h1, h2, pz_bs, g, if_false, pz_00, if_true, (pz_kn1 (show n < 2 ^ 30 by omega) hx).2.2.1, pz_10]
      exact ⟨_, _, rfl, rfl, rfl⟩
    · simp only [h1, h2, pz_bs, g, if_false, pz_00, if_true, z3, pz_10]
      exact ⟨_, _, rfl, rfl, rfl⟩
  · obtain ⟨H, k1, k2, k3, k4, k5, k6, k7⟩ := fo_lay hNe hK hn hF rd i1 i3 f1 f4 f5 f6
    subst k1 k2 k3 k4 k5 k6 k7
    obtain ⟨N, wv, Y, QL, QY, QS, idl, y1, y2, y3⟩ := bl_build H Y_wireOf Q_left Q_low Q_side Y_hasIdleWire Q_howMany
    rcases pz_kn (K := n) (by omega) x1 with ⟨w, hx, rfl⟩ | ⟨z1, z2, z3, z4⟩
    · simp only [h1, f2, f3, pz_bs, pz_00, if_true, pz_10, if_false, y1, (pz_kn1 (show n < 2 ^ 30 by omega) hx).2.2.1, (pz_kn1 (show n < 2 ^ 30 by omega) hx).2.2.2, bl_find y2 hn hx, ly_isq H hx, ly_left H hx, ly_low H hx, ly_side H hx]
      by_cases g : sq_b bt M_isCut c w = true
      · obtain ⟨j1, j2⟩ := bl_ix y2 hx g
        obtain ⟨m1, m2, m3, m4, m5, m6, m7⟩ := y2.2.2 _ j1
        have hN21 := y2.1
        rw [j2] at m5 m6 m7
        have s1 : ¬ nI (ds_cnt w (sq_b bt M_isCut c)) = -1 := pz_m1 (by omega)
        simp only [g, if_true, s1, if_false, pz_10]
        rcases pz_what x2 with hx2 | ⟨hx2, hx3⟩
        · have i21 : dk_in (nI (ds_cnt w (sq_b bt M_isCut c))) 21 = true := pz_in (by omega) (by decide)
          have kc : (nI (ds_cnt w (sq_b bt M_isCut c))).toNatClampNeg = ds_cnt w (sq_b bt M_isCut c) := nI_clamp (by omega)
          unfold fX5_tellOne
          rcases hx2 with rfl | rfl | rfl
          · simp only [show ¬ (0 : Int32) < 0 by decide, show ¬ (2 : Int32) < 0 by decide, if_false, if_true, show fX7_in 0 0 2 = some 1 by decide, pz_bs, pz_10, pz_00, pz_gd i21, kc, m5]
            exact ⟨_, _, rfl, rfl, rfl⟩
          · simp only [show ¬ (1 : Int32) < 0 by decide, show ¬ (2 : Int32) < 1 by decide, if_false, if_true, show fX7_in 1 0 2 = some 1 by decide, pz_bs, pz_10, pz_00, pz_gd i21, kc, m6]
            exact ⟨_, _, rfl, rfl, rfl⟩
          · simp only [show ¬ (2 : Int32) < 0 by decide, show ¬ (2 : Int32) < 2 by decide, if_false, if_true, show fX7_in 2 0 2 = some 1 by decide, pz_bs, pz_10, pz_00, pz_gd i21, kc, m7, show ¬ (2 : Int32) = 0 by decide, show ¬ (2 : Int32) = 1 by decide]
            exact ⟨_, _, rfl, rfl, rfl⟩
        · simp only [hx3, pz_bs, pz_00, if_true]
          rcases hx2 with e | e
          · simp only [e, if_true]
            exact ⟨_, _, rfl, rfl, rfl⟩
          · by_cases e2 : x2 < 0
            · simp only [e2, if_true]
              exact ⟨_, _, rfl, rfl, rfl⟩
            · have e3 : ¬ x2 ≤ 2 := by
                rw [Int32.le_iff_toInt_le]
                rw [Int32.lt_iff_toInt_lt] at e
                omega
              simp only [e2, if_false, e3]
              exact ⟨_, _, rfl, rfl, rfl⟩
      · simp only [g, if_true, if_false, pz_00]
        have i : ∃ v, fX7_in x2 0 2 = some v := by
          unfold fX7_in
          by_cases q1 : x2 < 0
          · rw [if_pos q1]; exact ⟨_, rfl⟩
          · rw [if_neg q1]
            by_cases q2 : 2 < x2
            · rw [if_pos q2]; exact ⟨_, rfl⟩
            · rw [if_neg q2]; exact ⟨_, rfl⟩
        obtain ⟨v, hv⟩ := i
        simp only [hv, pz_bs]
        by_cases q : v = 0
        · simp only [q, if_true, pz_00]
          exact ⟨_, _, rfl, rfl, rfl⟩
        · simp only [q, if_false]
          exact ⟨_, _, rfl, rfl, rfl⟩
    · simp only [h1, f2, f3, pz_bs, pz_00, if_true, pz_10, if_false, z3, z4]
      exact ⟨_, _, rfl, rfl, rfl⟩
end

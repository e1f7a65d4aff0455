/-! ===== PURE 24c: the flow as a whole ===== -/
/-- what is known of heights, currents, places -/
def fo_Ok (K n F bt : Nat) (a b fc : Nat → Nat) (cu : Nat → Int32) (h c p : Nat → Int) : Prop :=
  (∀ w, w < n → c w = if fl_pl bt cu w then h (a w) - h (b w) else 0) ∧ (∀ w, w < n → w ≠ bt → p (fc (2 * w + 1)) - p (fc (2 * w)) = c w) ∧ (∀ k, k < K → (h k).natAbs ≤ 705432) ∧ (∀ f, f < F → (p f).natAbs ≤ 22 * 2 ^ 22) ∧ p (fc (2 * bt + 1)) = 0 ∧ h (b bt) = 0 ∧ 0 < h (a bt)
theorem fo_solve {K n F bt : Nat} {a b t : Nat → Nat} {u : Nat → Nat → Nat} {fc : Nat → Nat} {fi se cu fC da fM : Nat → Int32} {po : Int32} (hK : K ≤ 12) (hn : n ≤ 22) (hrd : rd_Ok K n F bt a b t u fc cu po) (his : ∀ w, w < n → fi w = nI (a w) ∧ se w = nI (b w)) (hfs : rd_Is n F a b t u fc fC da fM)
    (W_rows : Nat → Int64) (W_heightOf W_currentOf W_placeOf W_isPlaced : Nat → Int32) (W_wide W_high : Int32) (W_treeCount : Int64) (M_turns M_turnMany M0 : Nat → Int32) (Z0 : Int32) (M_table : Nat → Int64) (M_heights M_currents M_places : Nat → Int32) (M_treeMany : Int64) (M_wide M_high : Int32) (hcz : fX7_causeOf (nI K) (nI n) po fi se cu M_turns M_turnMany M0 Z0 = some (0, fM, nI F)) :
    ∃ (h c p : Nat → Int) (D : Int) (wd : Int32) (rW : Nat → Int64) (hC cC plC ipC : Nat → Int32) (tb : Nat → Int64) (hM cM pm : Nat → Int32), fo_Ok K n F bt a b fc cu h c p ∧
      fX1_solve W_rows W_heightOf W_currentOf W_placeOf W_isPlaced W_wide W_high W_treeCount fi se cu (nI K) (nI n) po fC (nI F) = some (rW, hC, cC, plC, ipC, wd, Int32.ofInt (h (a bt)), Int64.ofInt D) ∧
      fX7_flows (nI K) (nI n) po fi se cu M_turns M_turnMany M0 Z0 M_table M_heights M_currents M_places M_treeMany M_wide M_high = some (1, fM, nI F, tb, hM, cM, pm, Int64.ofInt D, wd, Int32.ofInt (h (a bt))) ∧
      (∀ k, k < K → hC k = Int32.ofInt (h k) ∧ hM k = Int32.ofInt (h k)) ∧ (∀ w, w < n → cC w = Int32.ofInt (c w) ∧ cM w = Int32.ofInt (c w)) ∧ (∀ f, f < F → plC f = Int32.ofInt (p f) ∧ pm f = Int32.ofInt (p f)) := by
  obtain ⟨hok, hF, hE, hbt, hpo, hcb, hconn, hplc⟩ := id hrd
  subst hpo
  obtain ⟨ha, hb, hne⟩ := hok.1 bt hbt
  have hN : fw_Net K n bt a b fi se cu := ⟨hK, hn, hok.1, his, hbt, fun Q hQ => hplc Q (fun w hw h1 h2 => hQ w hw (decide_eq_true ⟨h1, h2⟩))⟩
  have hg := fl_g_ne (G := b bt) (S := a bt) (fw_ab hN) hb ha hN.2.2.2.2.2
  have hhl : ∀ k, k < K → (fl_h K n (b bt) (a bt) a b (fl_pl bt cu) k).natAbs ≤ 705432 := fun k hk => fl_h_le hn hK hg hk
  have hcl : ∀ w, w < n → (fl_c K n (b bt) (a bt) a b (fl_pl bt cu) w).natAbs ≤ 2 ^ 21 := fun w hw => by
    unfold fl_c
    have h1 := hhl _ (hok.1 w hw).1
    have h2 := hhl _ (hok.1 w hw).2.1
    by_cases g : fl_pl bt cu w = true
    · rw [if_pos g]; omega
    · rw [if_neg g]; decide
  have hF22 : F ≤ 22 := by omega
  have hF1 : 1 ≤ F := by
    have := (hF.1 (2 * bt + 1) (by omega)).1
    omega
  have hfc : ∀ d, d < 2 * n → fc d < F ∧ fC d = nI (fc d) ∧ fM d = nI (fc d) := fun d hd => ⟨(hF.1 d hd).1, (hfs d hd).1, (hfs d hd).2.1⟩
  have hL := hfc (2 * bt + 1) (by omega)
  -- the start: the face left of the battery
  have hS0 : ∀ p0 : Nat → Int, p0 (fc (2 * bt + 1)) = 0 → pp_S F n bt fc (fl_c K n (b bt) (a bt) a b (fl_pl bt cu)) 1 (fun _ => fc (2 * bt + 1)) (fun _ => 0) p0 := fun p0 hp0 =>
    ⟨Nat.le_refl _, fun _ _ => hL.1, fun i j hi hj _ => by omega, rfl, hp0, fun j j1 j2 => by omega, fun i hi => by rw [hp0]; exact Nat.zero_le _⟩
  have hP0 : ∀ f, pp_P 1 (fun _ => fc (2 * bt + 1)) f ↔ f = fc (2 * bt + 1) := fun f => ⟨fun ⟨_, _, e⟩ => e.symm, fun e => ⟨0, by omega, e.symm⟩⟩
  have hR0 : ∀ pl ip pm : Nat → Int32, (∀ f, f < F → ip f = 0) → (∀ f, f < F → pm f = -2000000000) → pp_R F 1 (fun _ => fc (2 * bt + 1)) (fun _ => 0) (upd pl (fc (2 * bt + 1)) 0) (upd ip (fc (2 * bt + 1)) 1) (upd pm (fc (2 * bt + 1)) 0) := by
    intro pl ip pm h1 h2 f hf
    refine ⟨fun q => ?_, fun q => ?_⟩
    · rw [(hP0 f).mp q, tr_u1, tr_u1, tr_u1]
      exact ⟨rfl, rfl, rfl⟩
    · have ne : f ≠ fc (2 * bt + 1) := fun e => q ((hP0 f).mpr e)
      rw [tr_u2 ip _ ne, tr_u2 pm _ ne]
      exact ⟨h1 f hf, h2 f hf⟩
  -- the runs with given rows
  have run : ∀ (cC cM pl ip pm : Nat → Int32), (∀ w, w < n → cC w = Int32.ofInt (fl_c K n (b bt) (a bt) a b (fl_pl bt cu) w) ∧ cM w = Int32.ofInt (fl_c K n (b bt) (a bt) a b (fl_pl bt cu) w)) → ∃ plC ipC pm' p, fX1_placeFaces cC pl ip (nI n) (nI bt) fC (nI F) = some (plC, ipC) ∧ fX7_placed (nI n) (nI bt) fM cM pm = some pm' ∧ fo_Ok K n F bt a b fc cu (fl_h K n (b bt) (a bt) a b (fl_pl bt cu)) (fl_c K n (b bt) (a bt) a b (fl_pl bt cu)) p ∧ ∀ f, f < F → plC f = Int32.ofInt (p f) ∧ pm' f = Int32.ofInt (p f) := by
    intro cC cM pl ip pm hcc
    obtain ⟨i1, k1, k2⟩ := pz_fin (body := bX1_placeFaces_2 cC pl (nI n) (nI bt) fC (nI F)) (fun j st => ∃ g, st = (nI j, g) ∧ ∀ f, f < j → g f = 0) (fun r => ∀ f, f < F → r f = 0) F (by
      rintro j st hj ⟨g, rfl, hg'⟩
      unfold bX1_placeFaces_2
      dsimp only
      rcases Nat.lt_or_ge j F with q | q
      · right
        refine ⟨q, (nI (j + 1), upd g j 0), ?_, _, rfl, ?_⟩
        · rw [if_neg (nI_ge q (by omega)), pz_gd (pz_in (show j < 44 by omega) (by decide)), pz_let, pz_let, nI_clamp (by omega), nI_1]
          rfl
        · intro d hd
          by_cases e : d = j
          · rw [e, tr_u1]
          · rw [tr_u2 g _ e]; exact hg' d (by omega)
      · left
        have e : j = F := by omega
        exact ⟨g, by rw [if_pos (nI_le (by omega) (by omega))], fun f hf => hg' f (by omega)⟩) 1000 0 (0, ip) (by omega) ⟨ip, rfl, fun d hd => absurd hd (by omega)⟩ (by omega)
    obtain ⟨i2, k3, k4⟩ := pz_fin (body := bX7_placed_2 (nI n) (nI bt) fM cM) (fun j st => ∃ g, st = (nI j, g) ∧ ∀ f, f < j → g f = -2000000000) (fun r => ∀ f, f < 24 → r f = -2000000000) 24 (by
      rintro j st hj ⟨g, rfl, hg'⟩
      unfold bX7_placed_2
      dsimp only
      rcases Nat.lt_or_ge j 24 with q | q
      · right
        refine ⟨q, (nI (j + 1), upd g j (-2000000000)), ?_, _, rfl, ?_⟩
        · rw [if_neg (show ¬ (24 : Int32) ≤ nI j from nI_ge (b := 24) q (by omega)), pz_gd (pz_in (show j < 24 by omega) (by decide)), pz_let, pz_let, nI_clamp (by omega), nI_1]
        · intro d hd
          by_cases e : d = j
          · rw [e, tr_u1]
          · rw [tr_u2 g _ e]; exact hg' d (by omega)
      · left
        have e : j = 24 := by omega
        subst e
        exact ⟨g, by rw [if_pos (show (24 : Int32) ≤ nI 24 by decide)], hg'⟩) 1000 0 (0, pm) (by omega) ⟨pm, rfl, fun d hd => absurd hd (by omega)⟩ (by omega)
    obtain ⟨r1, r2, q1, q2, m, o, tw, p, hS, hR, hcl'⟩ := pp_run hn hF22 hbt hfc hcc hcl F 1 _ _ _ _ _ _ 1000 1000 (by omega) (by omega) (Nat.le_refl _) (by omega) (hS0 (fun _ => 0) rfl) (hR0 pl i1 i2 k2 (fun f hf => k4 f (by omega)))
    obtain ⟨mF, hall⟩ := pa_all hrd hS hcl'
    subst mF
    refine ⟨r1.1, r1.2, r2, p, ?_, ?_, ⟨fun w hw => rfl, pa_cons hN hrd hS, hhl, fun f hf => ?_, ?_, ?_, fl_hpos hN⟩, fun f hf => ?_⟩
    · unfold fX1_placeFaces
      have eL : fX0_leftOf fC (nI bt) = some (nI (fc (2 * bt + 1))) := by
        unfold fX0_leftOf
        rw [show (2 : Int32) * nI bt = nI (2 * bt) from pk_mul 2 bt, nI_1, pz_gd (pz_in (by omega) (by decide)), nI_clamp (by omega), hL.2.1]
      rw [Nat.sub_self] at q1
      simp only [k1, pz_bs, eL, pz_let, pz_gd (pz_in (show fc (2 * bt + 1) < 44 by omega) (by decide)), nI_clamp (show fc (2 * bt + 1) < 2 ^ 31 by omega)]
      rw [show vp_nar .boolean 1 = (1 : Int32) from rfl, show (0 : Int32) = nI 0 from rfl]
      rw [show (nI 0 : Int32) = 0 from rfl] at q1 ⊢
      rw [q1, pz_bs]
    · unfold fX7_placed
      simp only [k3, pz_bs, show (2 : Int32) * nI bt = nI (2 * bt) from pk_mul 2 bt, nI_1, pz_gd (pz_in (show 2 * bt + 1 < 44 by omega) (by decide)), nI_clamp (show 2 * bt + 1 < 2 ^ 31 by omega), hL.2.2, pz_gd (pz_in (show fc (2 * bt + 1) < 24 by omega) (by decide)), nI_clamp (show fc (2 * bt + 1) < 2 ^ 31 by omega), pz_let, q2]
    · obtain ⟨i, hi, e⟩ := hall f hf
      have := hS.2.2.2.2.2.2 i hi
      rw [e] at this
      exact Nat.le_trans this (Nat.mul_le_mul_right _ (by omega))
    · rw [← hS.2.2.2.1]; exact hS.2.2.2.2.1
    · have e := fl_h_mul (K := K) (n := n) (G := b bt) (S := a bt) (a := a) (b := b) (pl := fl_pl bt cu) hb
      rw [fl_HG (m := K - 1) (by omega) hb ha hne] at e
      rcases Int.mul_eq_zero.mp e.symm with q | q
      · exact absurd q (by omega)
      · exact q
    · have := (hR f hf).1 (hall f hf)
      exact ⟨this.2.1, this.2.2⟩
  obtain ⟨r, W', w1, w2, w3⟩ := fw_c1 hN W_rows W_treeCount
  obtain ⟨hC, w4, w5⟩ := fw_c2 hN W' w3 W_heightOf
  obtain ⟨cC, w6, w7⟩ := fw_c3 hN hC w5 W_currentOf W_wide
  obtain ⟨M1, x1⟩ := fw_r1 hN M_table
  obtain ⟨M2, hM0, x2, x3⟩ := fw_r2 hN M1 M_heights M_turns M_turnMany fM M_currents M_places (nI F) M_wide M_high 0 (Int64.ofInt (ds_det K (fl_A K n (b bt) (a bt) a b (fl_pl bt cu))))
  obtain ⟨cM0, x4, x5⟩ := fw_r3 hN hM0 M_currents x3 M_turns M_turnMany fM M_places M2 (nI F) M_wide M_high (Int64.ofInt (ds_det K (fl_A K n (b bt) (a bt) a b (fl_pl bt cu))))
  obtain ⟨cM, x6, x7⟩ := fw_r4 hN cM0 x5 M_turns M_turnMany fM hM0 M_places M2 (nI F) M_high (Int64.ofInt (ds_det K (fl_A K n (b bt) (a bt) a b (fl_pl bt cu))))
  obtain ⟨hM, x8, x9⟩ := fw_r5 hN hM0 x3 M_turns M_turnMany fM cM M_places M2 (nI F) (fl_wd (a bt) a b (fl_c K n (b bt) (a bt) a b (fl_pl bt cu)) n) M_high (Int64.ofInt (ds_det K (fl_A K n (b bt) (a bt) a b (fl_pl bt cu))))
  obtain ⟨plC, ipC, pm, p, v1, v2, v3, v4⟩ := run cC cM W_placeOf W_isPlaced M_places (fun w hw => ⟨w7 w hw, x7 w hw⟩)
  refine ⟨fl_h K n (b bt) (a bt) a b (fl_pl bt cu), fl_c K n (b bt) (a bt) a b (fl_pl bt cu), p, ds_det K (fl_A K n (b bt) (a bt) a b (fl_pl bt cu)), fl_wd (a bt) a b (fl_c K n (b bt) (a bt) a b (fl_pl bt cu)) n, W', hC, cC, plC, ipC, M2, hM, cM, pm, v3, ?_, ?_, fun k hk => ⟨w5 k hk, x9 k hk⟩, fun w hw => ⟨w7 w hw, x7 w hw⟩, v4⟩
  · unfold fX1_solve
    simp only [(pz_kn1 (show n < 2 ^ 30 by omega) hbt).2.2.1, pz_bs, pz_10, if_false, w1, w2, w4, w6, pz_gd (pz_in (show bt < 22 by omega) (by decide)), nI_clamp (show bt < 2 ^ 31 by omega), (his bt hbt).1, pz_gd (pz_in (show a bt < 12 by omega) (by decide)), nI_clamp (show a bt < 2 ^ 31 by omega), pz_let, w5 _ ha, v1]
  · unfold fX7_flows
    simp only [hcz, pz_bs, pz_00, if_true, pz_gd (pz_in (show bt < 22 by omega) (by decide)), nI_clamp (show bt < 2 ^ 31 by omega), (his bt hbt).1, (his bt hbt).2, pz_let, x1, x2, x4, x6, x8, pz_gd (pz_in (show a bt < 12 by omega) (by decide)), nI_clamp (show a bt < 2 ^ 31 by omega), x9 _ ha, v2]

/-! ===== PURE 26c: copy ===== -/
theorem pi_nat {x : Int} (h0 : 0 ≤ x) (h : x.natAbs < 2 ^ 30) : Int32.ofInt x = nI x.toNat := by
  apply Int32.toInt_inj.mp
  rw [pi_toInt h, nI_toInt (by omega)]
  omega
section
variable {K n F bt : Nat} {a b fc : Nat → Nat} {fi se cu : Nat → Int32} {h c p : Nat → Int} {hC cC plC fC hM cM pm fM : Nat → Int32}
theorem cp_ref (H : ly_Ok K n F bt a b fc fi se cu h c p hC cC plC fC hM cM pm fM) (L0 Y0 S0 : Nat → Int32) (z1 : Int32) (z3 z4 : Nat → Int32) (z5 : Nat → Int64) (z6 : Int64) (z7 z8 z9 : Int32) : ∃ L Y S, dk_loop (bX7_copy_17 z1 (nI n) (nI bt) fi se cu z3 z4 fM z7 z5 hM cM pm z6 z8 z9) 1000 (0, 0, L0, Y0, S0) = some (nI (ds_cnt n (sq_b bt cu c)), L, Y, S) ∧ ∀ w, w < n → sq_b bt cu c w = true → L (ds_cnt w (sq_b bt cu c)) = Int32.ofInt (sq_l fc p w) ∧ Y (ds_cnt w (sq_b bt cu c)) = Int32.ofInt (sq_y a b h w) ∧ S (ds_cnt w (sq_b bt cu c)) = Int32.ofInt (sq_s c w) := by
  have hn := H.2.1
  let O := sq_b bt cu c
  have hN : ds_cnt n O ≤ 21 := ly_N H
  obtain ⟨r, l1, L, Y, S, l2, l3⟩ := pz_fin (body := bX7_copy_17 z1 (nI n) (nI bt) fi se cu z3 z4 fM z7 z5 hM cM pm z6 z8 z9) (fun j st => ∃ L Y S, st = (nI j, nI (ds_cnt j O), L, Y, S) ∧ ∀ w, w < j → O w = true → L (ds_cnt w O) = Int32.ofInt (sq_l fc p w) ∧ Y (ds_cnt w O) = Int32.ofInt (sq_y a b h w) ∧ S (ds_cnt w O) = Int32.ofInt (sq_s c w)) (fun r => ∃ L Y S, r = (nI (ds_cnt n O), L, Y, S) ∧ ∀ w, w < n → O w = true → L (ds_cnt w O) = Int32.ofInt (sq_l fc p w) ∧ Y (ds_cnt w O) = Int32.ofInt (sq_y a b h w) ∧ S (ds_cnt w O) = Int32.ofInt (sq_s c w)) n (by
    rintro j st hj ⟨L, Y, S, rfl, f1⟩
    unfold bX7_copy_17 jX7_copy_88
    dsimp only
    rcases Nat.lt_or_ge j n with q | q
    · right
      refine ⟨q, ?_⟩
      simp only [ly_isq H q, ly_left H q, ly_low H q, ly_side H q, pz_bs, pz_let, nI_1]
      rw [if_neg (nI_ge q (by omega))]
      by_cases g : O j = true
      · have hlt : ds_cnt j O < ds_cnt n O := en_lt g q
        rw [if_neg (fun k => (ly_sqv j).mp k g), pz_gd (pz_in (show ds_cnt j O < 21 by omega) (by decide)), nI_clamp (show ds_cnt j O < 2 ^ 31 by omega)]
        refine ⟨_, rfl, upd L (ds_cnt j O) (Int32.ofInt (sq_l fc p j)), upd Y (ds_cnt j O) (Int32.ofInt (sq_y a b h j)), upd S (ds_cnt j O) (Int32.ofInt (sq_s c j)), ?_, fun w hw hOw => ?_⟩
        · rw [show ds_cnt (j + 1) O = ds_cnt j O + 1 from by rw [ds_cnt, if_pos g]]
        · by_cases e : w = j
          · rw [e, tr_u1, tr_u1, tr_u1]
            exact ⟨rfl, rfl, rfl⟩
          · have ne : ds_cnt w O ≠ ds_cnt j O := fun k => e (en_inj hOw g k)
            rw [tr_u2 _ _ ne, tr_u2 _ _ ne, tr_u2 _ _ ne]
            exact f1 w (by omega) hOw
      · rw [if_pos ((ly_sqv j).mpr g)]
        refine ⟨_, rfl, L, Y, S, ?_, fun w hw hOw => ?_⟩
        · rw [show ds_cnt (j + 1) O = ds_cnt j O from by rw [ds_cnt, if_neg g]; rfl]
        · by_cases e : w = j
          · rw [e] at hOw; exact absurd hOw g
          · exact f1 w (by omega) hOw
    · left
      have e : j = n := by omega
      subst e
      exact ⟨_, by rw [if_pos (nI_le (Nat.le_refl _) (by omega))], L, Y, S, rfl, f1⟩) 1000 0 (0, 0, L0, Y0, S0) (by omega) ⟨L0, Y0, S0, rfl, fun w hw => absurd hw (by omega)⟩ (by omega)
  exact ⟨L, Y, S, by rw [l1, l2], l3⟩
end
section
variable {N_first N_second N_isCut N_wireClaim N_knotClaim N_turnSize N_turns : Nat → Int32} {N_knots N_wires N_power M_knots M_wires M_battery : Int32} {M_first M_second M_isCut M_turns M_turnMany M_wireClaim M_knotClaim : Nat → Int32} {F_faceOf F_dartAhead M_faceOf : Nat → Int32} {F_howMany M_faceMany : Int32} {W_rows : Nat → Int64} {W_heightOf W_currentOf W_placeOf W_isPlaced : Nat → Int32} {W_wide W_high : Int32} {W_treeCount : Int64} {M_table : Nat → Int64} {M_heights M_currents M_places : Nat → Int32} {M_treeMany : Int64} {M_wide M_high : Int32} {Y_wireOf : Nat → Int32} {Y_hasIdleWire : Int32} {Q_left Q_low Q_side : Nat → Int32} {Q_howMany : Int32} {D_left D_low D_side : Nat → Int32} {D_howMany M_told : Int32} {M_left M_low M_side : Nat → Int32}
theorem pc_copy (hN : NetRel N_first N_second N_isCut N_wireClaim N_knotClaim N_turnSize N_turns N_knots N_wires N_power M_knots M_wires M_battery M_first M_second M_isCut M_turns M_turnMany M_wireClaim M_knotClaim) (hD : ToldRel D_left D_low D_side D_howMany M_told M_left M_low M_side) :
    ∃ r1 r2, fX6_copy N_first N_second N_isCut N_turnSize N_turns N_knots N_wires N_power F_faceOf F_dartAhead F_howMany W_rows W_heightOf W_currentOf W_placeOf W_isPlaced W_wide W_high W_treeCount Y_wireOf Y_hasIdleWire Q_left Q_low Q_side Q_howMany D_left D_low D_side D_howMany = some r1 ∧ fX7_copy M_knots M_wires M_battery M_first M_second M_isCut M_turns M_turnMany M_told M_left M_low M_side M_faceOf M_faceMany M_table M_heights M_currents M_places M_treeMany M_wide M_high = some r2 ∧ r1.1 = r2.1 ∧ ToldRel r1.2.2.2.2.2.2.2.2.2.2.2.2.2.2.2.2.2.2.1 r1.2.2.2.2.2.2.2.2.2.2.2.2.2.2.2.2.2.2.2.1 r1.2.2.2.2.2.2.2.2.2.2.2.2.2.2.2.2.2.2.2.2.1 r1.2.2.2.2.2.2.2.2.2.2.2.2.2.2.2.2.2.2.2.2.2 r2.2.1 r2.2.2.1 r2.2.2.2.1 r2.2.2.2.2.1 := by
  have hNe := hN
  unfold fX6_copy fX7_copy fX6_layOut
  rcases fo_main W_rows W_heightOf W_currentOf W_placeOf W_isPlaced W_wide W_high W_treeCount F_faceOf F_dartAhead M_faceOf F_howMany M_faceMany M_table M_heights M_currents M_places M_treeMany M_wide M_high hN with ⟨v, fC, da, HC, fM, HM, g, h1, h2⟩ | ⟨K, n, F, bt, a, b, t, u, fc, h, c, p, D, wd, rW, hC, cC, plC, ipC, tb, hM, cM, pm, fC, da, fM, rfl, rfl, hK, hn, hF, rd, i1, i2, i3, f1, h1, f2, f3, f4, f5, f6⟩
  · simp only [h1, h2, pz_bs, g, if_false, pz_00, if_true]
    exact ⟨_, _, rfl, rfl, rfl, hD⟩
  · obtain ⟨H, k1, k2, k3, k4, k5, k6, k7⟩ := fo_lay hNe hK hn hF rd i1 i3 f1 f4 f5 f6
    have rd' := rd
    subst k1 k2 k3 k4 k5 k6 k7
    obtain ⟨N, wv, Y, QL, QY, QS, idl, y1, y2, y3⟩ := bl_build H Y_wireOf Q_left Q_low Q_side Y_hasIdleWire Q_howMany
    obtain ⟨L', Y', S', v1, v2⟩ := cp_ref H M_left M_low M_side (nI K) M_turns M_turnMany tb (Int64.ofInt D) (nI F) wd (Int32.ofInt (h (a bt)))
    have tk : fX5_takeFrom D_left D_low D_side D_howMany QL QY QS (nI N) = some (pz_cp QL D_left 21, pz_cp QY D_low 21, pz_cp QS D_side 21, nI N) := by
      unfold fX5_takeFrom
      simp only [pz_let, pz_cpy _ _ 21 21 (by decide)]
    simp only [h1, f2, f3, pz_bs, pz_00, if_true, pz_10, if_false, y1, v1, tk]
    obtain ⟨b1, b2, b3⟩ := id y2
    refine ⟨_, _, rfl, rfl, ?_, ?_⟩
    · dsimp only
      rw [b2]
    · dsimp only
      refine ⟨by rw [b2], N, rfl, b1, fun i hi => ?_⟩
      obtain ⟨q1, q2, q3, q4, q5, q6, q7⟩ := b3 i hi
      obtain ⟨w1, w2, w3⟩ := v2 (wv i) q1 q2
      rw [q3] at w1 w2 w3
      rw [pz_cpl (show i < 21 by omega), pz_cpl (show i < 21 by omega), pz_cpl (show i < 21 by omega), q5, q6, q7, w1, w2, w3]
      obtain ⟨t1, t2, t3, t4, t5⟩ := tl_in rd' f1 q1 q2
      obtain ⟨_, u2, u3, u4⟩ := ly_b H q1
      refine ⟨rfl, rfl, rfl, (sq_l fc p (wv i)).toNat, (sq_y a b h (wv i)).toNat, (sq_s c (wv i)).toNat, by omega, by omega, by omega, by omega, pi_nat t1 (by omega), pi_nat t2 (by omega), pi_nat (by omega) (by omega)⟩
end

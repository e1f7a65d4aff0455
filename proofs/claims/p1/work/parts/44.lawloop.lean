theorem dk_lawlt {i L : Nat} (h1 : i < 2 ^ 29) (h2 : L < 2 ^ 29) (h : ¬ (Int32.ofNat L - 4 < nI i)) : i + 4 ≤ L := by
  have e1 : (nI L - nI 4).toInt = (L : Int) - (4 : Nat) := pk_sub_toInt (by omega) (by omega)
  have e2 : (nI i).toInt = (i : Int) := nI_toInt (by omega)
  have h3 : ¬ ((nI L - nI 4).toInt < (nI i).toInt) := fun q => h (Int32.lt_iff_toInt_lt.mpr q)
  rw [e1, e2] at h3
  omega
set_option maxHeartbeats 4000000 in
set_option maxRecDepth 100000 in
theorem law_loop {p : Program} {l : Launch} {e : Env} {s : State} {m : MethodId} {below : List Frame} {meth : Method} {c : Code} {b L : Nat} {xs : Nat → Int32} {dC : Nat → ClassId} {dI : Nat → Nat → Nat} {cI cJ cZ : ClassId} {oT : Nat} {aT : Nat → Nat} {oN : Nat} {aN : Nat → Nat} {oF : Nat} {aF : Nat → Nat} {oW : Nat} {aW : Nat → Nat} {oY : Nat} {aY : Nat → Nat} {oQ : Nat} {aQ : Nat → Nat} {oD : Nat} {aD : Nat → Nat} {oL : Nat} {aL : Nat → Nat} {oM : Nat} {aM : Nat → Nat} {Inv : InvT} (C : dk_C p s m meth c #[Value.ref b] cL_law ret 4 RL lw_tbl) (hN : dk_Nk s) (hK : va_K (dC, dI) vwCl (dk_ty cI cJ cZ) s) (hX : va_X b L xs s s.heap) (hbl : b < s.heap.size) (hL : L ≤ 2048) (h0 : hy_knot L Inv) (h1 : hy_wire L Inv) (h2 : hy_battery L Inv) (h3 : hy_cut L Inv) (h4 : hy_lay L Inv) (h5 : hy_bare L Inv) (h6 : hy_mirror L Inv) (h7 : hy_about L Inv) (h8 : hy_clear L Inv) (h9 : hy_keep L Inv) (h10 : hy_back L Inv) (h11 : hy_cause L Inv) (h12 : hy_of L Inv) (h13 : hy_turn L Inv) (h14 : hy_faces L Inv) (h15 : hy_face L Inv) (h16 : hy_trees L Inv) (h17 : hy_current L Inv) (h18 : hy_height L Inv) (h19 : hy_place L Inv) (h20 : hy_rectangle L Inv) (h21 : hy_square L Inv) (h22 : hy_within L Inv) (h23 : hy_at L Inv) (h24 : hy_tell L Inv) (h25 : hy_alter L Inv) (h26 : hy_hush L Inv) (h27 : hy_copy L Inv) (h28 : hy_fit L Inv) (h29 : hy_read L Inv) (h30 : hy_claim L Inv) (h31 : hy_raise L Inv) (h32 : hy_grant L Inv) (h33 : hy_judge L Inv) (h34 : hy_count L Inv) (hsk : hy_skip L Inv) : ∀ (n i : Nat), i ≤ L + 4 → L + 5 ≤ i + n → lawAt p l e s m below meth c b L dC dI cI cJ cZ oT aT oN aN oF aF oW aW oY aY oQ aQ oD aD oL aL oM aM Inv i i 18 := by
  obtain ⟨hx, hb, hr, hml, hown, hts, hlocks⟩ := id C
  have hA : ∀ q : Nat, s.heap.size ≤ q → (fun q : Nat => s.heap.size ≤ q) q := fun _ h => h
  have hbA : ¬ (fun q : Nat => s.heap.size ≤ q) b := Nat.not_le.mpr hbl
  intro n
  induction n with
  | zero => intro i hi0 hi; exact absurd hi (by omega)
  | succ n ih =>
    intro i hi0 hin
    intro N_first N_second N_isCut N_wireClaim N_knotClaim N_turnSize N_turns N_knots N_wires N_power F_faceOf F_dartAhead F_howMany W_rows W_heightOf W_currentOf W_placeOf W_isPlaced W_wide W_high W_treeCount Y_wireOf Y_hasIdleWire Y_innerSet Y_innerSize Y_innerLeft Y_innerLow Y_innerWide Q_left Q_low Q_side Q_howMany D_left D_low D_side D_howMany L_order L_lineOf L_howMany kq M_knots M_wires M_battery M_first M_second M_isCut M_turns M_turnMany M_wireClaim M_knotClaim M_hasKept M_keptKnots M_keptWires M_keptBattery M_keptFirst M_keptSecond M_keptTurns M_keptMany M_keptWire M_keptKnot M_keptCut M_told M_left M_low M_side M_faceOf M_faceMany M_table M_heights M_currents M_places M_treeMany M_wide M_high M_newTurns M_newMany M_lineHeight M_lineLeft M_lineRight M_lines oK aK cl sl hcs hI H locs hP hD hS ls hl
    refine lv_iload_n hx hb dL_law_18 rfl (lv_at hl 3 rfl) ?_
    refine lv_aload_n hx hb dL_law_19 rfl (lv_at hl 0 rfl) ?_
    refine va_slen hx hb hX hbl hbA hS dL_law_20 ?_
    refine lv_iconst (v := 4) hx hb dL_law_21 (by decide) ?_
    refine lv_isub hx hb dL_law_22 ?_
    refine lv_icmp_gt (tgt := 1036) hx hb dL_law_23 (by decide) (fun c1 => ?_) (fun c1 => ?_)
    · refine lv_iconst (v := 1) hx hb dL_law_1036 (by decide) ?_
      refine va_forget (fun q hq => hS.2.2 q hq) ?_
      refine W.widen (k := 600000) (n := 7302250) (by omega) (by omega) ?_
      exact lw_ret hx hb hr hlocks dL_law_1037
    · have hi : i + 4 ≤ L := dk_lawlt (by omega) (by omega) c1
      have h_0 : vp_in (nI i) L := vp_in_nI (by omega) (by omega)
      have kk : lawAt p l e s m below meth c b L dC dI cI cJ cZ oT aT oN aN oF aF oW aW oY aY oQ aQ oD aD oL aL oM aM Inv i (i + 4) 1030 := by
        intro N_first N_second N_isCut N_wireClaim N_knotClaim N_turnSize N_turns N_knots N_wires N_power F_faceOf F_dartAhead F_howMany W_rows W_heightOf W_currentOf W_placeOf W_isPlaced W_wide W_high W_treeCount Y_wireOf Y_hasIdleWire Y_innerSet Y_innerSize Y_innerLeft Y_innerLow Y_innerWide Q_left Q_low Q_side Q_howMany D_left D_low D_side D_howMany L_order L_lineOf L_howMany kq M_knots M_wires M_battery M_first M_second M_isCut M_turns M_turnMany M_wireClaim M_knotClaim M_hasKept M_keptKnots M_keptWires M_keptBattery M_keptFirst M_keptSecond M_keptTurns M_keptMany M_keptWire M_keptKnot M_keptCut M_told M_left M_low M_side M_faceOf M_faceMany M_table M_heights M_currents M_places M_treeMany M_wide M_high M_newTurns M_newMany M_lineHeight M_lineLeft M_lineRight M_lines oK aK cl sl hcs hI H locs hP hD hS ls hl
        refine lv_iinc (v := nI (i + 4)) (lv' := [(3, .int (nI (i + 4))), (0, .ref b), (1, .ref oT), (2, .ref oM)]) hx hb dL_law_1030 hl (k := 3) rfl (nI_add i 4) (by decide) rfl (fun ls hl => ?_)
        refine lv_goto (tgt := 18) hx hb dL_law_1033 (by decide) ?_
        exact ih (i + 4) (by omega) (by omega) N_first N_second N_isCut N_wireClaim N_knotClaim N_turnSize N_turns N_knots N_wires N_power F_faceOf F_dartAhead F_howMany W_rows W_heightOf W_currentOf W_placeOf W_isPlaced W_wide W_high W_treeCount Y_wireOf Y_hasIdleWire Y_innerSet Y_innerSize Y_innerLeft Y_innerLow Y_innerWide Q_left Q_low Q_side Q_howMany D_left D_low D_side D_howMany L_order L_lineOf L_howMany kq M_knots M_wires M_battery M_first M_second M_isCut M_turns M_turnMany M_wireClaim M_knotClaim M_hasKept M_keptKnots M_keptWires M_keptBattery M_keptFirst M_keptSecond M_keptTurns M_keptMany M_keptWire M_keptKnot M_keptCut M_told M_left M_low M_side M_faceOf M_faceMany M_table M_heights M_currents M_places M_treeMany M_wide M_high M_newTurns M_newMany M_lineHeight M_lineLeft M_lineRight M_lines oK aK cl sl hcs hI H locs hP hD hS ls (lv_sub hl [1, 2, 3, 0] rfl)
      refine lv_aload_n hx hb dL_law_26 rfl (lv_at hl 0 rfl) ?_
      refine lv_iload_n hx hb dL_law_27 rfl (lv_at hl 3 rfl) ?_
      refine va_sld hx hb hX hbl hbA hS h_0 dL_law_28 ?_
      refine lv_bipush (v := 63) hx hb dL_law_29 (by decide) ?_
      refine lv_iand hx hb dL_law_31 ?_
      refine lv_topi (fun sw esw => ?_)
      by_cases w0 : sw = 0
      · refine lv_tableIn (tgt := 188) (off := 156) hx hb dL_law_32 (by rw [w0]; decide) (by rw [w0]; decide) (by rw [w0]; decide) (by decide) ?_
        exact law_knot C hN hK hX hbl hL hi hcs h0 hI kk H locs hP hD hS ls hl
      by_cases w1 : sw = 1
      · refine lv_tableIn (tgt := 201) (off := 169) hx hb dL_law_32 (by rw [w1]; decide) (by rw [w1]; decide) (by rw [w1]; decide) (by decide) ?_
        exact law_wire C hN hK hX hbl hL hi hcs h1 hI kk H locs hP hD hS ls hl
      by_cases w2 : sw = 2
      · refine lv_tableIn (tgt := 234) (off := 202) hx hb dL_law_32 (by rw [w2]; decide) (by rw [w2]; decide) (by rw [w2]; decide) (by decide) ?_
        exact law_battery C hN hK hX hbl hL hi hcs h2 hI kk H locs hP hD hS ls hl
      by_cases w3 : sw = 3
      · refine lv_tableIn (tgt := 257) (off := 225) hx hb dL_law_32 (by rw [w3]; decide) (by rw [w3]; decide) (by rw [w3]; decide) (by decide) ?_
        exact law_cut C hN hK hX hbl hL hi hcs h3 hI kk H locs hP hD hS ls hl
      by_cases w4 : sw = 4
      · refine lv_tableIn (tgt := 306) (off := 274) hx hb dL_law_32 (by rw [w4]; decide) (by rw [w4]; decide) (by rw [w4]; decide) (by decide) ?_
        exact law_lay C hN hK hX hbl hL hi hcs h4 hI kk H locs hP hD hS ls hl
      by_cases w5 : sw = 5
      · refine lv_tableIn (tgt := 339) (off := 307) hx hb dL_law_32 (by rw [w5]; decide) (by rw [w5]; decide) (by rw [w5]; decide) (by decide) ?_
        exact law_bare C hN hK hX hbl hL hi hcs h5 hI kk H locs hP hD hS ls hl
      by_cases w6 : sw = 6
      · refine lv_tableIn (tgt := 362) (off := 330) hx hb dL_law_32 (by rw [w6]; decide) (by rw [w6]; decide) (by rw [w6]; decide) (by decide) ?_
        exact law_mirror C hN hK hX hbl hL hi hcs h6 hI kk H locs hP hD hS ls hl
      by_cases w7 : sw = 7
      · refine lv_tableIn (tgt := 375) (off := 343) hx hb dL_law_32 (by rw [w7]; decide) (by rw [w7]; decide) (by rw [w7]; decide) (by decide) ?_
        exact law_about C hN hK hX hbl hL hi hcs h7 hI kk H locs hP hD hS ls hl
      by_cases w8 : sw = 8
      · refine lv_tableIn (tgt := 388) (off := 356) hx hb dL_law_32 (by rw [w8]; decide) (by rw [w8]; decide) (by rw [w8]; decide) (by decide) ?_
        exact law_clear C hN hK hX hbl hL hi hcs h8 hI kk H locs hP hD hS ls hl
      by_cases w9 : sw = 9
      · refine lv_tableIn (tgt := 401) (off := 369) hx hb dL_law_32 (by rw [w9]; decide) (by rw [w9]; decide) (by rw [w9]; decide) (by decide) ?_
        exact law_keep C hN hK hX hbl hL hi hcs h9 hI kk H locs hP hD hS ls hl
      by_cases w10 : sw = 10
      · refine lv_tableIn (tgt := 414) (off := 382) hx hb dL_law_32 (by rw [w10]; decide) (by rw [w10]; decide) (by rw [w10]; decide) (by decide) ?_
        exact law_back C hN hK hX hbl hL hi hcs h10 hI kk H locs hP hD hS ls hl
      by_cases w11 : sw = 11
      · refine lv_tableIn (tgt := 427) (off := 395) hx hb dL_law_32 (by rw [w11]; decide) (by rw [w11]; decide) (by rw [w11]; decide) (by decide) ?_
        exact law_cause C hN hK hX hbl hL hi hcs h11 hI kk H locs hP hD hS ls hl
      by_cases w12 : sw = 12
      · refine lv_tableIn (tgt := 440) (off := 408) hx hb dL_law_32 (by rw [w12]; decide) (by rw [w12]; decide) (by rw [w12]; decide) (by decide) ?_
        exact law_of C hN hK hX hbl hL hi hcs h12 hI kk H locs hP hD hS ls hl
      by_cases w13 : sw = 13
      · refine lv_tableIn (tgt := 473) (off := 441) hx hb dL_law_32 (by rw [w13]; decide) (by rw [w13]; decide) (by rw [w13]; decide) (by decide) ?_
        exact law_turn C hN hK hX hbl hL hi hcs h13 hI kk H locs hP hD hS ls hl
      by_cases w14 : sw = 14
      · refine lv_tableIn (tgt := 506) (off := 474) hx hb dL_law_32 (by rw [w14]; decide) (by rw [w14]; decide) (by rw [w14]; decide) (by decide) ?_
        exact law_faces C hN hK hX hbl hL hi hcs h14 hI kk H locs hP hD hS ls hl
      by_cases w15 : sw = 15
      · refine lv_tableIn (tgt := 519) (off := 487) hx hb dL_law_32 (by rw [w15]; decide) (by rw [w15]; decide) (by rw [w15]; decide) (by decide) ?_
        exact law_face C hN hK hX hbl hL hi hcs h15 hI kk H locs hP hD hS ls hl
      by_cases w16 : sw = 16
      · refine lv_tableIn (tgt := 542) (off := 510) hx hb dL_law_32 (by rw [w16]; decide) (by rw [w16]; decide) (by rw [w16]; decide) (by decide) ?_
        exact law_trees C hN hK hX hbl hL hi hcs h16 hI kk H locs hP hD hS ls hl
      by_cases w17 : sw = 17
      · refine lv_tableIn (tgt := 556) (off := 524) hx hb dL_law_32 (by rw [w17]; decide) (by rw [w17]; decide) (by rw [w17]; decide) (by decide) ?_
        exact law_current C hN hK hX hbl hL hi hcs h17 hI kk H locs hP hD hS ls hl
      by_cases w18 : sw = 18
      · refine lv_tableIn (tgt := 579) (off := 547) hx hb dL_law_32 (by rw [w18]; decide) (by rw [w18]; decide) (by rw [w18]; decide) (by decide) ?_
        exact law_height C hN hK hX hbl hL hi hcs h18 hI kk H locs hP hD hS ls hl
      by_cases w19 : sw = 19
      · refine lv_tableIn (tgt := 602) (off := 570) hx hb dL_law_32 (by rw [w19]; decide) (by rw [w19]; decide) (by rw [w19]; decide) (by decide) ?_
        exact law_place C hN hK hX hbl hL hi hcs h19 hI kk H locs hP hD hS ls hl
      by_cases w20 : sw = 20
      · refine lv_tableIn (tgt := 625) (off := 593) hx hb dL_law_32 (by rw [w20]; decide) (by rw [w20]; decide) (by rw [w20]; decide) (by decide) ?_
        exact law_rectangle C hN hK hX hbl hL hi hcs h20 hI kk H locs hP hD hS ls hl
      by_cases w21 : sw = 21
      · refine lv_tableIn (tgt := 648) (off := 616) hx hb dL_law_32 (by rw [w21]; decide) (by rw [w21]; decide) (by rw [w21]; decide) (by decide) ?_
        exact law_square C hN hK hX hbl hL hi hcs h21 hI kk H locs hP hD hS ls hl
      by_cases w22 : sw = 22
      · refine lv_tableIn (tgt := 681) (off := 649) hx hb dL_law_32 (by rw [w22]; decide) (by rw [w22]; decide) (by rw [w22]; decide) (by decide) ?_
        exact law_within C hN hK hX hbl hL hi hcs h22 hI kk H locs hP hD hS ls hl
      by_cases w23 : sw = 23
      · refine lv_tableIn (tgt := 704) (off := 672) hx hb dL_law_32 (by rw [w23]; decide) (by rw [w23]; decide) (by rw [w23]; decide) (by decide) ?_
        exact law_at C hN hK hX hbl hL hi hcs h23 hI kk H locs hP hD hS ls hl
      by_cases w24 : sw = 24
      · refine lv_tableIn (tgt := 737) (off := 705) hx hb dL_law_32 (by rw [w24]; decide) (by rw [w24]; decide) (by rw [w24]; decide) (by decide) ?_
        exact law_tell C hN hK hX hbl hL hi hcs h24 hI kk H locs hP hD hS ls hl
      by_cases w25 : sw = 25
      · refine lv_tableIn (tgt := 780) (off := 748) hx hb dL_law_32 (by rw [w25]; decide) (by rw [w25]; decide) (by rw [w25]; decide) (by decide) ?_
        exact law_alter C hN hK hX hbl hL hi hcs h25 hI kk H locs hP hD hS ls hl
      by_cases w26 : sw = 26
      · refine lv_tableIn (tgt := 823) (off := 791) hx hb dL_law_32 (by rw [w26]; decide) (by rw [w26]; decide) (by rw [w26]; decide) (by decide) ?_
        exact law_hush C hN hK hX hbl hL hi hcs h26 hI kk H locs hP hD hS ls hl
      by_cases w27 : sw = 27
      · refine lv_tableIn (tgt := 836) (off := 804) hx hb dL_law_32 (by rw [w27]; decide) (by rw [w27]; decide) (by rw [w27]; decide) (by decide) ?_
        exact law_copy C hN hK hX hbl hL hi hcs h27 hI kk H locs hP hD hS ls hl
      by_cases w28 : sw = 28
      · refine lv_tableIn (tgt := 849) (off := 817) hx hb dL_law_32 (by rw [w28]; decide) (by rw [w28]; decide) (by rw [w28]; decide) (by decide) ?_
        exact law_fit C hN hK hX hbl hL hi hcs h28 hI kk H locs hP hD hS ls hl
      by_cases w29 : sw = 29
      · refine lv_tableIn (tgt := 882) (off := 850) hx hb dL_law_32 (by rw [w29]; decide) (by rw [w29]; decide) (by rw [w29]; decide) (by decide) ?_
        exact law_read C hN hK hX hbl hL hi hcs h29 hI kk H locs hP hD hS ls hl
      by_cases w30 : sw = 30
      · refine lv_tableIn (tgt := 915) (off := 883) hx hb dL_law_32 (by rw [w30]; decide) (by rw [w30]; decide) (by rw [w30]; decide) (by decide) ?_
        exact law_claim C hN hK hX hbl hL hi hcs h30 hI kk H locs hP hD hS ls hl
      by_cases w31 : sw = 31
      · refine lv_tableIn (tgt := 948) (off := 916) hx hb dL_law_32 (by rw [w31]; decide) (by rw [w31]; decide) (by rw [w31]; decide) (by decide) ?_
        exact law_raise C hN hK hX hbl hL hi hcs h31 hI kk H locs hP hD hS ls hl
      by_cases w32 : sw = 32
      · refine lv_tableIn (tgt := 981) (off := 949) hx hb dL_law_32 (by rw [w32]; decide) (by rw [w32]; decide) (by rw [w32]; decide) (by decide) ?_
        exact law_grant C hN hK hX hbl hL hi hcs h32 hI kk H locs hP hD hS ls hl
      by_cases w33 : sw = 33
      · refine lv_tableIn (tgt := 994) (off := 962) hx hb dL_law_32 (by rw [w33]; decide) (by rw [w33]; decide) (by rw [w33]; decide) (by decide) ?_
        exact law_judge C hN hK hX hbl hL hi hcs h33 hI kk H locs hP hD hS ls hl
      by_cases w34 : sw = 34
      · refine lv_tableIn (tgt := 1007) (off := 975) hx hb dL_law_32 (by rw [w34]; decide) (by rw [w34]; decide) (by rw [w34]; decide) (by decide) ?_
        exact law_count C hN hK hX hbl hL hi hcs h34 hI kk H locs hP hD hS ls hl
      refine lv_tableOut (tgt := 1030) hx hb dL_law_32 (dk_swn 34 (by decide) (fun k hk => match k with | 0 => w0 | 1 => w1 | 2 => w2 | 3 => w3 | 4 => w4 | 5 => w5 | 6 => w6 | 7 => w7 | 8 => w8 | 9 => w9 | 10 => w10 | 11 => w11 | 12 => w12 | 13 => w13 | 14 => w14 | 15 => w15 | 16 => w16 | 17 => w17 | 18 => w18 | 19 => w19 | 20 => w20 | 21 => w21 | 22 => w22 | 23 => w23 | 24 => w24 | 25 => w25 | 26 => w26 | 27 => w27 | 28 => w28 | 29 => w29 | 30 => w30 | 31 => w31 | 32 => w32 | 33 => w33 | 34 => w34 | k + 35 => absurd hk (by omega))) (by decide) ?_
      exact kk N_first N_second N_isCut N_wireClaim N_knotClaim N_turnSize N_turns N_knots N_wires N_power F_faceOf F_dartAhead F_howMany W_rows W_heightOf W_currentOf W_placeOf W_isPlaced W_wide W_high W_treeCount Y_wireOf Y_hasIdleWire Y_innerSet Y_innerSize Y_innerLeft Y_innerLow Y_innerWide Q_left Q_low Q_side Q_howMany D_left D_low D_side D_howMany L_order L_lineOf L_howMany kq M_knots M_wires M_battery M_first M_second M_isCut M_turns M_turnMany M_wireClaim M_knotClaim M_hasKept M_keptKnots M_keptWires M_keptBattery M_keptFirst M_keptSecond M_keptTurns M_keptMany M_keptWire M_keptKnot M_keptCut M_told M_left M_low M_side M_faceOf M_faceMany M_table M_heights M_currents M_places M_treeMany M_wide M_high M_newTurns M_newMany M_lineHeight M_lineLeft M_lineRight M_lines oK aK cl sl (by omega) (hsk i N_first N_second N_isCut N_wireClaim N_knotClaim N_turnSize N_turns N_knots N_wires N_power F_faceOf F_dartAhead F_howMany W_rows W_heightOf W_currentOf W_placeOf W_isPlaced W_wide W_high W_treeCount Y_wireOf Y_hasIdleWire Y_innerSet Y_innerSize Y_innerLeft Y_innerLow Y_innerWide Q_left Q_low Q_side Q_howMany D_left D_low D_side D_howMany L_order L_lineOf L_howMany kq M_knots M_wires M_battery M_first M_second M_isCut M_turns M_turnMany M_wireClaim M_knotClaim M_hasKept M_keptKnots M_keptWires M_keptBattery M_keptFirst M_keptSecond M_keptTurns M_keptMany M_keptWire M_keptKnot M_keptCut M_told M_left M_low M_side M_faceOf M_faceMany M_table M_heights M_currents M_places M_treeMany M_wide M_high M_newTurns M_newMany M_lineHeight M_lineLeft M_lineRight M_lines hi hI) H locs hP hD hS ls hl

/-! ===== PURE 27c: about, the reference ===== -/
section
variable {K n F : Nat} {a b t : Nat → Nat} {u : Nat → Nat → Nat} {f : Nat → Nat} {fM fi se cu ts tu : Nat → Int32} {pv dl : Nat → Nat} {el : Nat → Nat → Nat} {len : Nat → Nat} {z1 z2 : Int32} {z3 z4 : Nat → Int32} {z5 : Int32} {z6 : Nat → Int64} {z7 z8 z9 : Nat → Int32} {z10 : Int64} {z11 z12 : Int32}
theorem ab_r83 (hn : n ≤ 22) (hF : F ≤ 22) (hfc : ∀ d, d < 2 * n → f d < F ∧ fM d = nI (f d)) (R : ab_Rg n F f pv dl el len) {l : Nat} (hl : l < F) (y1 y2 : Nat → Int32) : dk_loop (bX7_about_83 z1 (nI n) z2 fi se cu tu ts z3 z4 fM z5 z6 z7 z8 z9 z10 z11 z12 y1 y2 (nI l)) 1000 0 = some (nI (dl l)) := by
  obtain ⟨R1, R2, R3, _⟩ := R l hl
  obtain ⟨r, l1, l2⟩ := pz_fin (body := bX7_about_83 z1 (nI n) z2 fi se cu tu ts z3 z4 fM z5 z6 z7 z8 z9 z10 z11 z12 y1 y2 (nI l)) (fun j st => st = nI j) (fun r => r = nI (dl l)) (dl l) (by
    rintro j st hj rfl
    unfold bX7_about_83
    have b := (hfc j (by omega)).1
    rw [pz_gd (pz_in (show j < 44 by omega) (by decide)), nI_clamp (by omega), (hfc j (by omega)).2]
    by_cases g : j = dl l
    · left
      rw [if_pos (by rw [g, R2])]
      exact ⟨_, rfl, by rw [g]⟩
    · right
      rw [if_neg (pz_nz (by omega) (by omega) (R3 j (by omega))), pz_let]
      exact ⟨by omega, nI j + 1, rfl, nI_1 j⟩) 1000 0 0 (by omega) rfl (by omega)
  rw [l1, l2]
theorem ab_r104 (hok : nt_Ok K n a b t u) (his : nt_Is K n a b t u fi se ts tu) (hK : K ≤ 12) (hn : n ≤ 22) (hF12 : F ≤ 12) (hpv : ∀ e, e < 2 * n → pv e < 2 * n ∧ pl_nx a b t u (pv e) = e) (R : ab_Rg n F f pv dl el len) {l : Nat} (hl : l < F) (g : Nat → Nat) (hg : g l = 0) (T0 NM : Nat → Int32) : dk_loop (bX7_about_104 z1 (nI n) z2 fi se cu tu ts z3 z4 fM z5 z6 z7 z8 z9 z10 z11 z12 NM (nI l) (nI (dl l))) 1000 (0, nI (dl l), ab_T el g T0) = some (nI (len l), ab_T el (pp_u g l (len l)) T0) := by
  obtain ⟨R1, R2, R3, R4, R5, R6, R7, R8, R9, R10⟩ := R l hl
  obtain ⟨r, l1, l2⟩ := pz_fin (body := bX7_about_104 z1 (nI n) z2 fi se cu tu ts z3 z4 fM z5 z6 z7 z8 z9 z10 z11 z12 NM (nI l) (nI (dl l))) (fun i st => i < len l ∧ st = (nI i, nI (el l i), ab_T el (pp_u g l i) T0)) (fun r => r = (nI (len l), ab_T el (pp_u g l (len l)) T0)) (len l) (by
    rintro i st hi ⟨hi2, rfl⟩
    unfold bX7_about_104
    dsimp only
    have e1 := (R5 i).1
    have nxt : pv (el l i) = el l (i + 1) := by rw [R4 (i + 1), R4 i]; rfl
    have e2 := (R5 (i + 1)).1
    have bf : ∀ (NT NM' : Nat → Int32) (x : Int32), dk_loop (bX7_about_125 z1 (nI n) z2 fi se cu tu ts z3 z4 fM z5 z6 z7 z8 z9 z10 z11 z12 NT NM' (nI l) (nI (dl l)) x (nI (el l i))) 1000 0 = some (nI (pv (el l i))) := fun NT NM' x => ab_before hok his hK hn hpv e1 (fun st => rfl)
    rw [pz_22', pz_gd (pz_in (show 22 * l + i < 264 by omega) (by decide)), pz_let, pz_let, nI_clamp (show 22 * l + i < 2 ^ 31 by omega), (nt_d1 (el l i) (by omega)).2.2.1, nI_1, bf, pz_bs, nxt, ab_Ts el _ T0 (by omega) (pp_u1 g l i), ab_uu]
    by_cases q : i + 1 = len l
    · left
      rw [if_pos (by rw [q, R8])]
      exact ⟨_, rfl, by rw [q]⟩
    · right
      rw [if_neg (pz_nz (by omega) (by omega) (R9 (i + 1) (by omega) (by omega)))]
      exact ⟨by omega, _, rfl, by omega, rfl⟩) 1000 0 (0, nI (dl l), ab_T el g T0) (by omega) ⟨by omega, by rw [ab_u0 g l hg, R4 0]; rfl⟩ (by omega)
  rw [l1, l2]
theorem ab_r73 (hok : nt_Ok K n a b t u) (his : nt_Is K n a b t u fi se ts tu) (hK : K ≤ 12) (hn : n ≤ 22) (hF12 : F ≤ 12) (hfc : ∀ d, d < 2 * n → f d < F ∧ fM d = nI (f d)) (hpv : ∀ e, e < 2 * n → pv e < 2 * n ∧ pl_nx a b t u (pv e) = e) (R : ab_Rg n F f pv dl el len) (h5 : z5 = nI F) (T0 NM : Nat → Int32) : dk_loop (bX7_about_73 z1 (nI n) z2 fi se cu tu ts z3 z4 fM z5 z6 z7 z8 z9 z10 z11 z12) 1000 (0, T0, NM) = some (ab_T el (ab_c F len) T0, pz_cp (fun k => nI (len k)) NM F) := by
  have eT0 : T0 = ab_T el (ab_c 0 len) T0 := by
    funext x
    unfold ab_T ab_c
    rw [if_neg (by rw [if_neg (by omega)]; omega)]
  obtain ⟨r, l1, l2⟩ := pz_fin (body := bX7_about_73 z1 (nI n) z2 fi se cu tu ts z3 z4 fM z5 z6 z7 z8 z9 z10 z11 z12) (fun l st => st = (nI l, ab_T el (ab_c l len) T0, pz_cp (fun k => nI (len k)) NM l)) (fun r => r = (ab_T el (ab_c F len) T0, pz_cp (fun k => nI (len k)) NM F)) F (by
    rintro l st hl rfl
    unfold bX7_about_73
    dsimp only
    rw [h5]
    rcases Nat.lt_or_ge l F with q | q
    · right
      refine ⟨q, _, ?_, rfl⟩
      rw [if_neg (nI_ge q (by omega)), ← h5, ab_r83 hn (by omega) hfc R q, pz_bs, ab_r104 hok his hK hn hF12 hpv R q (ab_c l len) (by unfold ab_c; rw [if_neg (by omega)]), pz_bs, pz_gd (pz_in (show l < 24 by omega) (by decide)), pz_let, pz_let, nI_clamp (by omega), nI_1]
      dsimp only
      rw [ab_cs, pz_cpS (fun k => nI (len k)) NM l]
    · left
      have e : l = F := by omega
      subst e
      exact ⟨_, by rw [if_pos (nI_le (Nat.le_refl _) (by omega))], rfl⟩) 1000 0 (0, T0, NM) (by omega) (by rw [pz_cp0, ← eT0]; rfl) (by omega)
  rw [l1, l2]
theorem ab_r12 (hn : n ≤ 22) (hF : F ≤ 22) (hfc : ∀ d, d < 2 * n → f d < F ∧ fM d = nI (f d)) (y1 y2 : Nat → Int32) : (dk_loop (bX7_about_12 z1 (nI n) z2 fi se cu tu ts z3 z4 fM z5 z6 z7 z8 z9 z10 z11 z12 y1 y2) 1000 0 = some (.inr ()) ∧ ∀ w, w < n → cu w = 0 ∧ f (2 * w) ≠ f (2 * w + 1)) ∨ (dk_loop (bX7_about_12 z1 (nI n) z2 fi se cu tu ts z3 z4 fM z5 z6 z7 z8 z9 z10 z11 z12 y1 y2) 1000 0 = some (.inl ((-2000000000), z1, fi, se, tu, ts, z3, z4, fM, z5, z6, z7, z8, z9, z10, z11, z12, y1, y2)) ∧ ¬ ∀ w, w < n → cu w = 0 ∧ f (2 * w) ≠ f (2 * w + 1)) := by
  obtain ⟨r, l1, l2⟩ := pz_fin (body := bX7_about_12 z1 (nI n) z2 fi se cu tu ts z3 z4 fM z5 z6 z7 z8 z9 z10 z11 z12 y1 y2) (fun j st => st = nI j ∧ ∀ w, w < j → cu w = 0 ∧ f (2 * w) ≠ f (2 * w + 1)) (fun r => (r = .inr () ∧ ∀ w, w < n → cu w = 0 ∧ f (2 * w) ≠ f (2 * w + 1)) ∨ (r = .inl ((-2000000000), z1, fi, se, tu, ts, z3, z4, fM, z5, z6, z7, z8, z9, z10, z11, z12, y1, y2) ∧ ¬ ∀ w, w < n → cu w = 0 ∧ f (2 * w) ≠ f (2 * w + 1))) n (by
    rintro j st hj ⟨rfl, hz⟩
    unfold bX7_about_12
    rcases Nat.lt_or_ge j n with q | q
    · have b1 := (hfc (2 * j) (by omega)).1
      have b2 := (hfc (2 * j + 1) (by omega)).1
      rw [if_neg (nI_ge q (by omega)), pz_gd (pz_in (show j < 22 by omega) (by decide)), nI_clamp (by omega), show (2 : Int32) * nI j = nI (2 * j) from pk_mul 2 j, nI_1 (2 * j), pz_gd (pz_in (show 2 * j < 44 by omega) (by decide)), pz_gd (pz_in (show 2 * j + 1 < 44 by omega) (by decide)), nI_clamp (show 2 * j < 2 ^ 31 by omega), nI_clamp (show 2 * j + 1 < 2 ^ 31 by omega), (hfc _ (by omega)).2, (hfc _ (by omega)).2]
      by_cases g : cu j = 0
      · rw [if_pos g]
        by_cases g2 : f (2 * j) = f (2 * j + 1)
        · left
          rw [if_pos (by rw [g2])]
          exact ⟨_, rfl, Or.inr ⟨rfl, fun z => (z j q).2 g2⟩⟩
        · right
          rw [if_neg (pz_nz (by omega) (by omega) g2), pz_let]
          refine ⟨q, nI j + 1, rfl, nI_1 j, fun w hw => ?_⟩
          by_cases e : w = j
          · rw [e]; exact ⟨g, g2⟩
          · exact hz w (by omega)
      · left
        rw [if_neg g]
        exact ⟨_, rfl, Or.inr ⟨rfl, fun z => g (z j q).1⟩⟩
    · left
      have e : j = n := by omega
      subst e
      exact ⟨_, by rw [if_pos (nI_le (Nat.le_refl _) (by omega))], Or.inl ⟨rfl, hz⟩⟩) 1000 0 0 (by omega) ⟨rfl, fun w hw => absurd hw (by omega)⟩ (by omega)
  rcases l2 with ⟨e, h⟩ | ⟨e, h⟩
  · exact Or.inl ⟨by rw [l1, e], h⟩
  · exact Or.inr ⟨by rw [l1, e], h⟩
theorem ab_r222 (hn : n ≤ 22) (hF : F ≤ 22) (hfc : ∀ d, d < 2 * n → f d < F ∧ fM d = nI (f d)) (f0 s0 w0 y1 y2 : Nat → Int32) : dk_loop (bX7_about_222 z1 (nI n) z2 cu tu ts z4 fM z5 z6 z7 z8 z9 z10 z11 z12 y1 y2) 1000 (0, f0, s0, w0) = some (pz_cp (fun w => nI (f (2 * w))) f0 n, pz_cp (fun w => nI (f (2 * w + 1))) s0 n, pz_cp (fun _ => 0) w0 n) := by
  obtain ⟨r2, m1, m2⟩ := pz_fin (body := bX7_about_222 z1 (nI n) z2 cu tu ts z4 fM z5 z6 z7 z8 z9 z10 z11 z12 y1 y2) (fun j st => st = (nI j, pz_cp (fun w => nI (f (2 * w))) f0 j, pz_cp (fun w => nI (f (2 * w + 1))) s0 j, pz_cp (fun _ => 0) w0 j)) (fun r => r = (pz_cp (fun w => nI (f (2 * w))) f0 n, pz_cp (fun w => nI (f (2 * w + 1))) s0 n, pz_cp (fun _ => 0) w0 n)) n (by
    rintro j st hj rfl
    unfold bX7_about_222
    dsimp only
    rcases Nat.lt_or_ge j n with q | q
    · right
      refine ⟨q, _, ?_, rfl⟩
      rw [if_neg (nI_ge q (by omega)), show (2 : Int32) * nI j = nI (2 * j) from pk_mul 2 j, nI_1 (2 * j), pz_gd (pz_in (show 2 * j < 44 by omega) (by decide)), pz_gd (pz_in (show j < 22 by omega) (by decide)), pz_let, pz_gd (pz_in (show 2 * j + 1 < 44 by omega) (by decide)), pz_let, pz_let, pz_let, nI_clamp (show j < 2 ^ 31 by omega), nI_clamp (show 2 * j < 2 ^ 31 by omega), nI_clamp (show 2 * j + 1 < 2 ^ 31 by omega), (hfc _ (by omega)).2, (hfc _ (by omega)).2, nI_1, pz_cpS (fun w => nI (f (2 * w))) f0 j, pz_cpS (fun w => nI (f (2 * w + 1))) s0 j, pz_cpS (fun _ => 0) w0 j]
    · left
      have e : j = n := by omega
      subst e
      exact ⟨_, by rw [if_pos (nI_le (Nat.le_refl _) (by omega))], rfl⟩) 1000 0 (0, f0, s0, w0) (by omega) (by rw [pz_cp0, pz_cp0, pz_cp0]; rfl) (by omega)
  rw [m1, m2]
end
section
variable {N_first N_second N_isCut N_wireClaim N_knotClaim N_turnSize N_turns : Nat → Int32} {N_knots N_wires N_power M_knots M_wires M_battery : Int32} {M_first M_second M_isCut M_turns M_turnMany M_wireClaim M_knotClaim : Nat → Int32} {F_faceOf F_dartAhead M_faceOf : Nat → Int32} {F_howMany M_faceMany : Int32} {W_rows : Nat → Int64} {W_heightOf W_currentOf W_placeOf W_isPlaced : Nat → Int32} {W_wide W_high : Int32} {W_treeCount : Int64} {M_table : Nat → Int64} {M_heights M_currents M_places : Nat → Int32} {M_treeMany : Int64} {M_wide M_high : Int32} {M_newTurns M_newMany : Nat → Int32}
theorem pc_about (hN : NetRel N_first N_second N_isCut N_wireClaim N_knotClaim N_turnSize N_turns N_knots N_wires N_power M_knots M_wires M_battery M_first M_second M_isCut M_turns M_turnMany M_wireClaim M_knotClaim) (hw : wc_Ok N_wireClaim) :
    ∃ r1 r2, fX6_about N_first N_second N_isCut N_wireClaim N_knotClaim N_turnSize N_turns N_knots N_wires N_power F_faceOf F_dartAhead F_howMany = some r1 ∧ fX7_about M_knots M_wires M_battery M_first M_second M_isCut M_turns M_turnMany M_wireClaim M_knotClaim M_faceOf M_faceMany M_table M_heights M_currents M_places M_treeMany M_wide M_high M_newTurns M_newMany = some r2 ∧ r1.1 = r2.1 ∧
      NetRel r1.2.1 r1.2.2.1 N_isCut r1.2.2.2.1 r1.2.2.2.2.1 r1.2.2.2.2.2.1 r1.2.2.2.2.2.2.1 r1.2.2.2.2.2.2.2.1 N_wires N_power r2.2.1 M_wires M_battery r2.2.2.1 r2.2.2.2.1 M_isCut r2.2.2.2.2.1 r2.2.2.2.2.2.1 r2.2.2.2.2.2.2.1 r2.2.2.2.2.2.2.2.1 ∧ wc_Ok r1.2.2.2.1 := by
  have hNe := hN
  unfold fX6_about fX7_about
  rcases fo_main (fun _ => 0) (fun _ => 0) (fun _ => 0) (fun _ => 0) (fun _ => 0) 0 0 0 F_faceOf F_dartAhead M_faceOf F_howMany M_faceMany M_table M_heights M_currents M_places M_treeMany M_wide M_high hN with ⟨v, fC, da, HC, fM, HM, g, h1, h2⟩ | ⟨K, n, F, bt, a, b, t, u, fc, h, c, p, D, wd, rW, hC, cC, plC, ipC, tb, hM, cM, pm, fC, da, fM, rfl, rfl, hK, hn, hF, rd, i1, i2, i3, f1, h1, f2, f3, f4, f5, f6⟩
  · simp only [h1, h2, pz_bs, g, if_false, pz_00, if_true]
    exact ⟨_, _, rfl, rfl, rfl, hNe, hw⟩
  · obtain ⟨e1, e2, e3, e4, e5, e6, e7, e8, K', n', hKn, hnn, ok, hT, hCl⟩ := id hNe
    have o1 := ok.1
    have o2 := ok.2.1
    have hKK : K' = K := (pz_inj (by omega) (by omega) hKn).symm
    have hnn' : n' = n := (pz_inj (by omega) (by omega) hnn).symm
    subst hKK hnn'
    rw [← e6, ← e7] at f3 ⊢
    obtain ⟨hok, hFa, hE, hbt, hpo, hcb, _⟩ := id rd
    have hfcC : ∀ d, d < 2 * n' → fc d < F ∧ fC d = nI (fc d) := fun d hd => ⟨(hFa.1 d hd).1, (i3 d hd).1⟩
    have hfcM : ∀ d, d < 2 * n' → fc d < F ∧ fM d = nI (fc d) := fun d hd => ⟨(hFa.1 d hd).1, (i3 d hd).2.1⟩
    obtain ⟨vc, vc1, vc2⟩ := ab_cut (cu := N_isCut) hn
    obtain ⟨vo, vo1, vo2⟩ := ab_one hn hF hfcC
    have F12 : (nI F ≤ 12) ↔ F ≤ 12 := nI_leI (b := 12) (by omega) (by decide)
    rw [← e3] at f3 ⊢
    rcases ab_r12 (cu := N_isCut) (fi := M_first) (se := M_second) (tu := M_turns) (ts := M_turnMany) (z1 := nI K') (z2 := M_battery) (z3 := M_wireClaim) (z4 := M_knotClaim) (z5 := nI F) (z6 := tb) (z7 := hM) (z8 := cM) (z9 := pm) (z10 := Int64.ofInt D) (z11 := wd) (z12 := Int32.ofInt (h (a bt))) hn hF hfcM M_newTurns M_newMany with ⟨q1, q2⟩ | ⟨q1, q2⟩
    · have zc : vc = 0 := vc2.mpr (fun w hw => (q2 w hw).1)
      have zo : vo = 0 := vo2.mpr (fun w hw => (q2 w hw).2)
      subst zc zo
      by_cases g12 : F ≤ 12
      · obtain ⟨pv, hpv⟩ := ab_pv hok
        obtain ⟨dl, el, len, R⟩ := ab_rings hok hFa (fun w hw => (q2 w hw).2) hpv
        have hda : ∀ e, e < 2 * n' → da e = nI (pv e) := fun e he => by
          have := (i3 (pv e) (hpv e he).1).2.2
          rw [(hpv e he).2] at this
          exact this
        have c1 := ab_cls hn g12 hFa hfcC hda R N_first N_second N_wireClaim N_knotClaim N_turnSize N_turns (nI K')
        have m73 := ab_r73 (cu := N_isCut) (z1 := nI K') (z2 := M_battery) (z3 := M_wireClaim) (z4 := M_knotClaim) (z5 := nI F) (z6 := tb) (z7 := hM) (z8 := cM) (z9 := pm) (z10 := Int64.ofInt D) (z11 := wd) (z12 := Int32.ofInt (h (a bt))) hok i2 hK hn g12 hfcM hpv R rfl M_newTurns M_newMany
        have m167 : ∀ (x1 x2 x3 x4 x5 x6 NT NM : Nat → Int32), dk_loop (bX7_about_167 (nI K') (nI n') M_battery x1 x2 N_isCut x3 x4 x5 fM (nI F) tb hM cM pm (Int64.ofInt D) wd (Int32.ofInt (h (a bt))) NT NM) 1000 (0, x6) = some (pz_cp NT x6 264) := fun x1 x2 x3 x4 x5 x6 NT NM => ab_fill (m := 264) (N := 264) (x := nI 264) rfl (by omega) (by omega) NT x6 (fun j hj gg => by
          unfold bX7_about_167
          dsimp only
          rw [if_neg (show ¬ (264 : Int32) ≤ nI j from nI_ge (b := 264) hj (by omega)), pz_gd (pz_in hj (by decide)), pz_let, pz_let, nI_clamp (by omega), nI_1]) (fun gg => by
          unfold bX7_about_167
          dsimp only
          rw [if_pos (show (264 : Int32) ≤ nI 264 by decide)])
        have m194 : ∀ (x1 x2 x3 x4 x5 x6 NT NM : Nat → Int32), dk_loop (bX7_about_194 (nI K') (nI n') M_battery x1 x2 N_isCut x3 x4 x5 fM (nI F) tb hM cM pm (Int64.ofInt D) wd (Int32.ofInt (h (a bt))) NT NM) 1000 (0, x6) = some (pz_cp NM x6 F) := fun x1 x2 x3 x4 x5 x6 NT NM => ab_fill (m := F) (N := 12) (x := nI F) rfl g12 (by omega) NM x6 (fun j hj gg => by
          unfold bX7_about_194
          dsimp only
          rw [if_neg (nI_ge hj (by omega)), pz_gd (pz_in (show j < 24 by omega) (by decide)), pz_gd (pz_in (show j < 12 by omega) (by decide)), pz_let, pz_let, nI_clamp (by omega), nI_1]) (fun gg => by
          unfold bX7_about_194
          dsimp only
          rw [if_pos (nI_le (Nat.le_refl _) (by omega))])
        have m222 : ∀ (x1 x2 x3 f0 s0 w0 NT NM : Nat → Int32), dk_loop (bX7_about_222 (nI K') (nI n') M_battery N_isCut x1 x2 x3 fM (nI F) tb hM cM pm (Int64.ofInt D) wd (Int32.ofInt (h (a bt))) NT NM) 1000 (0, f0, s0, w0) = some (pz_cp (fun w => nI (fc (2 * w))) f0 n', pz_cp (fun w => nI (fc (2 * w + 1))) s0 n', pz_cp (fun _ => 0) w0 n') := fun x1 x2 x3 f0 s0 w0 NT NM => ab_r222 hn hF hfcM f0 s0 w0 NT NM
        have m283 : ∀ (x1 x2 x3 x4 x5 x6 NT NM : Nat → Int32), dk_loop (bX7_about_283 (nI F) (nI n') M_battery x1 x2 N_isCut x3 x4 x5 fM (nI F) tb hM cM pm (Int64.ofInt D) wd (Int32.ofInt (h (a bt))) NT NM) 1000 (0, x6) = some (pz_cp (fun _ => 0) x6 12) := fun x1 x2 x3 x4 x5 x6 NT NM => ab_fill (m := 12) (N := 12) (x := nI 12) rfl (by omega) (by omega) (fun _ => 0) x6 (fun j hj gg => by
          unfold bX7_about_283
          dsimp only
          rw [if_neg (show ¬ (12 : Int32) ≤ nI j from nI_ge (b := 12) hj (by omega)), pz_gd (pz_in hj (by decide)), pz_let, pz_let, nI_clamp (by omega), nI_1]) (fun gg => by
          unfold bX7_about_283
          dsimp only
          rw [if_pos (show (12 : Int32) ≤ nI 12 by decide)])
        simp only [h1, f3, pz_bs, pz_00, if_true, pz_10, if_false, vc1, vo1, q1, dk_sum, F12.mpr g12, c1, m73, m167, m194, m222, m283]
        have eS : ab_S F (ab_c F len) N_turnSize = pz_cp (pz_cp (fun k => nI (len k)) M_newMany F) M_turnMany F := by
          funext k
          unfold ab_S pz_cp ab_c
          by_cases q : k < F
          · rw [if_pos q, if_pos q, if_pos q, if_pos q]
          · rw [if_neg q, if_neg q, e5]
        have rowT : ∀ k i, k < F → i < len k → ab_T el (ab_c F len) N_turns (22 * k + i) = nI (el k i / 2) ∧ pz_cp (ab_T el (ab_c F len) M_newTurns) M_turns 264 (22 * k + i) = nI (el k i / 2) := by
          intro k i hk hi
          have hln := (R k hk).2.2.2.2.2.2.1
          rw [pz_cpl (show 22 * k + i < 264 by omega)]
          unfold ab_T ab_c
          rw [show (22 * k + i) / 22 = k by omega, show (22 * k + i) % 22 = i by omega, if_pos hk, if_pos hi, if_pos hi]
          exact ⟨rfl, rfl⟩
        have sz : ∀ k, k < F → ab_S F (ab_c F len) N_turnSize k = nI (len k) := by
          intro k hk
          unfold ab_S ab_c
          rw [if_pos hk, if_pos hk]
        refine ⟨_, _, rfl, rfl, rfl, ?_, ?_⟩
        · dsimp only
          refine ⟨by rw [e1], by rw [e2], rfl, by rw [e4], eS, rfl, rfl, e8, F, n', rfl, rfl, ⟨g12, hn, Or.inr ⟨bt, hbt, hpo, hcb⟩, fun w hw => ?_, ok.2.2.2.2.1, fun k hk => ?_⟩, fun k i t' hk ht htn hi => ?_, fun k hk => ?_⟩
          · refine ⟨fc (2 * w), fc (2 * w + 1), (hfcC _ (by omega)).1, (hfcC _ (by omega)).1, (q2 w hw).2, ?_, ?_⟩
            · rw [pz_cpl hw]
            · rw [pz_cpl hw]
          · obtain ⟨R1, R2, R3, R4, R5, R6, R7, R8, R9, R10⟩ := R k hk
            refine ⟨len k, R7, sz k hk, fun i hi => ?_, fun i j hi hj e => ?_⟩
            · have b := R5 i
              refine ⟨el k i / 2, by omega, (rowT k i hk hi).1, ?_⟩
              rw [pz_cpl (show el k i / 2 < n' by omega), pz_cpl (show el k i / 2 < n' by omega)]
              by_cases ev : el k i % 2 = 0
              · left
                rw [show 2 * (el k i / 2) = el k i by omega, b.2]
              · right
                rw [show 2 * (el k i / 2) + 1 = el k i by omega, b.2]
            · rw [(rowT k i hk hi).1, (rowT k j hk hj).1] at e
              have bi := (R5 i).1
              have bj := (R5 j).1
              exact R10 i j hi hj (pz_inj (by omega) (by omega) e)
          · have hln := (R k hk).2.2.2.2.2.2.1
            rw [sz k hk] at ht
            have : len k = t' := pz_inj (by omega) (by omega) ht
            rw [(rowT k i hk (by omega)).1, (rowT k i hk (by omega)).2]
          · rw [pz_cpl hk, pz_cpl (show k < 12 by omega)]
        · dsimp only
          exact pw_cp (fun _ => by decide) hw n'
      · have hF0 : ¬ nI F ≤ 12 := fun z => g12 (F12.mp z)
        simp only [h1, f3, pz_bs, pz_00, if_true, pz_10, if_false, vc1, vo1, q1, dk_sum, hF0]
        refine ⟨_, _, rfl, rfl, rfl, ?_, hw⟩
        dsimp only
        exact ⟨e1, e2, rfl, e4, e5, rfl, rfl, e8, K', n', hKn, hnn, ok, hT, hCl⟩
    · have done : ∃ r1, (if vc = 0 then dk_bnd (some vo) (fun r_5 => if r_5 = 0 then if nI F ≤ 12 then dk_bnd (fX0_makeKnotsOfFaces fC da (nI F) N_first N_second N_wireClaim N_knotClaim N_turnSize N_turns (nI K') (nI n')) (fun r_8 => some (r_8.2.2.2.2.2.2, r_8.1, r_8.2.1, r_8.2.2.1, r_8.2.2.2.1, r_8.2.2.2.2.1, r_8.2.2.2.2.2.1, r_8.2.2.2.2.2.2, fC, da, nI F)) else some ((-2000000000), N_first, N_second, N_wireClaim, N_knotClaim, N_turnSize, N_turns, nI K', fC, da, nI F) else some ((-2000000000), N_first, N_second, N_wireClaim, N_knotClaim, N_turnSize, N_turns, nI K', fC, da, nI F)) else some ((-2000000000), N_first, N_second, N_wireClaim, N_knotClaim, N_turnSize, N_turns, nI K', fC, da, nI F)) = some r1 ∧ r1 = ((-2000000000), N_first, N_second, N_wireClaim, N_knotClaim, N_turnSize, N_turns, nI K', fC, da, nI F) := by
        by_cases z : vc = 0
        · have zo : ¬ vo = 0 := fun z2 => q2 (fun w hw => ⟨vc2.mp z w hw, vo2.mp z2 w hw⟩)
          rw [if_pos z, pz_bs, if_neg zo]
          exact ⟨_, rfl, rfl⟩
        · rw [if_neg z]
          exact ⟨_, rfl, rfl⟩
      obtain ⟨r1, d1, d2⟩ := done
      simp only [h1, f3, pz_bs, pz_00, if_true, pz_10, if_false, vc1, vo1, q1, dk_sum]
      simp only [pz_bs] at d1
      rw [d1]
      refine ⟨r1, _, rfl, rfl, ?_, ?_, ?_⟩
      · rw [d2]
      · rw [d2]
        dsimp only
        exact ⟨e1, e2, rfl, e4, e5, rfl, rfl, e8, K', n', hKn, hnn, ok, hT, hCl⟩
      · rw [d2]
        exact hw
end

/-! ===== PURE 31h: read, both together ===== -/
theorem rq_of {T : Nat} (hT : T ≤ 21) {ML MY MS : Nat → Int32} {x1 x2 : Int32} (hF : pf_Fits T ML MY MS x1 x2) (hR : ∀ i, i < T → ∃ a b c : Nat, a ≤ 2 ^ 28 ∧ b ≤ 2 ^ 28 ∧ 1 ≤ c ∧ c ≤ 2 ^ 28 ∧ ML i = nI a ∧ MY i = nI b ∧ MS i = nI c) : rq_Ok T (tz ML) (tz MY) (tz MS) := by
  obtain ⟨t1, d1, d2, d3, d4, hin, hov, _⟩ := hF
  have em : ((1000000 : Int32)).toInt = 1000000 := by decide
  have b1 : x1.toInt ≤ 1000000 := by
    have := Int32.le_iff_toInt_le.mp (Int32.not_lt.mp d2)
    omega
  have b2 : x2.toInt ≤ 1000000 := by
    have := Int32.le_iff_toInt_le.mp (Int32.not_lt.mp d4)
    omega
  have ad : ∀ i, i < T → 0 ≤ tz ML i ∧ 0 ≤ tz MY i ∧ 1 ≤ tz MS i ∧ (ML i + MS i).toInt = tz ML i + tz MS i ∧ (MY i + MS i).toInt = tz MY i + tz MS i := by
    intro i hi
    obtain ⟨a, b, c, h1, h2, h3, h4, h5, h6, h7⟩ := hR i hi
    have e1 : tz ML i = a := by unfold tz; rw [h5, nI_toInt (by omega)]
    have e2 : tz MY i = b := by unfold tz; rw [h6, nI_toInt (by omega)]
    have e3 : tz MS i = c := by unfold tz; rw [h7, nI_toInt (by omega)]
    have e4 : (ML i + MS i).toInt = ((a + c : Nat) : Int) := by rw [h5, h7, nI_add, nI_toInt (by omega)]
    have e5 : (MY i + MS i).toInt = ((b + c : Nat) : Int) := by rw [h6, h7, nI_add, nI_toInt (by omega)]
    refine ⟨by omega, by omega, by omega, by omega, by omega⟩
  refine ⟨t1, hT, fun i hi => ?_, ?_⟩
  · obtain ⟨p1, p2, p3, p4, p5⟩ := ad i hi
    obtain ⟨f1, f2⟩ := hin i hi
    have g1 := Int32.le_iff_toInt_le.mp (Int32.not_lt.mp f1)
    have g2 := Int32.le_iff_toInt_le.mp f2
    exact ⟨p1, p2, p3, by omega, by omega⟩
  · have key : ∀ i j, i < j → j < T → ¬ (tz ML i < tz ML j + tz MS j ∧ tz ML j < tz ML i + tz MS i ∧ tz MY i < tz MY j + tz MS j ∧ tz MY j < tz MY i + tz MS i) := by
      rintro i j hij hj ⟨o1, o2, o3, o4⟩
      obtain ⟨_, _, _, i4, i5⟩ := ad i (by omega)
      obtain ⟨_, _, _, j4, j5⟩ := ad j hj
      have f := hov i j hij hj
      have n1 : ¬ (ML j + MS j ≤ ML i) := fun h => by
        have h' : (ML j + MS j).toInt ≤ tz ML i := Int32.le_iff_toInt_le.mp h
        omega
      have n2 : ¬ (ML i + MS i ≤ ML j) := fun h => by
        have h' : (ML i + MS i).toInt ≤ tz ML j := Int32.le_iff_toInt_le.mp h
        omega
      have n3 : ¬ (MY j + MS j ≤ MY i) := fun h => by
        have h' : (MY j + MS j).toInt ≤ tz MY i := Int32.le_iff_toInt_le.mp h
        omega
      have n4 : ¬ (MY i + MS i ≤ MY j) := fun h => by
        have h' : (MY i + MS i).toInt ≤ tz MY j := Int32.le_iff_toInt_le.mp h
        omega
      unfold fX7_overlap at f
      rw [pz_gd (pz_in (show i < 21 by omega) (by decide)), pz_gd (pz_in (show j < 21 by omega) (by decide)), nI_clamp (show i < 2 ^ 31 by omega), nI_clamp (show j < 2 ^ 31 by omega), if_neg n1, if_neg n2, if_neg n3, if_neg n4] at f
      exact absurd f (by decide)
    intro i j hi hj hne o1 o2 o3 o4
    rcases Nat.lt_or_gt_of_ne hne with c | c
    · exact key i j c hj ⟨o1, o2, o3, o4⟩
    · exact key j i c hi ⟨o2, o1, o4, o3⟩
theorem rr_lines {T : Nat} {X Y Z : Nat → Int} {DL DY DS ML MY MS : Nat → Int32} (q : rq_Ok T X Y Z) (aD : rq_At T X Y Z DL DY DS) (aM : rq_At T X Y Z ML MY MS) (o0 g0 : Nat → Int32) (z : Int32) (h0 l0 r0 : Nat → Int32) (z' : Int32) : ∃ o g sg m h l r kp, fX3_find o0 g0 z DL DY DS (nI T) = some (o, g, nI m) ∧ fX7_draw (nI T) ML MY MS h0 l0 r0 z' = some (h, l, r, nI m) ∧ so_Ok X Y Z (2 * T) sg ∧ (∀ p, p < 2 * T → o p = nI (sg p)) ∧ m ≤ 2 * T ∧ 2 ≤ m ∧ ln_Srt m (tz h) (tz l) (tz r) ∧ kp_Ok T Y Z m (tz h) kp g ∧ (∀ e, e < 2 * T → kp e < m ∧ tz h (kp e) = ed_v Y Z e ∧ tz l (kp e) ≤ ed_l X e ∧ ed_r X Z e ≤ tz r (kp e)) := by
  obtain ⟨o, g, sg, m, H, L, R, f1, f2, f3, f4, f5, f6, f7⟩ := fi_all q aD o0 g0 z
  obtain ⟨h, l, r, m', d1, d2, d3, d4, d5⟩ := dw_all q aM h0 l0 r0 z'
  obtain ⟨rfl, u⟩ := ln_un f5 f6 (fun e he => by
    obtain ⟨k, k1, k2, k3⟩ := f7 e he
    exact ⟨k, k1, k3⟩) d3 d4 d5
  obtain ⟨kp, hkp⟩ := Classical.axiomOfChoice (r := fun (e k : Nat) => e < 2 * T → k < m ∧ g e = nI k ∧ H k = ed_v Y Z e ∧ L k ≤ ed_l X e ∧ ed_r X Z e ≤ R k) (fun e => by
    by_cases c : e < 2 * T
    · obtain ⟨k, hk⟩ := f7 e c
      exact ⟨k, fun _ => hk⟩
    · exact ⟨0, fun h => absurd h c⟩)
  have key : ∀ e, e < 2 * T → kp e < m ∧ g e = nI (kp e) ∧ tz h (kp e) = ed_v Y Z e ∧ tz l (kp e) ≤ ed_l X e ∧ ed_r X Z e ≤ tz r (kp e) := by
    intro e he
    obtain ⟨k1, k2, k3, k4, k5⟩ := hkp e he
    obtain ⟨u1, u2, u3⟩ := u (kp e) k1
    exact ⟨k1, k2, by rw [← u1]; exact k3, by rw [← u2]; exact k4, by rw [← u3]; exact k5⟩
  have K : kp_Ok T Y Z m (tz h) kp g := fun e he => ⟨(key e he).1, (key e he).2.1, (key e he).2.2.1⟩
  have m2 : 2 ≤ m := by
    have t1 := q.1
    have a1 := kp_ne q K 0 (by omega)
    have a2 := (key (2 * 0) (by omega)).1
    have a3 := (key (2 * 0 + 1) (by omega)).1
    omega
  exact ⟨o, g, sg, m, h, l, r, kp, f1, d1, f2, f3, f4, m2, d4, K, fun e he => ⟨(key e he).1, (key e he).2.2⟩⟩
section
variable {N_first N_second N_isCut N_wireClaim N_knotClaim N_turnSize N_turns : Nat → Int32} {N_knots N_wires N_power : Int32} {M_knots M_wires M_battery : Int32} {M_first M_second M_isCut M_turns M_turnMany M_wireClaim M_knotClaim : Nat → Int32} {D_left D_low D_side : Nat → Int32} {D_howMany M_told : Int32} {M_left M_low M_side : Nat → Int32} {L_order L_lineOf : Nat → Int32} {L_howMany : Int32} {M_lineHeight M_lineLeft M_lineRight : Nat → Int32} {M_lines : Int32}
theorem pc_read (hN : NetRel N_first N_second N_isCut N_wireClaim N_knotClaim N_turnSize N_turns N_knots N_wires N_power M_knots M_wires M_battery M_first M_second M_isCut M_turns M_turnMany M_wireClaim M_knotClaim) (hw : wc_Ok N_wireClaim) (hD : ToldRel D_left D_low D_side D_howMany M_told M_left M_low M_side) (x1 x2 : Int32) :
    ∃ r1 r2, fX6_read N_first N_second N_isCut N_wireClaim N_knotClaim N_turnSize N_turns N_knots N_wires N_power D_left D_low D_side D_howMany L_order L_lineOf L_howMany x1 x2 = some r1 ∧ fX7_read M_knots M_wires M_battery M_first M_second M_isCut M_turns M_turnMany M_wireClaim M_knotClaim M_told M_left M_low M_side M_lineHeight M_lineLeft M_lineRight M_lines x1 x2 = some r2 ∧ r1.1 = r2.1 ∧ NetRel r1.2.1 r1.2.2.1 r1.2.2.2.1 r1.2.2.2.2.1 r1.2.2.2.2.2.1 r1.2.2.2.2.2.2.1 r1.2.2.2.2.2.2.2.1 r1.2.2.2.2.2.2.2.2.1 r1.2.2.2.2.2.2.2.2.2.1 r1.2.2.2.2.2.2.2.2.2.2.1 r2.2.1 r2.2.2.1 r2.2.2.2.1 r2.2.2.2.2.1 r2.2.2.2.2.2.1 r2.2.2.2.2.2.2.1 r2.2.2.2.2.2.2.2.1 r2.2.2.2.2.2.2.2.2.1 r2.2.2.2.2.2.2.2.2.2.1 r2.2.2.2.2.2.2.2.2.2.2.1 ∧ wc_Ok r1.2.2.2.2.1 := by
  obtain ⟨e, T, hT, hb, hR⟩ := hD
  subst e hT
  obtain ⟨v, v1, v2, v3⟩ := pf_fit hb (fun i hi => ⟨(hR i hi).1, (hR i hi).2.1, (hR i hi).2.2.1⟩) x1 x2
  unfold fX6_read fX7_read
  rw [v1, v2, pz_bs, pz_bs]
  by_cases c : v = 0
  · rw [if_pos c, if_pos c]
    have q : rq_Ok T (tz M_left) (tz M_low) (tz M_side) := rq_of hb (v3 c) (fun i hi => by
      obtain ⟨h1, h2, h3, a, b, d, g1, g2, g3, g4, g5, g6, g7⟩ := hR i hi
      exact ⟨a, b, d, g1, g2, g3, g4, by rw [← h1]; exact g5, by rw [← h2]; exact g6, by rw [← h3]; exact g7⟩)
    have aM : rq_At T (tz M_left) (tz M_low) (tz M_side) M_left M_low M_side := fun i hi => ⟨rfl, rfl, rfl⟩
    have aD : rq_At T (tz M_left) (tz M_low) (tz M_side) D_left D_low D_side := fun i hi => by
      obtain ⟨h1, h2, h3, _⟩ := hR i hi
      rw [h1, h2, h3]
      exact ⟨rfl, rfl, rfl⟩
    obtain ⟨o, g, sg, m, h, l, r, kp, f1, f2, f3, f4, f5, f6, f7, f8, f9⟩ := rr_lines q aD aM L_order L_lineOf L_howMany M_lineHeight M_lineLeft M_lineRight M_lines
    have hd := kp_ne q f8
    rw [f1, f2, pz_bs, pz_bs]
    dsimp only
    have m12 : (nI m ≤ 12) ↔ m ≤ 12 := nI_leI (b := 12) (by omega) (by decide)
    by_cases c2 : m ≤ 12
    · rw [if_pos (m12.mpr c2), if_pos (m12.mpr c2)]
      obtain ⟨e1, e2, e3, e4, e5, e6, e7, e8, K', n', hKn, hnn, ok, hTu, hCl⟩ := hN
      subst e1 e2 e3 e4 e5
      obtain ⟨ts', tu', n1, n2, n3⟩ := mn_all q f3 f4 f8 c2 f6 N_first N_second N_isCut N_wireClaim N_knotClaim N_turnSize N_turns N_knots N_wires N_power
      have em : nI m - 1 = nI (m - 1) := by
        obtain ⟨i, rfl⟩ : ∃ i, m = i + 1 := ⟨m - 1, by omega⟩
        rw [nI_sub1, Nat.add_sub_cancel]
      have hfi : ∀ w, w < T → upd (pz_cp (fun i => nI (kp (2 * i))) N_first T) T 0 w = nI (kp (2 * w)) := fun w hw => by
        rw [tr_u2 _ _ (by omega), pz_cpl hw]
      have hse : ∀ w, w < T → upd (pz_cp (fun i => nI (kp (2 * i + 1))) N_second T) T (nI (m - 1)) w = nI (kp (2 * w + 1)) := fun w hw => by
        rw [tr_u2 _ _ (by omega), pz_cpl hw]
      obtain ⟨tu2, ts2, k1, k2, k3⟩ := rr_rows q aM f8 c2 hfi hse M_turns N_turnSize M_knotClaim (pz_cp (fun _ => 0) N_isCut (T + 1)) (pz_cp (fun _ => 0) N_wireClaim (T + 1)) h l r (nI (T + 1)) (nI T) (nI m)
      simp only [n1, pz_bs, pz_let, nI_1, rr_56 hb aM q (show m ≤ 42 by omega) f7 f9, pz_gd (pz_in (show T < 22 by omega) (by decide)), nI_clamp (show T < 2 ^ 31 by omega), em, rr_148 hb, k1]
      refine ⟨_, _, rfl, rfl, rfl, ?_, ?_⟩
      · dsimp only
        have row : ∀ k, k < m → ∃ t rh, rw_Ok T (tz M_left) kp m k t rh ∧ ts' k = nI t ∧ ts2 k = nI t ∧ (∀ i, i < t → tu' (22 * k + i) = nI (rh i)) ∧ (∀ i, i < t → tu2 (22 * k + i) = nI (rh i)) := by
          intro k hk
          obtain ⟨t, rh, a1, a2, a3⟩ := n2 k hk
          obtain ⟨t', rh', b1, b2, b3⟩ := k2 k hk
          obtain ⟨rfl, u⟩ := rw_un a1 b1
          exact ⟨t, rh, a1, a2, b2, a3, fun i hi => by rw [b3 i hi, u i hi]⟩
        have eS : ts' = ts2 := by
          funext k
          rcases Nat.lt_or_ge k m with d | d
          · obtain ⟨t, rh, a1, a2, a3, _⟩ := row k d
            rw [a2, a3]
          · rw [n3 k d, k3 k d]
        refine ⟨rfl, rfl, rfl, rfl, eS, rfl, rfl, rfl, m, T + 1, rfl, rfl, ⟨c2, by omega, Or.inr ⟨T, by omega, rfl, ?_⟩, fun w hw => ?_, fun w => ?_, fun k hk => ?_⟩, fun k i t hk ht htn hi => ?_, fun k hk => ?_⟩
        · rw [pz_cpl (show T < T + 1 by omega)]
        · by_cases d : w = T
          · subst d
            exact ⟨0, m - 1, by omega, by omega, by omega, tr_u1 _ _ _, tr_u1 _ _ _⟩
          · exact ⟨kp (2 * w), kp (2 * w + 1), (f8 _ (by omega)).1, (f8 _ (by omega)).1, hd w (by omega), hfi w (by omega), hse w (by omega)⟩
        · unfold pz_cp
          by_cases d : w < T + 1
          · rw [if_pos d]; exact Or.inl rfl
          · rw [if_neg d]; exact ok.2.2.2.2.1 w
        · obtain ⟨t, rh, a1, a2, a3, a4, a5⟩ := row k hk
          obtain ⟨w1, w2, w3⟩ := rw_net hd a1
          have bd : ∀ i, i < t → rh i ≤ T := fun i hi => by
            rcases w2 i hi with d | d | d
            · omega
            · have := d.1; omega
            · have := d.1; omega
          refine ⟨t, w1, a2, fun i hi => ⟨rh i, by have := bd i hi; omega, a4 i hi, ?_⟩, fun i j hi hj e => ?_⟩
          · rcases w2 i hi with ⟨d1, d2⟩ | d | d
            · rw [d1, tr_u1, tr_u1]
              rcases d2 with d2 | d2
              · left; rw [d2]; rfl
              · right; rw [d2]
            · left; rw [hfi _ d.1, d.2]
            · right; rw [hse _ d.1, d.2]
          · rw [a4 i hi, a4 j hj] at e
            have b1 := bd i hi
            have b2 := bd j hj
            exact w3 i j hi hj (pz_inj (by omega) (by omega) e)
        · obtain ⟨t', rh, a1, a2, a3, a4, a5⟩ := row k hk
          have := (rw_net hd a1).1
          rw [ht] at a2
          have e : t = t' := pz_inj (by omega) (by omega) a2
          subst e
          rw [a4 i hi, a5 i hi]
        · rw [pz_cpl hk, pz_cpl hk]
      · dsimp only
        exact pw_cp (fun _ => by decide) hw (T + 1)
    · have no : ¬ nI m ≤ 12 := fun z => c2 (m12.mp z)
      rw [if_neg no, if_neg no]
      exact ⟨_, _, rfl, rfl, rfl, hN, hw⟩
  · rw [if_neg c, if_neg c]
    exact ⟨_, _, rfl, rfl, rfl, hN, hw⟩
end

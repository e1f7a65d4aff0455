/-! ===== PURE 28f: within, rectangle ===== -/
def wi_Is (n : Nat) (O : Nat → Bool) (x r : Int32) : Prop := (∃ w, w < n ∧ O w = true ∧ nI (ds_cnt w O) = x ∧ r = nI w) ∨ (r = -1 ∧ ∀ w, w < n → O w = true → nI (ds_cnt w O) ≠ x)
theorem wi_un {n : Nat} (hn : n ≤ 22) {O : Nat → Bool} {x r r' : Int32} (h1 : wi_Is n O x r) (h2 : wi_Is n O x r') : r = r' := by
  rcases h1 with ⟨w, w1, w2, w3, w4⟩ | ⟨w1, w2⟩ <;> rcases h2 with ⟨v, v1, v2, v3, v4⟩ | ⟨v1, v2⟩
  · have c1 := ds_cnt_le O w
    have c2 := ds_cnt_le O v
    have : w = v := en_inj w2 v2 (pz_inj (by omega) (by omega) (by rw [w3, v3]))
    rw [w4, v4, this]
  · exact absurd w3 (v2 w w1 w2)
  · exact absurd v3 (w2 v v1 v2)
  · rw [w1, v1]
section
variable {n N be : Nat} {a b fc : Nat → Nat} {cu : Nat → Int32} {h c p : Nat → Int} {wv : Nat → Nat} {Y QL QY QS : Nat → Int32}
theorem wi_cnt (B : bl_Ok n N be a b fc cu h c p wv Y QL QY QS) {m4 m7 : Int32} (h1 : ∀ s, s < N → bt m4 s = bt m7 (wv s)) (h2 : ∀ w, bt m7 w = true → w < n ∧ sq_b be cu c w = true) : ∀ j, j ≤ n → ds_cnt (ds_cnt j (sq_b be cu c)) (bt m4) = ds_cnt j (bt m7) := by
  intro j
  induction j with
  | zero => intro _; rfl
  | succ j ih =>
    intro hj
    have ihj := ih (by omega)
    by_cases g : sq_b be cu c j = true
    · have i := bl_ix B (show j < n by omega) g
      rw [show ds_cnt (j + 1) (sq_b be cu c) = ds_cnt j (sq_b be cu c) + 1 from by rw [ds_cnt, if_pos g]]
      show ds_cnt (ds_cnt j (sq_b be cu c)) (bt m4) + (if bt m4 (ds_cnt j (sq_b be cu c)) = true then 1 else 0) = ds_cnt j (bt m7) + (if bt m7 j = true then 1 else 0)
      rw [ihj, h1 _ i.1, i.2]
    · rw [show ds_cnt (j + 1) (sq_b be cu c) = ds_cnt j (sq_b be cu c) from by rw [ds_cnt, if_neg g]; rfl, ihj]
      show _ = ds_cnt j (bt m7) + (if bt m7 j = true then 1 else 0)
      rw [if_neg (fun z => g (h2 j z).2)]
      rfl
theorem wi_cls (B : bl_Ok n N be a b fc cu h c p wv Y QL QY QS) (hn : n ≤ 22) {m4 m7 : Int32} (h1 : ∀ s, s < N → bt m4 s = bt m7 (wv s)) (h2 : ∀ w, bt m7 w = true → w < n ∧ sq_b be cu c w = true) (x : Int32) : ∃ v, fX2_innerWire Y m4 (nI N) x = some v ∧ wi_Is n (bt m7) x v := by
  obtain ⟨b1, b2, b3⟩ := id B
  obtain ⟨r, l1, l2⟩ := pz_fin (body := bX2_innerWire_4 Y m4 (nI N) x) (fun j st => st = (nI (ds_cnt j (bt m4)), nI j) ∧ ∀ s, s < j → bt m4 s = true → nI (ds_cnt s (bt m4)) ≠ x) (fun r => (∃ s, s < N ∧ bt m4 s = true ∧ nI (ds_cnt s (bt m4)) = x ∧ r = .inl (nI (wv s))) ∨ (r = .inr () ∧ ∀ s, s < N → bt m4 s = true → nI (ds_cnt s (bt m4)) ≠ x)) N (by
    rintro j st hj ⟨rfl, hz⟩
    unfold bX2_innerWire_4 jX2_innerWire_42
    dsimp only
    rcases Nat.lt_or_ge j N with q | q
    · obtain ⟨q1, q2, q3, q4, _⟩ := b3 j q
      rw [if_neg (nI_ge q (by omega)), bt_shr2 m4 (by omega)]
      simp only [pz_let, nI_1]
      by_cases g : bt m4 j = true
      · rw [if_pos (by rw [if_pos g])]
        by_cases e : nI (ds_cnt j (bt m4)) = x
        · left
          rw [if_pos e, pz_gd (pz_in (show j < 21 by omega) (by decide)), nI_clamp (by omega), q4]
          exact ⟨_, rfl, Or.inl ⟨j, q, g, e, rfl⟩⟩
        · right
          rw [if_neg e]
          refine ⟨q, _, rfl, ?_, fun s hs hb => ?_⟩
          · rw [show ds_cnt (j + 1) (bt m4) = ds_cnt j (bt m4) + 1 from by rw [ds_cnt, if_pos g]]
          · by_cases e2 : s = j
            · rw [e2]; exact e
            · exact hz s (by omega) hb
      · right
        rw [if_neg (by rw [if_neg g]; decide)]
        refine ⟨q, _, rfl, ?_, fun s hs hb => ?_⟩
        · rw [show ds_cnt (j + 1) (bt m4) = ds_cnt j (bt m4) from by rw [ds_cnt, if_neg g]; rfl]
        · by_cases e2 : s = j
          · rw [e2] at hb; exact absurd hb g
          · exact hz s (by omega) hb
    · left
      have e : j = N := by omega
      subst e
      exact ⟨_, by rw [if_pos (nI_le (Nat.le_refl _) (by omega))], Or.inr ⟨rfl, hz⟩⟩) 1000 0 (0, 0) (by omega) ⟨rfl, fun s hs => absurd hs (by omega)⟩ (by omega)
  have cn := wi_cnt B h1 h2
  unfold fX2_innerWire
  rw [l1, pz_bs]
  rcases l2 with ⟨s, s1, s2, s3, rfl⟩ | ⟨rfl, hz⟩
  · obtain ⟨q1, q2, q3, _⟩ := b3 s s1
    refine ⟨_, rfl, Or.inl ⟨wv s, q1, by rw [← h1 s s1]; exact s2, ?_, rfl⟩⟩
    have k := cn (wv s) (by omega)
    rw [q3] at k
    rw [← k]
    exact s3
  · refine ⟨_, rfl, Or.inr ⟨rfl, fun w hw hb => ?_⟩⟩
    obtain ⟨_, o⟩ := h2 w hb
    have i := bl_ix B hw o
    have k := cn w (by omega)
    rw [← k]
    exact hz _ i.1 (by rw [h1 _ i.1, i.2]; exact hb)
theorem wi_ref {β : Type} (hn : n ≤ 22) (m7 x : Int32) {body : Int32 × Int32 → Option (((Int32 × β) ⊕ (Unit)) ⊕ (Int32 × Int32))} (z : β) (hb : ∀ st, body st = (if nI n ≤ st.2 then some (.inl (.inr ())) else dk_let ((st.1 + ((m7 >>> (st.2 &&& 31)) &&& 1))) (fun x3 => if ((m7 >>> (st.2 &&& 31)) &&& 1) = 1 then if x3 = x then some (.inl (.inl (st.2, z))) else dk_let (st.2 + 1) (fun y => some (.inr (x3, y))) else dk_let (st.2 + 1) (fun y => some (.inr (x3, y)))))) : ∃ r, dk_loop body 1000 ((-1), 0) = some r ∧ ((∃ w, r = .inl (nI w, z) ∧ wi_Is n (bt m7) x (nI w)) ∨ (r = .inr () ∧ wi_Is n (bt m7) x (-1))) := by
  obtain ⟨r, l1, l2⟩ := pz_fin (body := body) (fun j st => st = (nI (ds_cnt j (bt m7)) - 1, nI j) ∧ ∀ w, w < j → bt m7 w = true → nI (ds_cnt w (bt m7)) ≠ x) (fun r => (∃ w, r = .inl (nI w, z) ∧ wi_Is n (bt m7) x (nI w)) ∨ (r = .inr () ∧ wi_Is n (bt m7) x (-1))) n (by
    rintro j st hj ⟨rfl, hz⟩
    rw [hb]
    dsimp only
    have cl := ds_cnt_le (bt m7) j
    have m1 : nI (ds_cnt j (bt m7)) - 1 + 1 = nI (ds_cnt j (bt m7)) := Int32.sub_add_cancel _ _
    rcases Nat.lt_or_ge j n with q | q
    · rw [if_neg (nI_ge q (by omega)), bt_shr2 m7 (by omega)]
      simp only [pz_let, nI_1]
      by_cases g : bt m7 j = true
      · rw [if_pos g, if_pos rfl, m1]
        by_cases e : nI (ds_cnt j (bt m7)) = x
        · left
          rw [if_pos e]
          exact ⟨_, rfl, Or.inl ⟨j, rfl, Or.inl ⟨j, q, g, e, rfl⟩⟩⟩
        · right
          rw [if_neg e]
          refine ⟨q, _, rfl, ?_, fun w hw hbw => ?_⟩
          · rw [show ds_cnt (j + 1) (bt m7) = ds_cnt j (bt m7) + 1 from by rw [ds_cnt, if_pos g], ← nI_1 (ds_cnt j (bt m7)), Int32.add_sub_cancel]
          · by_cases e2 : w = j
            · rw [e2]; exact e
            · exact hz w (by omega) hbw
      · right
        rw [if_neg g, if_neg (by decide), Int32.add_zero]
        refine ⟨q, _, rfl, ?_, fun w hw hbw => ?_⟩
        · rw [show ds_cnt (j + 1) (bt m7) = ds_cnt j (bt m7) from by rw [ds_cnt, if_neg g]; rfl]
        · by_cases e2 : w = j
          · rw [e2] at hbw; exact absurd hbw g
          · exact hz w (by omega) hbw
    · left
      have e : j = n := by omega
      subst e
      exact ⟨_, by rw [if_pos (nI_le (Nat.le_refl _) (by omega))], Or.inr ⟨rfl, Or.inr ⟨rfl, hz⟩⟩⟩) 1000 0 ((-1), 0) (by omega) ⟨rfl, fun s hs => absurd hs (by omega)⟩ (by omega)
  exact ⟨r, l1, l2⟩
end
section
variable {N_first N_second N_isCut N_wireClaim N_knotClaim N_turnSize N_turns : Nat → Int32} {N_knots N_wires N_power M_knots M_wires M_battery : Int32} {M_first M_second M_isCut M_turns M_turnMany M_wireClaim M_knotClaim : Nat → Int32} {F_faceOf F_dartAhead M_faceOf : Nat → Int32} {F_howMany M_faceMany : Int32} {W_rows : Nat → Int64} {W_heightOf W_currentOf W_placeOf W_isPlaced : Nat → Int32} {W_wide W_high : Int32} {W_treeCount : Int64} {M_table : Nat → Int64} {M_heights M_currents M_places : Nat → Int32} {M_treeMany : Int64} {M_wide M_high : Int32} {Y_wireOf : Nat → Int32} {Y_hasIdleWire Y_innerSet Y_innerSize Y_innerLeft Y_innerLow Y_innerWide : Int32} {Q_left Q_low Q_side : Nat → Int32} {Q_howMany : Int32}
theorem pc_within (hN : NetRel N_first N_second N_isCut N_wireClaim N_knotClaim N_turnSize N_turns N_knots N_wires N_power M_knots M_wires M_battery M_first M_second M_isCut M_turns M_turnMany M_wireClaim M_knotClaim) (x1 : Int32) :
    ∃ r1 r2, fX6_within N_first N_second N_isCut N_turnSize N_turns N_knots N_wires N_power F_faceOf F_dartAhead F_howMany W_rows W_heightOf W_currentOf W_placeOf W_isPlaced W_wide W_high W_treeCount Y_wireOf Y_hasIdleWire Y_innerSet Y_innerSize Y_innerLeft Y_innerLow Y_innerWide Q_left Q_low Q_side Q_howMany x1 = some r1 ∧ fX7_within M_knots M_wires M_battery M_first M_second M_isCut M_turns M_turnMany M_faceOf M_faceMany M_table M_heights M_currents M_places M_treeMany M_wide M_high x1 = some r2 ∧ r1.1 = r2.1 := by
  have hNe := hN
  unfold fX6_within fX7_within fX6_layOut
  rcases fo_main W_rows W_heightOf W_currentOf W_placeOf W_isPlaced W_wide W_high W_treeCount F_faceOf F_dartAhead M_faceOf F_howMany M_faceMany M_table M_heights M_currents M_places M_treeMany M_wide M_high hN with ⟨v, fC, da, HC, fM, HM, g, h1, h2⟩ | ⟨K, n, F, bt, a, b, t, u, fc, h, c, p, D, wd, rW, hC, cC, plC, ipC, tb, hM, cM, pm, fC, da, fM, rfl, rfl, hK, hn, hF, rd, i1, i2, i3, f1, h1, f2, f3, f4, f5, f6⟩
  · simp only [h1, h2, pz_bs, g, if_false, pz_00, if_true]
    exact ⟨_, _, rfl, rfl, rfl⟩
  · obtain ⟨H, k1, k2, k3, k4, k5, k6, k7⟩ := fo_lay hNe hK hn hF rd i1 i3 f1 f4 f5 f6
    have rd' := rd
    subst k1 k2 k3 k4 k5 k6 k7
    obtain ⟨N, wv, Y, QL, QY, QS, idl, y1, y2, y3⟩ := bl_build H Y_wireOf Q_left Q_low Q_side Y_hasIdleWire Q_howMany
    obtain ⟨st4, m7, e4, e7, e0, eb, eo⟩ := rb_same rd' H y2 Y_innerSet Y_innerSize Y_innerLeft Y_innerLow Y_innerWide
    obtain ⟨v, v1, v2⟩ := wi_cls y2 hn eb eo x1
    obtain ⟨r, w1, w2⟩ := wi_ref hn m7 x1 (body := bX7_within_20 (nI K) (nI n) (nI bt) M_first M_second M_isCut M_turns M_turnMany fM (nI F) tb hM cM pm (Int64.ofInt D) wd (Int32.ofInt (h (a bt))) x1 m7) (fM, nI F, tb, hM, cM, pm, Int64.ofInt D, wd, Int32.ofInt (h (a bt))) (fun _ => rfl)
    simp only [h1, f2, f3, pz_bs, pz_00, if_true, pz_10, if_false, y1, e4, e7, v1, w1]
    rcases w2 with ⟨w, rfl, q⟩ | ⟨rfl, q⟩
    · refine ⟨_, _, rfl, rfl, ?_⟩
      exact wi_un hn v2 q
    · refine ⟨_, _, rfl, rfl, ?_⟩
      exact wi_un hn v2 q
end

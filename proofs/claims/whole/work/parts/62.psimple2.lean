/-! ===== PURE 2: bare, of, turn, count, claims, told squares ===== -/
section
variable {N_first N_second N_isCut N_wireClaim N_knotClaim N_turnSize N_turns : Nat → Int32} {N_knots N_wires N_power : Int32} {M_knots M_wires M_battery : Int32} {M_first M_second M_isCut M_turns M_turnMany M_wireClaim M_knotClaim : Nat → Int32}
theorem pc_bare (h : NetRel N_first N_second N_isCut N_wireClaim N_knotClaim N_turnSize N_turns N_knots N_wires N_power M_knots M_wires M_battery M_first M_second M_isCut M_turns M_turnMany M_wireClaim M_knotClaim) (x1 : Int32) :
    ∃ r1 r2, fX6_bare N_turnSize N_knots x1 = some r1 ∧ fX7_bare M_knots M_turnMany x1 = some r2 ∧ r1.1 = r2.1 ∧
      NetRel N_first N_second N_isCut N_wireClaim N_knotClaim r1.2 N_turns N_knots N_wires N_power M_knots M_wires M_battery M_first M_second M_isCut M_turns r2.2 M_wireClaim M_knotClaim := by
  obtain ⟨e1, e2, e3, e4, e5, e6, e7, e8, K, n, hK, hn, ok, ht, hc⟩ := id h
  subst e1 e2 e3 e4 e5 e6 e7 e8
  subst hK hn
  obtain ⟨o1, o2, o3, o4, o5, o6⟩ := ok
  rcases pz_kn (K := K) (by omega) x1 with ⟨a, ha, rfl⟩ | ⟨z1, z2, -, -⟩
  rotate_left
  · refine ⟨(-2000000000, N_turnSize), (-2000000000, N_turnSize), ?_, ?_, rfl, h⟩
    · unfold fX6_bare; rw [z1]; rfl
    · unfold fX7_bare; rw [z2]; rfl
  obtain ⟨a1, a2, -, -⟩ := pz_kn1 (K := K) (by omega) ha
  have c3 : dk_in (nI a) 12 = true := pz_in (by omega) (by decide)
  have c4 : (nI a).toNatClampNeg = a := nI_clamp (by omega)
  refine ⟨(N_turnSize a, upd N_turnSize a 0), (N_turnSize a, upd N_turnSize a 0), ?_, ?_, rfl, ?_⟩
  · unfold fX6_bare
    rw [a1, pz_bnd rfl, if_neg (by decide), pz_gd c3, c4]
    rfl
  · unfold fX7_bare
    rw [a2, pz_bnd rfl, if_neg (by decide), pz_gd c3, c4]
    rfl
  · dsimp only
    refine ⟨rfl, rfl, rfl, rfl, rfl, rfl, rfl, rfl, K, n, rfl, rfl, ⟨o1, o2, o3, o4, o5, ?_⟩, ?_, hc⟩
    · intro k hk
      show ∃ t, t ≤ n ∧ upd N_turnSize a 0 k = nI t ∧ _
      by_cases e : k = a
      · subst e
        exact ⟨0, Nat.zero_le _, by rw [pk_us]; rfl, fun i hi => absurd hi (by omega), fun i j hi => absurd hi (by omega)⟩
      · rw [pk_un e]
        exact o6 k hk
    · intro k i t hk q1 q2 q3
      have q1 : upd N_turnSize a 0 k = nI t := q1
      by_cases e : k = a
      · subst e
        rw [pk_us] at q1
        have : (0 : Nat) = t := pz_inj (by decide) (by omega) (show nI 0 = nI t from q1)
        omega
      · rw [pk_un e] at q1
        exact ht k i t hk q1 q2 q3
theorem pc_of (h : NetRel N_first N_second N_isCut N_wireClaim N_knotClaim N_turnSize N_turns N_knots N_wires N_power M_knots M_wires M_battery M_first M_second M_isCut M_turns M_turnMany M_wireClaim M_knotClaim) (x1 x2 : Int32) :
    ∃ r1 r2, fX6_of N_first N_second N_isCut N_wires N_power x1 x2 = some r1 ∧ fX7_of M_wires M_battery M_first M_second M_isCut x1 x2 = some r2 ∧ r1 = r2 := by
  obtain ⟨e1, e2, e3, e4, e5, e6, e7, e8, K, n, hK, hn, ok, ht, hc⟩ := id h
  subst e1 e2 e3 e4 e5 e6 e7 e8
  subst hK hn
  obtain ⟨o1, o2, o3, o4, o5, o6⟩ := ok
  rcases pz_kn (K := n) (by omega) x1 with ⟨a, ha, rfl⟩ | ⟨-, -, z1, z2⟩
  rotate_left
  · refine ⟨-2000000000, -2000000000, ?_, ?_, rfl⟩
    · unfold fX6_of; rw [z1]; rfl
    · unfold fX7_of; rw [z2]; rfl
  obtain ⟨-, -, a1, a2⟩ := pz_kn1 (K := n) (by omega) ha
  have c3 : dk_in (nI a) 22 = true := pz_in (by omega) (by decide)
  have ex : ∃ r, fX6_of N_first N_second N_isCut (nI n) N_power (nI a) x2 = some r ∧ fX7_of (nI n) N_power N_first N_second N_isCut (nI a) x2 = some r := by
    unfold fX6_of fX7_of
    rw [a1, a2, pz_bnd rfl, if_neg (by decide)]
    by_cases h0 : x2 = 0
    · rw [if_pos h0, pz_gd c3]; exact ⟨_, rfl, rfl⟩
    rw [if_neg h0]
    by_cases h1 : x2 = 1
    · rw [if_pos h1, pz_gd c3]; exact ⟨_, rfl, rfl⟩
    rw [if_neg h1]
    by_cases h2 : x2 = 2
    · rw [if_pos h2, pz_gd c3]
      by_cases h3 : nI a = N_power
      · rw [if_pos h3]; exact ⟨_, rfl, rfl⟩
      · rw [if_neg h3]
        by_cases h4 : N_isCut (nI a).toNatClampNeg = 0
        · rw [if_pos h4]; exact ⟨_, rfl, rfl⟩
        · rw [if_neg h4]; exact ⟨_, rfl, rfl⟩
    · rw [if_neg h2]; exact ⟨_, rfl, rfl⟩
  obtain ⟨r, q1, q2⟩ := ex
  exact ⟨r, r, q1, q2, rfl⟩
theorem pc_turn (h : NetRel N_first N_second N_isCut N_wireClaim N_knotClaim N_turnSize N_turns N_knots N_wires N_power M_knots M_wires M_battery M_first M_second M_isCut M_turns M_turnMany M_wireClaim M_knotClaim) (x1 x2 : Int32) :
    ∃ r1 r2, fX6_turn N_turnSize N_turns N_knots x1 x2 = some r1 ∧ fX7_turn M_knots M_turns M_turnMany x1 x2 = some r2 ∧ r1 = r2 := by
  obtain ⟨e1, e2, e3, e4, e5, e6, e7, e8, K, n, hK, hn, ok, ht, hc⟩ := id h
  subst e1 e2 e3 e4 e5 e6 e7 e8
  subst hK hn
  obtain ⟨o1, o2, o3, o4, o5, o6⟩ := ok
  rcases pz_kn (K := K) (by omega) x1 with ⟨a, ha, rfl⟩ | ⟨z1, z2, -, -⟩
  rotate_left
  · refine ⟨-2000000000, -2000000000, ?_, ?_, rfl⟩
    · unfold fX6_turn; rw [z1]; rfl
    · unfold fX7_turn; rw [z2]; rfl
  obtain ⟨a1, a2, -, -⟩ := pz_kn1 (K := K) (by omega) ha
  have c3 : dk_in (nI a) 12 = true := pz_in (by omega) (by decide)
  have c4 : (nI a).toNatClampNeg = a := nI_clamp (by omega)
  obtain ⟨t, t1, t2, t3, t4⟩ := o6 a ha
  rcases pz_kn (K := t) (by omega) x2 with ⟨b, hb, rfl⟩ | ⟨-, y2, y1, -⟩
  · obtain ⟨-, b2, b1, -⟩ := pz_kn1 (K := t) (by omega) hb
    have d3 : dk_in (nI (22 * a + b)) 264 = true := pz_in (by omega) (by decide)
    have d4 : (nI (22 * a + b)).toNatClampNeg = 22 * a + b := nI_clamp (by omega)
    have lt1 : nI b < nI t := nI_lt hb (by omega)
    have b3 : fX7_in (nI b) 0 (nI t - 1) = some 1 := by
      unfold fX7_isKnot at b2
      obtain ⟨z, q1, q2⟩ := dk_bnd_to b2
      obtain ⟨-, q3⟩ := dk_gd_to q2
      rw [q1, q3]
    refine ⟨N_turns (22 * a + b), M_turns (22 * a + b), ?_, ?_, ht a b t ha t2 t1 hb⟩
    · unfold fX6_turn fX4_wireInTurn
      rw [a1, pz_bnd rfl, if_neg (by decide), if_neg (nI_pos (by omega)), pz_gd c3, c4, t2, if_pos lt1, pz_22, pz_gd d3, d4]
      rfl
    · unfold fX7_turn
      rw [a2, pz_bnd rfl, if_neg (by decide), pz_gd c3, c4, t2, b3, pz_bnd rfl, if_neg (by decide), pz_22', pz_gd d3, d4]
  · have y3 : fX7_in x2 0 (nI t - 1) = some 0 := by
      unfold fX7_isKnot at y2
      obtain ⟨z, q1, q2⟩ := dk_bnd_to y2
      obtain ⟨-, q3⟩ := dk_gd_to q2
      rw [q1, q3]
    refine ⟨-1, -1, ?_, ?_, rfl⟩
    · unfold fX6_turn
      rw [a1, pz_bnd rfl, if_neg (by decide)]
      by_cases hx : x2 < 0
      · rw [if_pos hx]
      · have : ¬ x2 < nI t := by
          intro q
          unfold fX4_isWire at y1
          rw [if_neg hx] at y1
          have hle : ¬ nI t ≤ x2 := by
            rw [Int32.le_iff_toInt_le]
            rw [Int32.lt_iff_toInt_lt] at q
            omega
          rw [if_neg hle] at y1
          exact absurd (Option.some.inj y1) (by decide)
        rw [if_neg hx, pz_gd c3, c4, t2, if_neg this]
    · unfold fX7_turn
      rw [a2, pz_bnd rfl, if_neg (by decide), pz_gd c3, c4, t2, y3]
      rfl
theorem pz_mayC (x : Int32) : ∃ v, fX6_canBeClaimed x = some v ∧ fX7_mayClaim x = some v := by
  unfold fX6_canBeClaimed fX7_mayClaim fX7_in
  by_cases h1 : x < -1000000000
  · rw [if_pos h1]; exact ⟨0, rfl, rfl⟩
  · rw [if_neg h1]
    by_cases h2 : 1000000000 < x
    · rw [if_pos h2]; exact ⟨0, rfl, rfl⟩
    · rw [if_neg h2]; exact ⟨1, rfl, rfl⟩
theorem pc_claim (h : NetRel N_first N_second N_isCut N_wireClaim N_knotClaim N_turnSize N_turns N_knots N_wires N_power M_knots M_wires M_battery M_first M_second M_isCut M_turns M_turnMany M_wireClaim M_knotClaim) (x1 x2 : Int32) :
    ∃ r1 r2, fX6_claim N_wireClaim N_wires x1 x2 = some r1 ∧ fX7_claim M_wires M_wireClaim x1 x2 = some r2 ∧ r1.1 = r2.1 ∧
      NetRel N_first N_second N_isCut r1.2 N_knotClaim N_turnSize N_turns N_knots N_wires N_power M_knots M_wires M_battery M_first M_second M_isCut M_turns M_turnMany r2.2 M_knotClaim := by
  obtain ⟨e1, e2, e3, e4, e5, e6, e7, e8, K, n, hK, hn, ok, ht, hc⟩ := id h
  subst e1 e2 e3 e4 e5 e6 e7 e8
  subst hK hn
  rcases pz_kn (K := n) (by have := ok.2.1; omega) x1 with ⟨a, ha, rfl⟩ | ⟨-, -, z1, z2⟩
  rotate_left
  · refine ⟨(-2000000000, N_wireClaim), (-2000000000, N_wireClaim), ?_, ?_, rfl, h⟩
    · unfold fX6_claim; rw [z1]; rfl
    · unfold fX7_claim; rw [z2]; rfl
  have o2 := ok.2.1
  obtain ⟨-, -, a1, a2⟩ := pz_kn1 (K := n) (by omega) ha
  obtain ⟨v, v1, v2⟩ := pz_mayC x2
  by_cases hv : v = 0
  · refine ⟨(-2000000000, N_wireClaim), (-2000000000, N_wireClaim), ?_, ?_, rfl, h⟩
    · unfold fX6_claim; rw [a1, pz_bnd rfl, if_neg (by decide), v1, pz_bnd rfl, if_pos hv]
    · unfold fX7_claim; rw [a2, pz_bnd rfl, if_neg (by decide), v2, pz_bnd rfl, if_pos hv]
  have c3 : dk_in (nI a) 22 = true := pz_in (by omega) (by decide)
  have c4 : (nI a).toNatClampNeg = a := nI_clamp (by omega)
  refine ⟨(N_wireClaim a, upd N_wireClaim a x2), (N_wireClaim a, upd N_wireClaim a x2), ?_, ?_, rfl, ?_⟩
  · unfold fX6_claim; rw [a1, pz_bnd rfl, if_neg (by decide), v1, pz_bnd rfl, if_neg hv, pz_gd c3, c4]; rfl
  · unfold fX7_claim; rw [a2, pz_bnd rfl, if_neg (by decide), v2, pz_bnd rfl, if_neg hv, pz_gd c3, c4]; rfl
  · exact ⟨rfl, rfl, rfl, rfl, rfl, rfl, rfl, rfl, K, n, rfl, rfl, ok, ht, hc⟩
theorem pc_raise (h : NetRel N_first N_second N_isCut N_wireClaim N_knotClaim N_turnSize N_turns N_knots N_wires N_power M_knots M_wires M_battery M_first M_second M_isCut M_turns M_turnMany M_wireClaim M_knotClaim) (x1 x2 : Int32) :
    ∃ r1 r2, fX6_raise N_knotClaim N_knots x1 x2 = some r1 ∧ fX7_raise M_knots M_knotClaim x1 x2 = some r2 ∧ r1.1 = r2.1 ∧
      NetRel N_first N_second N_isCut N_wireClaim r1.2 N_turnSize N_turns N_knots N_wires N_power M_knots M_wires M_battery M_first M_second M_isCut M_turns M_turnMany M_wireClaim r2.2 := by
  obtain ⟨e1, e2, e3, e4, e5, e6, e7, e8, K, n, hK, hn, ok, ht, hc⟩ := id h
  subst e1 e2 e3 e4 e5 e6 e7 e8
  subst hK hn
  have o1 := ok.1
  rcases pz_kn (K := K) (by omega) x1 with ⟨a, ha, rfl⟩ | ⟨z1, z2, -, -⟩
  rotate_left
  · refine ⟨(-2000000000, N_knotClaim), (-2000000000, M_knotClaim), ?_, ?_, rfl, h⟩
    · unfold fX6_raise; rw [z1]; rfl
    · unfold fX7_raise; rw [z2]; rfl
  obtain ⟨a1, a2, -, -⟩ := pz_kn1 (K := K) (by omega) ha
  obtain ⟨v, v1, v2⟩ := pz_mayC x2
  by_cases hv : v = 0
  · refine ⟨(-2000000000, N_knotClaim), (-2000000000, M_knotClaim), ?_, ?_, rfl, h⟩
    · unfold fX6_raise; rw [a1, pz_bnd rfl, if_neg (by decide), v1, pz_bnd rfl, if_pos hv]
    · unfold fX7_raise; rw [a2, pz_bnd rfl, if_neg (by decide), v2, pz_bnd rfl, if_pos hv]
  have c3 : dk_in (nI a) 12 = true := pz_in (by omega) (by decide)
  have c4 : (nI a).toNatClampNeg = a := nI_clamp (by omega)
  refine ⟨(N_knotClaim a, upd N_knotClaim a x2), (M_knotClaim a, upd M_knotClaim a x2), ?_, ?_, hc a ha, ?_⟩
  · unfold fX6_raise; rw [a1, pz_bnd rfl, if_neg (by decide), v1, pz_bnd rfl, if_neg hv, pz_gd c3, c4]; rfl
  · unfold fX7_raise; rw [a2, pz_bnd rfl, if_neg (by decide), v2, pz_bnd rfl, if_neg hv, pz_gd c3, c4]; rfl
  · dsimp only
    refine ⟨rfl, rfl, rfl, rfl, rfl, rfl, rfl, rfl, K, n, rfl, rfl, ok, ht, ?_⟩
    intro k hk
    show upd N_knotClaim a x2 k = upd M_knotClaim a x2 k
    by_cases e : k = a
    · subst e; rw [pk_us, pk_us]
    · rw [pk_un e, pk_un e]; exact hc k hk
end
section
variable {D_left D_low D_side : Nat → Int32} {D_howMany : Int32} {M_told : Int32} {M_left M_low M_side : Nat → Int32}
theorem pc_hush (h : ToldRel D_left D_low D_side D_howMany M_told M_left M_low M_side) :
    ∃ r1 r2, fX6_hush D_howMany = some r1 ∧ fX7_hush M_told = some r2 ∧ r1.1 = r2.1 ∧ ToldRel D_left D_low D_side r1.2 r2.2 M_left M_low M_side := by
  obtain ⟨e1, T, hT, h1, h2⟩ := h
  exact ⟨(D_howMany, 0), (M_told, 0), rfl, rfl, e1, rfl, 0, rfl, by omega, fun i hi => absurd hi (by omega)⟩
theorem pz_canM (w x : Int32) : fX5_canBe w x = fX7_mayBe w x := by
  have q : ∀ b : Int32, jX5_canBe_11 x x b = jX7_mayBe_11 x b := by
    intro b
    unfold jX5_canBe_11 jX7_mayBe_11 fX7_in
    by_cases h : x < b
    · rw [if_pos h]; rfl
    · rw [if_neg h]
      by_cases h2 : 1000000 < x
      · rw [if_pos h2]; rfl
      · rw [if_neg h2]; rfl
  unfold fX5_canBe fX7_mayBe
  rw [q, q]
/-- what may be told: a number, at least 0 (a side: 1), at most a million -/
theorem pz_can (w x : Int32) : fX5_canBe w x = some 0 ∨ (fX5_canBe w x = some 1 ∧ ∃ a : Nat, a ≤ 1000000 ∧ x = nI a ∧ (w = 2 → 1 ≤ a)) := by
  have key : ∀ b : Nat, b ≤ 1 → jX5_canBe_11 x x (nI b) = some 0 ∨ (jX5_canBe_11 x x (nI b) = some 1 ∧ ∃ a : Nat, a ≤ 1000000 ∧ x = nI a ∧ b ≤ a) := by
    intro b hb
    unfold jX5_canBe_11
    by_cases h : x < nI b
    · rw [if_pos h]; exact Or.inl rfl
    · rw [if_neg h]
      by_cases h2 : 1000000 < x
      · rw [if_pos h2]; exact Or.inl rfl
      · rw [if_neg h2]
        refine Or.inr ⟨rfl, ?_⟩
        rw [Int32.lt_iff_toInt_lt, nI_toInt (by omega)] at h
        rw [Int32.lt_iff_toInt_lt] at h2
        have e1 : (1000000 : Int32).toInt = 1000000 := by decide
        have hx : ¬ x < 0 := by
          rw [Int32.lt_iff_toInt_lt]
          have e0 : (0 : Int32).toInt = 0 := by decide
          omega
        obtain ⟨j, hj, rfl⟩ := nI_of hx
        rw [nI_toInt hj] at h h2
        exact ⟨j, by omega, rfl, by omega⟩
  unfold fX5_canBe
  by_cases hw : w = 2
  · rw [if_pos hw]
    rcases key 1 (by omega) with q | ⟨q, a, q1, q2, q3⟩
    · exact Or.inl q
    · exact Or.inr ⟨q, a, q1, q2, fun _ => q3⟩
  · rw [if_neg hw]
    rcases key 0 (by omega) with q | ⟨q, a, q1, q2, q3⟩
    · exact Or.inl q
    · exact Or.inr ⟨q, a, q1, q2, fun e => absurd e hw⟩
theorem pc_tell (h : ToldRel D_left D_low D_side D_howMany M_told M_left M_low M_side) (x1 x2 x3 : Int32) :
    ∃ r1 r2, fX6_tell D_left D_low D_side D_howMany x1 x2 x3 = some r1 ∧ fX7_tell M_told M_left M_low M_side x1 x2 x3 = some r2 ∧ r1.1 = r2.1 ∧ ToldRel r1.2.1 r1.2.2.1 r1.2.2.2.1 r1.2.2.2.2 r2.2.1 r2.2.2.1 r2.2.2.2.1 r2.2.2.2.2 := by
  obtain ⟨e1, T, hT, h1, h2⟩ := id h
  subst e1
  subst hT
  by_cases h21 : T < 21
  rotate_left
  · have e : T = 21 := by omega
    subst e
    refine ⟨(-2000000000, D_left, D_low, D_side, nI 21), (-2000000000, nI 21, M_left, M_low, M_side), ?_, ?_, rfl, h⟩
    · unfold fX6_tell; rw [if_pos (by decide)]
    · unfold fX7_tell; rw [if_pos (show nI 21 = 21 from rfl)]
  have c1 : ¬ 21 ≤ nI T := nI_ge (b := 21) h21 (by decide)
  have c2 : ¬ nI T = 21 := pz_nz (y := 21) (by omega) (by decide) (by omega)
  have no : fX6_tell D_left D_low D_side (nI T) x1 x2 x3 = some (-2000000000, D_left, D_low, D_side, nI T) → fX7_tell (nI T) M_left M_low M_side x1 x2 x3 = some (-2000000000, nI T, M_left, M_low, M_side) → _ := fun q1 q2 => (⟨_, _, q1, q2, rfl, h⟩ : ∃ r1 r2, fX6_tell D_left D_low D_side (nI T) x1 x2 x3 = some r1 ∧ fX7_tell (nI T) M_left M_low M_side x1 x2 x3 = some r2 ∧ r1.1 = r2.1 ∧ ToldRel r1.2.1 r1.2.2.1 r1.2.2.2.1 r1.2.2.2.2 r2.2.1 r2.2.2.1 r2.2.2.2.1 r2.2.2.2.2)
  rcases pz_can 0 x1 with z | ⟨z, a, a1, a2, a3⟩
  · refine no ?_ ?_
    · unfold fX6_tell; rw [if_neg c1, z]; rfl
    · unfold fX7_tell; rw [if_neg c2, ← pz_canM, z]; rfl
  rcases pz_can 1 x2 with y | ⟨y, b, b1, b2, b3⟩
  · refine no ?_ ?_
    · unfold fX6_tell; rw [if_neg c1, z, pz_bnd rfl, if_neg (by decide), y]; rfl
    · unfold fX7_tell; rw [if_neg c2, ← pz_canM, z, pz_bnd rfl, if_neg (by decide), ← pz_canM, y]; rfl
  rcases pz_can 2 x3 with w | ⟨w, c, d1, d2, d3⟩
  · refine no ?_ ?_
    · unfold fX6_tell; rw [if_neg c1, z, pz_bnd rfl, if_neg (by decide), y, pz_bnd rfl, if_neg (by decide), w]; rfl
    · unfold fX7_tell; rw [if_neg c2, ← pz_canM, z, pz_bnd rfl, if_neg (by decide), ← pz_canM, y, pz_bnd rfl, if_neg (by decide), ← pz_canM, w]; rfl
  have c3 : dk_in (nI T) 21 = true := pz_in h21 (by decide)
  have c4 : (nI T).toNatClampNeg = T := nI_clamp (by omega)
  refine ⟨(nI T + 1, upd D_left T x1, upd D_low T x2, upd D_side T x3, nI T + 1), (nI T + 1, nI T + 1, upd M_left T x1, upd M_low T x2, upd M_side T x3), ?_, ?_, rfl, ?_⟩
  · unfold fX6_tell fX5_add
    rw [if_neg c1, z, pz_bnd rfl, if_neg (by decide), y, pz_bnd rfl, if_neg (by decide), w, pz_bnd rfl, if_neg (by decide), if_neg c1, pz_gd c3, c4]
    rfl
  · unfold fX7_tell
    rw [if_neg c2, ← pz_canM, z, pz_bnd rfl, if_neg (by decide), ← pz_canM, y, pz_bnd rfl, if_neg (by decide), ← pz_canM, w, pz_bnd rfl, if_neg (by decide), pz_gd c3, c4]
    rfl
  · refine ⟨rfl, T + 1, nI_1 T, by omega, ?_⟩
    intro i hi
    show upd D_left T x1 i = upd M_left T x1 i ∧ upd D_low T x2 i = upd M_low T x2 i ∧ upd D_side T x3 i = upd M_side T x3 i ∧ ∃ a b c : Nat, a ≤ 2 ^ 28 ∧ b ≤ 2 ^ 28 ∧ 1 ≤ c ∧ c ≤ 2 ^ 28 ∧ upd D_left T x1 i = nI a ∧ upd D_low T x2 i = nI b ∧ upd D_side T x3 i = nI c
    by_cases e : i = T
    · subst e
      simp only [pk_us]
      exact ⟨trivial, trivial, trivial, a, b, c, by omega, by omega, d3 rfl, by omega, a2, b2, d2⟩
    · simp only [pk_un e]
      exact h2 i (by omega)
end

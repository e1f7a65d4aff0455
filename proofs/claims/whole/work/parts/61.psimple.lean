/-! ===== PURE 1: calls that look and write alike ===== -/
section
variable {N_first N_second N_isCut N_wireClaim N_knotClaim N_turnSize N_turns : Nat → Int32} {N_knots N_wires N_power : Int32} {M_knots M_wires M_battery : Int32} {M_first M_second M_isCut M_turns M_turnMany M_wireClaim M_knotClaim : Nat → Int32}
theorem pc_knot (h : NetRel N_first N_second N_isCut N_wireClaim N_knotClaim N_turnSize N_turns N_knots N_wires N_power M_knots M_wires M_battery M_first M_second M_isCut M_turns M_turnMany M_wireClaim M_knotClaim) :
    ∃ r1 r2, fX6_knot N_knotClaim N_turnSize N_knots = some r1 ∧ fX7_knot M_knots M_turnMany M_knotClaim = some r2 ∧ r1.1 = r2.1 ∧
      NetRel N_first N_second N_isCut N_wireClaim r1.2.1 r1.2.2.1 N_turns r1.2.2.2 N_wires N_power r2.2.1 M_wires M_battery M_first M_second M_isCut M_turns r2.2.2.1 M_wireClaim r2.2.2.2 := by
  obtain ⟨e1, e2, e3, e4, e5, e6, e7, e8, K, n, hK, hn, ok, ht, hc⟩ := h
  subst e1 e2 e3 e4 e5 e6 e7 e8
  subst hK
  obtain ⟨o1, o2, o3, o4, o5, o6⟩ := ok
  by_cases h12 : K < 12
  · have a1 : nI K < 12 := nI_lt (b := 12) h12 (by decide)
    have a2 : ¬ nI K = 12 := fun q => by
      have := pz_inj (by omega) (by decide) (show nI K = nI 12 from q)
      omega
    have a3 : dk_in (nI K) 12 = true := pz_in h12 (by decide)
    have a4 : (nI K).toNatClampNeg = K := nI_clamp (by omega)
    refine ⟨(nI K + 1 - 1, upd N_knotClaim K 0, upd N_turnSize K 0, nI K + 1), (nI K + 1 - 1, nI K + 1, upd N_turnSize K 0, upd M_knotClaim K 0), ?_, ?_, rfl, ?_⟩
    · unfold fX6_knot fX4_addKnot
      rw [if_pos a1, pz_gd a3, a4]
      rfl
    · unfold fX7_knot
      rw [if_neg a2, pz_gd a3, a4]
      rfl
    · dsimp only
      refine ⟨rfl, rfl, rfl, rfl, rfl, rfl, rfl, rfl, K + 1, n, nI_1 K, hn, ⟨by omega, o2, o3, ?_, o5, ?_⟩, ?_, ?_⟩
      · intro w hw
        obtain ⟨a, b, q1, q2, q3⟩ := o4 w hw
        exact ⟨a, b, by omega, by omega, q3⟩
      · intro k hk
        by_cases e : k = K
        · subst e
          exact ⟨0, Nat.zero_le _, by rw [pk_us]; rfl, fun i hi => absurd hi (by omega), fun i j hi => absurd hi (by omega)⟩
        · obtain ⟨t, q1, q2, q3⟩ := o6 k (by omega)
          exact ⟨t, q1, by rw [pk_un e]; exact q2, q3⟩
      · intro k i t hk q1 q2 q3
        by_cases e : k = K
        · subst e
          rw [pk_us] at q1
          have : (0 : Nat) = t := pz_inj (by decide) (by omega) (show nI 0 = nI t from q1)
          omega
        · rw [pk_un e] at q1
          exact ht k i t (by omega) q1 q2 q3
      · intro k hk
        by_cases e : k = K
        · subst e
          rw [pk_us, pk_us]
        · rw [pk_un e, pk_un e]
          exact hc k (by omega)
  · have e : K = 12 := by omega
    subst e
    refine ⟨(-2000000000, N_knotClaim, N_turnSize, nI 12), (-2000000000, nI 12, N_turnSize, M_knotClaim), ?_, ?_, rfl, ?_⟩
    · unfold fX6_knot
      rw [if_neg (by decide)]
    · unfold fX7_knot
      rw [if_pos (show nI 12 = 12 from rfl)]
    · exact ⟨rfl, rfl, rfl, rfl, rfl, rfl, rfl, rfl, 12, n, rfl, hn, ⟨o1, o2, o3, o4, o5, o6⟩, ht, hc⟩

theorem pz_nz {x y : Nat} (hx : x < 2 ^ 31) (hy : y < 2 ^ 31) (h : x ≠ y) : ¬ nI x = nI y := fun q => h (pz_inj hx hy q)
theorem pc_wire (h : NetRel N_first N_second N_isCut N_wireClaim N_knotClaim N_turnSize N_turns N_knots N_wires N_power M_knots M_wires M_battery M_first M_second M_isCut M_turns M_turnMany M_wireClaim M_knotClaim) (x1 x2 : Int32) :
    ∃ r1 r2, fX6_wire N_first N_second N_isCut N_wireClaim N_knots N_wires x1 x2 = some r1 ∧ fX7_wire M_knots M_wires M_first M_second M_isCut M_wireClaim x1 x2 = some r2 ∧ r1.1 = r2.1 ∧
      NetRel r1.2.1 r1.2.2.1 r1.2.2.2.1 r1.2.2.2.2.1 N_knotClaim N_turnSize N_turns N_knots r1.2.2.2.2.2 N_power M_knots r2.2.1 M_battery r2.2.2.1 r2.2.2.2.1 r2.2.2.2.2.1 M_turns M_turnMany r2.2.2.2.2.2 M_knotClaim := by
  obtain ⟨e1, e2, e3, e4, e5, e6, e7, e8, K, n, hK, hn, ok, ht, hc⟩ := id h
  subst e1 e2 e3 e4 e5 e6 e7 e8
  subst hK hn
  obtain ⟨o1, o2, o3, o4, o5, o6⟩ := ok
  have no : fX6_wire N_first N_second N_isCut N_wireClaim (nI K) (nI n) x1 x2 = some (-2000000000, N_first, N_second, N_isCut, N_wireClaim, nI n) → fX7_wire (nI K) (nI n) N_first N_second N_isCut N_wireClaim x1 x2 = some (-2000000000, nI n, N_first, N_second, N_isCut, N_wireClaim) → _ := fun q1 q2 => (⟨_, _, q1, q2, rfl, h⟩ : ∃ r1 r2, fX6_wire N_first N_second N_isCut N_wireClaim (nI K) (nI n) x1 x2 = some r1 ∧ fX7_wire (nI K) (nI n) N_first N_second N_isCut N_wireClaim x1 x2 = some r2 ∧ r1.1 = r2.1 ∧
      NetRel r1.2.1 r1.2.2.1 r1.2.2.2.1 r1.2.2.2.2.1 N_knotClaim N_turnSize N_turns (nI K) r1.2.2.2.2.2 N_power (nI K) r2.2.1 N_power r2.2.2.1 r2.2.2.2.1 r2.2.2.2.2.1 M_turns N_turnSize r2.2.2.2.2.2 M_knotClaim)
  rcases pz_kn (K := K) (by omega) x1 with ⟨a, ha, rfl⟩ | ⟨z1, z2, -, -⟩
  rotate_left
  · refine no ?_ ?_
    · unfold fX6_wire; rw [z1]; rfl
    · unfold fX7_wire; rw [z2]; rfl
  obtain ⟨a1, a2, -, -⟩ := pz_kn1 (K := K) (by omega) ha
  rcases pz_kn (K := K) (by omega) x2 with ⟨b, hb, rfl⟩ | ⟨z1, z2, -, -⟩
  rotate_left
  · refine no ?_ ?_
    · unfold fX6_wire; rw [a1, pz_bnd rfl, if_neg (by decide), z1]; rfl
    · unfold fX7_wire; rw [a2, pz_bnd rfl, if_neg (by decide), z2]; rfl
  obtain ⟨b1, b2, -, -⟩ := pz_kn1 (K := K) (by omega) hb
  by_cases hab : a = b
  · refine no ?_ ?_
    · unfold fX6_wire; rw [a1, pz_bnd rfl, if_neg (by decide), b1, pz_bnd rfl, if_neg (by decide), if_pos (by rw [hab])]
    · unfold fX7_wire; rw [a2, pz_bnd rfl, if_neg (by decide), b2, pz_bnd rfl, if_neg (by decide), if_pos (by rw [hab])]
  have nab := pz_nz (x := a) (y := b) (by omega) (by omega) hab
  by_cases h22 : n < 22
  rotate_left
  · have e : n = 22 := by omega
    subst e
    refine no ?_ ?_
    · unfold fX6_wire; rw [a1, pz_bnd rfl, if_neg (by decide), b1, pz_bnd rfl, if_neg (by decide), if_neg nab, if_neg (by decide)]
    · unfold fX7_wire; rw [a2, pz_bnd rfl, if_neg (by decide), b2, pz_bnd rfl, if_neg (by decide), if_neg nab, if_pos (show nI 22 = 22 from rfl)]
  have c1 : nI n < 22 := nI_lt (b := 22) h22 (by decide)
  have c2 : ¬ nI n = 22 := pz_nz (y := 22) (by omega) (by decide) (by omega)
  have c3 : dk_in (nI n) 22 = true := pz_in h22 (by decide)
  have c4 : (nI n).toNatClampNeg = n := nI_clamp (by omega)
  have c5 : vp_nar .boolean 0 = 0 := by decide +kernel
  refine ⟨(nI n + 1 - 1, upd N_first n (nI a), upd N_second n (nI b), upd N_isCut n 0, upd N_wireClaim n 0, nI n + 1), (nI n + 1 - 1, nI n + 1, upd N_first n (nI a), upd N_second n (nI b), upd N_isCut n 0, upd N_wireClaim n 0), ?_, ?_, rfl, ?_⟩
  · unfold fX6_wire fX4_addWire
    rw [a1, pz_bnd rfl, if_neg (by decide), b1, pz_bnd rfl, if_neg (by decide), if_neg nab, if_pos c1, pz_gd c3, c4, c5]
    rfl
  · unfold fX7_wire
    rw [a2, pz_bnd rfl, if_neg (by decide), b2, pz_bnd rfl, if_neg (by decide), if_neg nab, if_neg c2, pz_gd c3, c4, c5]
    rfl
  · dsimp only
    refine ⟨rfl, rfl, rfl, rfl, rfl, rfl, rfl, rfl, K, n + 1, rfl, nI_1 n, ⟨o1, by omega, ?_, ?_, ?_, ?_⟩, ?_, hc⟩
    · rcases o3 with q | ⟨p, q1, q2, q3⟩
      · exact Or.inl q
      · exact Or.inr ⟨p, by omega, q2, by rw [pk_un (by omega)]; exact q3⟩
    · intro w hw
      by_cases e : w = n
      · subst e
        exact ⟨a, b, ha, hb, hab, by rw [pk_us], by rw [pk_us]⟩
      · rw [pk_un e, pk_un e]
        exact o4 w (by omega)
    · intro w
      by_cases e : w = n
      · subst e; rw [pk_us]; exact Or.inl rfl
      · rw [pk_un e]; exact o5 w
    · intro k hk
      obtain ⟨t, q1, q2, q3, q4⟩ := o6 k hk
      refine ⟨t, by omega, q2, fun i hi => ?_, q4⟩
      obtain ⟨w, w1, w2, w3⟩ := q3 i hi
      exact ⟨w, by omega, w2, by rw [pk_un (by omega), pk_un (by omega)]; exact w3⟩
    · intro k i t hk q1 q2 q3
      obtain ⟨t', p1, p2, -, -⟩ := o6 k hk
      have : t = t' := pz_inj (by omega) (by omega) (q1.symm.trans p2)
      exact ht k i t hk q1 (by omega) q3
theorem pc_clear (h : NetRel N_first N_second N_isCut N_wireClaim N_knotClaim N_turnSize N_turns N_knots N_wires N_power M_knots M_wires M_battery M_first M_second M_isCut M_turns M_turnMany M_wireClaim M_knotClaim) :
    ∃ r1 r2, fX6_clear N_knots N_wires N_power = some r1 ∧ fX7_clear M_knots M_wires M_battery = some r2 ∧ r1.1 = r2.1 ∧
      NetRel N_first N_second N_isCut N_wireClaim N_knotClaim N_turnSize N_turns r1.2.1 r1.2.2.1 r1.2.2.2 r2.2.1 r2.2.2.1 r2.2.2.2 M_first M_second M_isCut M_turns M_turnMany M_wireClaim M_knotClaim := by
  obtain ⟨e1, e2, e3, e4, e5, e6, e7, e8, K, n, hK, hn, ok, ht, hc⟩ := id h
  subst e1 e2 e3 e4 e5 e6 e7 e8
  refine ⟨(N_wires, 0, 0, -1), (N_wires, 0, 0, -1), rfl, rfl, rfl, ?_⟩
  refine ⟨rfl, rfl, rfl, rfl, rfl, rfl, rfl, rfl, 0, 0, rfl, rfl, ⟨by omega, by omega, Or.inl rfl, fun w hw => absurd hw (by omega), ok.2.2.2.2.1, fun k hk => absurd hk (by omega)⟩, fun k i t hk => absurd hk (by omega), fun k hk => absurd hk (by omega)⟩
theorem pc_battery (h : NetRel N_first N_second N_isCut N_wireClaim N_knotClaim N_turnSize N_turns N_knots N_wires N_power M_knots M_wires M_battery M_first M_second M_isCut M_turns M_turnMany M_wireClaim M_knotClaim) (x1 : Int32) :
    ∃ r1 r2, fX6_battery N_isCut N_wires N_power x1 = some r1 ∧ fX7_battery M_wires M_battery M_isCut x1 = some r2 ∧ r1.1 = r2.1 ∧
      NetRel N_first N_second r1.2.1 N_wireClaim N_knotClaim N_turnSize N_turns N_knots N_wires r1.2.2 M_knots M_wires r2.2.1 M_first M_second r2.2.2 M_turns M_turnMany M_wireClaim M_knotClaim := by
  obtain ⟨e1, e2, e3, e4, e5, e6, e7, e8, K, n, hK, hn, ok, ht, hc⟩ := id h
  subst e1 e2 e3 e4 e5 e6 e7 e8
  subst hK hn
  obtain ⟨o1, o2, o3, o4, o5, o6⟩ := ok
  by_cases hm : x1 = -1
  · subst hm
    refine ⟨(N_power, N_isCut, -1), (N_power, -1, N_isCut), rfl, ?_, rfl, ?_⟩
    · unfold fX7_battery jX7_battery_16
      rw [if_pos rfl, if_pos (by decide)]
    · exact ⟨rfl, rfl, rfl, rfl, rfl, rfl, rfl, rfl, K, n, rfl, rfl, ⟨o1, o2, Or.inl rfl, o4, o5, o6⟩, ht, hc⟩
  rcases pz_kn (K := n) (by omega) x1 with ⟨a, ha, rfl⟩ | ⟨-, -, z1, z2⟩
  rotate_left
  · refine ⟨(-2000000000, N_isCut, N_power), (-2000000000, N_power, N_isCut), ?_, ?_, rfl, h⟩
    · unfold fX6_battery; rw [if_neg hm, z1]; rfl
    · unfold fX7_battery; rw [if_neg hm, z2]; rfl
  obtain ⟨-, -, a1, a2⟩ := pz_kn1 (K := n) (by omega) ha
  have c3 : dk_in (nI a) 22 = true := pz_in (by omega) (by decide)
  have c4 : (nI a).toNatClampNeg = a := nI_clamp (by omega)
  have c5 : vp_nar .boolean 0 = 0 := by decide +kernel
  refine ⟨(N_power, upd N_isCut a 0, nI a), (N_power, nI a, upd N_isCut a 0), ?_, ?_, rfl, ?_⟩
  · unfold fX6_battery jX6_battery_19
    rw [if_neg hm, a1, pz_bnd rfl, if_neg (by decide), if_neg hm, pz_gd c3, c4, c5]
    rfl
  · unfold fX7_battery jX7_battery_16
    rw [if_neg hm, a2, pz_bnd rfl, if_neg (by decide), if_neg (nI_pos (by omega)), pz_gd c3, c4, c5]
    rfl
  · dsimp only
    refine ⟨rfl, rfl, rfl, rfl, rfl, rfl, rfl, rfl, K, n, rfl, rfl, ⟨o1, o2, Or.inr ⟨a, ha, rfl, by rw [pk_us]⟩, o4, ?_, o6⟩, ht, hc⟩
    intro w
    by_cases e : w = a
    · subst e; rw [pk_us]; exact Or.inl rfl
    · rw [pk_un e]; exact o5 w
theorem pc_cut (h : NetRel N_first N_second N_isCut N_wireClaim N_knotClaim N_turnSize N_turns N_knots N_wires N_power M_knots M_wires M_battery M_first M_second M_isCut M_turns M_turnMany M_wireClaim M_knotClaim) (x1 x2 : Int32) (hx : x2 = 0 ∨ x2 = 1) :
    ∃ r1 r2, fX6_cut N_isCut N_wires N_power x1 x2 = some r1 ∧ fX7_cut M_wires M_battery M_isCut x1 x2 = some r2 ∧ r1.1 = r2.1 ∧
      NetRel N_first N_second r1.2 N_wireClaim N_knotClaim N_turnSize N_turns N_knots N_wires N_power M_knots M_wires M_battery M_first M_second r2.2 M_turns M_turnMany M_wireClaim M_knotClaim := by
  obtain ⟨e1, e2, e3, e4, e5, e6, e7, e8, K, n, hK, hn, ok, ht, hc⟩ := id h
  subst e1 e2 e3 e4 e5 e6 e7 e8
  subst hK hn
  obtain ⟨o1, o2, o3, o4, o5, o6⟩ := ok
  rcases pz_kn (K := n) (by omega) x1 with ⟨a, ha, rfl⟩ | ⟨-, -, z1, z2⟩
  rotate_left
  · refine ⟨(-2000000000, N_isCut), (-2000000000, N_isCut), ?_, ?_, rfl, h⟩
    · unfold fX6_cut; rw [z1]; rfl
    · unfold fX7_cut; rw [z2]; rfl
  obtain ⟨-, -, a1, a2⟩ := pz_kn1 (K := n) (by omega) ha
  by_cases hp : nI a = N_power
  · refine ⟨(-2000000000, N_isCut), (-2000000000, N_isCut), ?_, ?_, rfl, h⟩
    · unfold fX6_cut; rw [a1, pz_bnd rfl, if_neg (by decide), if_pos hp]
    · unfold fX7_cut; rw [a2, pz_bnd rfl, if_neg (by decide), if_pos hp]
  have c3 : dk_in (nI a) 22 = true := pz_in (by omega) (by decide)
  have c4 : (nI a).toNatClampNeg = a := nI_clamp (by omega)
  have c5 : vp_nar .boolean x2 = x2 := by rcases hx with rfl | rfl <;> decide +kernel
  have fin : ∀ v : Int32, NetRel N_first N_second (v, upd N_isCut a x2).2 N_wireClaim N_knotClaim N_turnSize N_turns (nI K) (nI n) N_power (nI K) (nI n) N_power N_first N_second (v, upd N_isCut a x2).2 M_turns N_turnSize N_wireClaim M_knotClaim := by
    intro v
    refine ⟨rfl, rfl, rfl, rfl, rfl, rfl, rfl, rfl, K, n, rfl, rfl, ⟨o1, o2, ?_, o4, ?_, o6⟩, ht, hc⟩
    · rcases o3 with q | ⟨p, q1, q2, q3⟩
      · exact Or.inl q
      · refine Or.inr ⟨p, q1, q2, ?_⟩
        have e : p ≠ a := fun q => hp (by rw [← q]; exact q2.symm)
        show upd N_isCut a x2 p = 0
        rw [pk_un e]
        exact q3
    · intro w
      show upd N_isCut a x2 w = 0 ∨ upd N_isCut a x2 w = 1
      by_cases e : w = a
      · subst e; rw [pk_us]; exact hx
      · rw [pk_un e]; exact o5 w
  by_cases hz : N_isCut a = 0
  · refine ⟨(0, upd N_isCut a x2), (0, upd N_isCut a x2), ?_, ?_, rfl, fin 0⟩
    · unfold fX6_cut jX6_cut_42
      rw [a1, pz_bnd rfl, if_neg (by decide), if_neg hp, pz_gd c3, c4, if_pos hz, pz_gd c3, c5]
      rfl
    · unfold fX7_cut
      rw [a2, pz_bnd rfl, if_neg (by decide), if_neg hp, pz_gd c3, c4, c5, pz_let, pz_let, if_pos hz]
  · refine ⟨(1, upd N_isCut a x2), (1, upd N_isCut a x2), ?_, ?_, rfl, fin 1⟩
    · unfold fX6_cut jX6_cut_42
      rw [a1, pz_bnd rfl, if_neg (by decide), if_neg hp, pz_gd c3, c4, if_neg hz, pz_gd c3, c5]
      rfl
    · unfold fX7_cut
      rw [a2, pz_bnd rfl, if_neg (by decide), if_neg hp, pz_gd c3, c4, c5, pz_let, pz_let, if_neg hz]
end

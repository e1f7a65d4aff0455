/-! ===== PURE 8: lay agrees ===== -/
section
variable {N_first N_second N_isCut N_wireClaim N_knotClaim N_turnSize N_turns : Nat → Int32} {N_knots N_wires N_power : Int32} {M_knots M_wires M_battery : Int32} {M_first M_second M_isCut M_turns M_turnMany M_wireClaim M_knotClaim : Nat → Int32}
theorem pc_lay (h : NetRel N_first N_second N_isCut N_wireClaim N_knotClaim N_turnSize N_turns N_knots N_wires N_power M_knots M_wires M_battery M_first M_second M_isCut M_turns M_turnMany M_wireClaim M_knotClaim) (x1 x2 : Int32) :
    ∃ r1 r2, fX6_lay N_first N_second N_turnSize N_turns N_knots N_wires x1 x2 = some r1 ∧ fX7_lay M_knots M_wires M_first M_second M_turns M_turnMany x1 x2 = some r2 ∧ r1.1 = r2.1 ∧
      NetRel N_first N_second N_isCut N_wireClaim N_knotClaim r1.2.1 r1.2.2 N_knots N_wires N_power M_knots M_wires M_battery M_first M_second M_isCut r2.2.1 r2.2.2 M_wireClaim M_knotClaim := by
  obtain ⟨e1, e2, e3, e4, e5, e6, e7, e8, K, n, hK, hn, ok, ht, hc⟩ := id h
  subst e1 e2 e3 e4 e5 e6 e7 e8
  subst hK hn
  obtain ⟨o1, o2, o3, o4, o5, o6⟩ := ok
  have no : fX6_lay N_first N_second N_turnSize N_turns (nI K) (nI n) x1 x2 = some (-2000000000, N_turnSize, N_turns) → fX7_lay (nI K) (nI n) N_first N_second M_turns N_turnSize x1 x2 = some (-2000000000, M_turns, N_turnSize) → _ := fun q1 q2 => (⟨_, _, q1, q2, rfl, h⟩ : ∃ r1 r2, fX6_lay N_first N_second N_turnSize N_turns (nI K) (nI n) x1 x2 = some r1 ∧ fX7_lay (nI K) (nI n) N_first N_second M_turns N_turnSize x1 x2 = some r2 ∧ r1.1 = r2.1 ∧
      NetRel N_first N_second N_isCut N_wireClaim N_knotClaim r1.2.1 r1.2.2 (nI K) (nI n) N_power (nI K) (nI n) N_power N_first N_second N_isCut r2.2.1 r2.2.2 N_wireClaim M_knotClaim)
  rcases pz_kn (K := K) (by omega) x1 with ⟨k, hk, rfl⟩ | ⟨z1, z2, -, -⟩
  rotate_left
  · refine no ?_ ?_
    · unfold fX6_lay; rw [z1]; rfl
    · unfold fX7_lay; rw [z2]; rfl
  obtain ⟨a1, a2, -, -⟩ := pz_kn1 (K := K) (by omega) hk
  rcases pz_kn (K := n) (by omega) x2 with ⟨w, hw, rfl⟩ | ⟨-, -, z1, z2⟩
  rotate_left
  · refine no ?_ ?_
    · unfold fX6_lay; rw [a1, pz_bnd rfl, if_neg (by decide), z1]; rfl
    · unfold fX7_lay; rw [a2, pz_bnd rfl, if_neg (by decide), z2]; rfl
  obtain ⟨-, -, b1, b2⟩ := pz_kn1 (K := n) (by omega) hw
  have c3 : dk_in (nI w) 22 = true := pz_in (by omega) (by decide)
  have c4 : (nI w).toNatClampNeg = w := nI_clamp (by omega)
  have k3 : dk_in (nI k) 12 = true := pz_in (by omega) (by decide)
  have k4 : (nI k).toNatClampNeg = k := nI_clamp (by omega)
  by_cases hend : N_first w = nI k ∨ N_second w = nI k
  rotate_left
  · have n1 : ¬ N_first w = nI k := fun q => hend (Or.inl q)
    have n2 : ¬ N_second w = nI k := fun q => hend (Or.inr q)
    refine no ?_ ?_
    · unfold fX6_lay fX4_endsAt
      rw [a1, pz_bnd rfl, if_neg (by decide), b1, pz_bnd rfl, if_neg (by decide), pz_gd c3, c4, if_neg n1, if_neg n2]
      rfl
    · unfold fX7_lay
      rw [a2, pz_bnd rfl, if_neg (by decide), b2, pz_bnd rfl, if_neg (by decide), pz_gd c3, c4, if_neg n1, if_neg n2]
  have ends : fX4_endsAt N_first N_second (nI w) (nI k) = some 1 := by
    unfold fX4_endsAt jX4_endsAt_20
    rw [pz_gd c3, c4]
    rcases hend with q | q
    · rw [if_pos q]
    · by_cases q2 : N_first w = nI k
      · rw [if_pos q2]
      · rw [if_neg q2, if_pos q]
  obtain ⟨t, t1, t2, t3, t4⟩ := o6 k hk
  obtain ⟨v, v1, v2⟩ := pz_spot4 (tu := N_turns) (by omega) t2 (by omega) (nI w)
  obtain ⟨v', v1', v2'⟩ := pz_spot7 (tu := M_turns) (by omega) t2 (by omega) (nI w)
  have hv : v = v' := pz_spotEq (by omega) (fun i hi => ht k i t hk t2 t1 hi) v2 v2'
  subst hv
  have l7 : fX7_lay (nI K) (nI n) N_first N_second M_turns N_turnSize (nI k) (nI w) = jX7_lay_36 (nI K) (nI n) N_first N_second M_turns N_turnSize (nI k) (nI w) := by
    unfold fX7_lay
    rw [a2, pz_bnd rfl, if_neg (by decide), b2, pz_bnd rfl, if_neg (by decide), pz_gd c3, c4]
    by_cases q2 : N_first w = nI k
    · rw [if_pos q2]
    · rcases hend with q | q
      · exact absurd q q2
      · rw [if_neg q2, if_pos q]
  rcases v2 with ⟨i, i1, i2, i3, -⟩ | ⟨i1, i2⟩
  · refine no ?_ ?_
    · unfold fX6_lay
      rw [a1, pz_bnd rfl, if_neg (by decide), b1, pz_bnd rfl, if_neg (by decide), ends, pz_bnd rfl, if_neg (by decide), v1, pz_bnd rfl, if_neg (by rw [i3]; exact pz_m1 (by omega))]
    · rw [l7]
      unfold jX7_lay_36
      rw [v1', pz_bnd rfl, if_neg (by rw [i3]; exact nI_pos (by omega))]
  · subst i1
    -- there is room: the t wires in the turn and w are different wires of n
    have room : t + 1 ≤ n := by
      have hch : ∀ i, i < t → ∃ u, u < n ∧ N_turns (22 * k + i) = nI u := fun i hi => by
        obtain ⟨u, u1, u2, -⟩ := t3 i hi
        exact ⟨u, u1, u2⟩
      refine pz_pigeon n (t + 1) (fun i => if i < t then (N_turns (22 * k + i)).toNatClampNeg else w) ?_ ?_
      · intro i hi
        by_cases q : i < t
        · obtain ⟨u, u1, u2⟩ := hch i q
          rw [if_pos q, u2, nI_clamp (by omega)]
          exact u1
        · rw [if_neg q]; exact hw
      · intro i j hi hj e
        by_cases q : i < t
        · obtain ⟨u, u1, u2⟩ := hch i q
          by_cases q' : j < t
          · obtain ⟨u', u1', u2'⟩ := hch j q'
            rw [if_pos q, if_pos q', u2, u2', nI_clamp (by omega), nI_clamp (by omega)] at e
            exact t4 i j q q' (by rw [u2, u2', e])
          · rw [if_pos q, if_neg q', u2, nI_clamp (by omega)] at e
            exact absurd (by rw [u2, e]) (i2 i q)
        · by_cases q' : j < t
          · obtain ⟨u', u1', u2'⟩ := hch j q'
            rw [if_neg q, if_pos q', u2', nI_clamp (by omega)] at e
            exact absurd (by rw [u2', ← e]) (i2 j q')
          · omega
    have d3 : dk_in (nI (22 * k + t)) 264 = true := pz_in (by omega) (by decide)
    have d4 : (nI (22 * k + t)).toNatClampNeg = 22 * k + t := nI_clamp (by omega)
    refine ⟨(upd N_turnSize k (nI t + 1) k, upd N_turnSize k (nI t + 1), upd N_turns (22 * k + t) (nI w)), (upd N_turnSize k (nI t + 1) k, upd M_turns (22 * k + t) (nI w), upd N_turnSize k (nI t + 1)), ?_, ?_, rfl, ?_⟩
    · unfold fX6_lay fX4_addToTurn
      rw [a1, pz_bnd rfl, if_neg (by decide), b1, pz_bnd rfl, if_neg (by decide), ends, pz_bnd rfl, if_neg (by decide), v1, pz_bnd rfl, if_pos rfl, pz_gd k3, k4, t2, if_neg (show ¬ (22 : Int32) ≤ nI t from nI_ge (b := 22) (by omega) (by decide)), pz_22, pz_gd d3, d4]
      show dk_gd (dk_in (nI k) 12) (some (upd N_turnSize k (nI t + 1) k, upd N_turnSize k (nI t + 1), upd N_turns (22 * k + t) (nI w))) = _
      rw [pz_gd k3]
    · rw [l7]
      unfold jX7_lay_36
      rw [v1', pz_bnd rfl, if_pos (by decide), pz_gd k3, k4, t2, pz_22', pz_gd d3, d4]
      rfl
    · dsimp only
      refine ⟨rfl, rfl, rfl, rfl, rfl, rfl, rfl, rfl, K, n, rfl, rfl, ⟨o1, o2, o3, o4, o5, ?_⟩, ?_, hc⟩
      · intro k' hk'
        by_cases e : k' = k
        · subst e
          refine ⟨t + 1, room, by rw [pk_us]; exact nI_1 t, ?_, ?_⟩
          · intro i hi
            by_cases q : i = t
            · subst q
              rw [pk_us]
              exact ⟨w, hw, rfl, hend⟩
            · rw [pk_un (by omega)]
              exact t3 i (by omega)
          · intro i j hi hj ee
            by_cases q : i = t
            · by_cases q' : j = t
              · omega
              · subst q
                rw [pk_us, pk_un (by omega)] at ee
                exact absurd ee.symm (i2 j (by omega))
            · by_cases q' : j = t
              · subst q'
                rw [pk_us, pk_un (by omega)] at ee
                exact absurd ee (i2 i (by omega))
              · rw [pk_un (by omega), pk_un (by omega)] at ee
                exact t4 i j (by omega) (by omega) ee
        · obtain ⟨t', p1, p2, p3, p4⟩ := o6 k' hk'
          refine ⟨t', p1, by rw [pk_un e]; exact p2, ?_, ?_⟩
          · intro i hi
            rw [pk_un (by omega)]
            exact p3 i hi
          · intro i j hi hj ee
            rw [pk_un (by omega), pk_un (by omega)] at ee
            exact p4 i j hi hj ee
      · intro k' i t' hk' q1 q2 q3
        by_cases e : k' = k
        · subst e
          rw [pk_us] at q1
          have : t + 1 = t' := pz_inj (by omega) (by omega) ((nI_1 t).symm.trans q1)
          by_cases q : i = t
          · subst q
            rw [pk_us, pk_us]
          · rw [pk_un (by omega), pk_un (by omega)]
            exact ht k' i t hk' t2 t1 (by omega)
        · rw [pk_un e] at q1
          rw [pk_un (by omega), pk_un (by omega)]
          exact ht k' i t' hk' q1 q2 q3
end

/-! ===== PURE 3: alter, count ===== -/
section
variable {D_left D_low D_side : Nat → Int32} {D_howMany : Int32} {M_told : Int32} {M_left M_low M_side : Nat → Int32}
theorem pz_what (x : Int32) : (x = 0 ∨ x = 1 ∨ x = 2) ∨ ((x < 0 ∨ 2 < x) ∧ fX7_in x 0 2 = some 0) := by
  by_cases h : x < 0
  · refine Or.inr ⟨Or.inl h, ?_⟩
    unfold fX7_in; rw [if_pos h]
  · by_cases h2 : 2 < x
    · refine Or.inr ⟨Or.inr h2, ?_⟩
      unfold fX7_in; rw [if_neg h, if_pos h2]
    · left
      obtain ⟨j, hj, rfl⟩ := nI_of h
      have h3 : ¬ (2 < j) := fun q => h2 (nI_lt (a := 2) q hj)
      rcases (show j = 0 ∨ j = 1 ∨ j = 2 by omega) with rfl | rfl | rfl
      · exact Or.inl rfl
      · exact Or.inr (Or.inl rfl)
      · exact Or.inr (Or.inr rfl)
theorem pc_alter (h : ToldRel D_left D_low D_side D_howMany M_told M_left M_low M_side) (x1 x2 x3 : Int32) :
    ∃ r1 r2, fX6_alter D_left D_low D_side D_howMany x1 x2 x3 = some r1 ∧ fX7_alter M_told M_left M_low M_side x1 x2 x3 = some r2 ∧ r1.1 = r2.1 ∧ ToldRel r1.2.1 r1.2.2.1 r1.2.2.2 D_howMany M_told r2.2.1 r2.2.2.1 r2.2.2.2 := by
  obtain ⟨e1, T, hT, h1, h2⟩ := id h
  subst e1
  subst hT
  have no : fX6_alter D_left D_low D_side (nI T) x1 x2 x3 = some (-2000000000, D_left, D_low, D_side) → fX7_alter (nI T) M_left M_low M_side x1 x2 x3 = some (-2000000000, M_left, M_low, M_side) → _ := fun q1 q2 => (⟨_, _, q1, q2, rfl, h⟩ : ∃ r1 r2, fX6_alter D_left D_low D_side (nI T) x1 x2 x3 = some r1 ∧ fX7_alter (nI T) M_left M_low M_side x1 x2 x3 = some r2 ∧ r1.1 = r2.1 ∧ ToldRel r1.2.1 r1.2.2.1 r1.2.2.2 (nI T) (nI T) r2.2.1 r2.2.2.1 r2.2.2.2)
  rcases pz_kn (K := T) (by omega) x1 with ⟨i, hi, rfl⟩ | ⟨y1, y2, -, -⟩
  rotate_left
  · have y3 : fX7_in x1 0 (nI T - 1) = some 0 := by
      unfold fX7_isKnot at y2
      obtain ⟨z, q1, q2⟩ := dk_bnd_to y2
      obtain ⟨-, q3⟩ := dk_gd_to q2
      rw [q1, q3]
    refine no ?_ ?_
    · unfold fX6_alter
      by_cases hx : x1 < 0
      · rw [if_pos hx]
      · rw [if_neg hx]
        unfold fX4_isKnot at y1
        rw [if_neg hx] at y1
        by_cases hle : nI T ≤ x1
        · rw [if_pos hle]
        · rw [if_neg hle] at y1
          exact absurd (Option.some.inj y1) (by decide)
    · unfold fX7_alter; rw [y3]; rfl
  obtain ⟨-, b2, -, -⟩ := pz_kn1 (K := T) (by omega) hi
  have b3 : fX7_in (nI i) 0 (nI T - 1) = some 1 := by
    unfold fX7_isKnot at b2
    obtain ⟨z, q1, q2⟩ := dk_bnd_to b2
    obtain ⟨-, q3⟩ := dk_gd_to q2
    rw [q1, q3]
  have c1 : ¬ nI i < 0 := nI_pos (by omega)
  have c2 : ¬ nI T ≤ nI i := nI_ge hi (by omega)
  have c3 : dk_in (nI i) 21 = true := pz_in (by omega) (by decide)
  have c4 : (nI i).toNatClampNeg = i := nI_clamp (by omega)
  rcases pz_what x2 with hw | ⟨hw, hw7⟩
  rotate_left
  · refine no ?_ ?_
    · unfold fX6_alter
      rw [if_neg c1, if_neg c2]
      rcases hw with q | q
      · rw [if_pos q]
      · have : ¬ x2 < 0 := by
          rw [Int32.lt_iff_toInt_lt] at q ⊢
          have e0 : (0 : Int32).toInt = 0 := by decide
          have e2 : (2 : Int32).toInt = 2 := by decide
          omega
        rw [if_neg this, if_pos q]
    · unfold fX7_alter
      rw [b3, pz_bnd rfl, if_neg (by decide), hw7]
      rfl
  have d1 : ¬ x2 < 0 := by rcases hw with rfl | rfl | rfl <;> decide
  have d2 : ¬ 2 < x2 := by rcases hw with rfl | rfl | rfl <;> decide
  have d3 : fX7_in x2 0 2 = some 1 := by rcases hw with rfl | rfl | rfl <;> decide
  rcases pz_can x2 x3 with z | ⟨z, a, a1, a2, a3⟩
  · refine no ?_ ?_
    · unfold fX6_alter; rw [if_neg c1, if_neg c2, if_neg d1, if_neg d2, z]; rfl
    · unfold fX7_alter; rw [b3, pz_bnd rfl, if_neg (by decide), d3, pz_bnd rfl, if_neg (by decide), ← pz_canM, z]; rfl
  obtain ⟨g1, g2, g3, p, q, r, p1, q1, r0, r1, p2, q2, r2⟩ := h2 i hi
  have upds : ∀ (f g : Nat → Int32) (k : Nat), f k = g k → upd f i x3 k = upd g i x3 k := by
    intro f g k e
    by_cases ek : k = i
    · subst ek; rw [pk_us, pk_us]
    · rw [pk_un ek, pk_un ek]; exact e
  rcases hw with rfl | rfl | rfl
  · refine ⟨(D_left i, upd D_left i x3, D_low, D_side), (M_left i, upd M_left i x3, M_low, M_side), ?_, ?_, g1, ?_⟩
    · unfold fX6_alter fX5_tellOne fX5_setOne
      rw [if_neg c1, if_neg c2, if_neg d1, if_neg d2, z, pz_bnd rfl, if_neg (by decide), if_pos rfl, if_pos rfl, pz_gd c3, pz_gd c3, c4]
      rfl
    · unfold fX7_alter jX7_alter_67
      rw [b3, pz_bnd rfl, if_neg (by decide), d3, pz_bnd rfl, if_neg (by decide), ← pz_canM, z, pz_bnd rfl, if_neg (by decide), if_pos rfl, if_pos rfl, pz_gd c3, pz_gd c3, c4]
      rfl
    · refine ⟨rfl, T, rfl, h1, fun k hk => ?_⟩
      obtain ⟨u1, u2, u3, u⟩ := h2 k hk
      refine ⟨upds _ _ _ u1, u2, u3, ?_⟩
      by_cases ek : k = i
      · subst ek
        exact ⟨a, q, r, by omega, q1, r0, r1, by show upd D_left k x3 k = nI a; rw [pk_us]; exact a2, q2, r2⟩
      · obtain ⟨a', b', c', v1, v2, v3, v4, v5, v6⟩ := u
        exact ⟨a', b', c', v1, v2, v3, v4, by show upd D_left i x3 k = nI a'; rw [pk_un ek]; exact v5, v6⟩
  · refine ⟨(D_low i, D_left, upd D_low i x3, D_side), (M_low i, M_left, upd M_low i x3, M_side), ?_, ?_, g2, ?_⟩
    · unfold fX6_alter fX5_tellOne fX5_setOne
      rw [if_neg c1, if_neg c2, if_neg d1, if_neg d2, z, pz_bnd rfl, if_neg (by decide), if_neg (by decide), if_pos rfl, if_neg (by decide), if_pos rfl, pz_gd c3, pz_gd c3, c4]
      rfl
    · unfold fX7_alter jX7_alter_67
      rw [b3, pz_bnd rfl, if_neg (by decide), d3, pz_bnd rfl, if_neg (by decide), ← pz_canM, z, pz_bnd rfl, if_neg (by decide), if_neg (by decide), if_pos rfl, if_neg (by decide), if_pos rfl, pz_gd c3, pz_gd c3, c4]
      rfl
    · refine ⟨rfl, T, rfl, h1, fun k hk => ?_⟩
      obtain ⟨u1, u2, u3, u⟩ := h2 k hk
      refine ⟨u1, upds _ _ _ u2, u3, ?_⟩
      by_cases ek : k = i
      · subst ek
        exact ⟨p, a, r, p1, by omega, r0, r1, p2, by show upd D_low k x3 k = nI a; rw [pk_us]; exact a2, r2⟩
      · obtain ⟨a', b', c', v1, v2, v3, v4, v5, v6, v7⟩ := u
        exact ⟨a', b', c', v1, v2, v3, v4, v5, by show upd D_low i x3 k = nI b'; rw [pk_un ek]; exact v6, v7⟩
  · refine ⟨(D_side i, D_left, D_low, upd D_side i x3), (M_side i, M_left, M_low, upd M_side i x3), ?_, ?_, g3, ?_⟩
    · unfold fX6_alter fX5_tellOne fX5_setOne
      rw [if_neg c1, if_neg c2, if_neg d1, if_neg d2, z, pz_bnd rfl, if_neg (by decide), if_neg (by decide), if_neg (by decide), if_neg (by decide), if_neg (by decide), pz_gd c3, pz_gd c3, c4]
      rfl
    · unfold fX7_alter jX7_alter_67
      rw [b3, pz_bnd rfl, if_neg (by decide), d3, pz_bnd rfl, if_neg (by decide), ← pz_canM, z, pz_bnd rfl, if_neg (by decide), if_neg (by decide), if_neg (by decide), if_neg (by decide), if_neg (by decide), pz_gd c3, pz_gd c3, c4]
      rfl
    · refine ⟨rfl, T, rfl, h1, fun k hk => ?_⟩
      obtain ⟨u1, u2, u3, u⟩ := h2 k hk
      refine ⟨u1, u2, upds _ _ _ u3, ?_⟩
      by_cases ek : k = i
      · subst ek
        exact ⟨p, q, a, p1, q1, a3 rfl, by omega, p2, q2, by show upd D_side k x3 k = nI a; rw [pk_us]; exact a2⟩
      · obtain ⟨a', b', c', v1, v2, v3, v4, v5, v6, v7⟩ := u
        exact ⟨a', b', c', v1, v2, v3, v4, v5, v6, by show upd D_side i x3 k = nI c'; rw [pk_un ek]; exact v7⟩
theorem pc_count {N_knots N_wires N_power M_knots M_wires M_battery : Int32} (e1 : N_knots = M_knots) (e2 : N_wires = M_wires) (e3 : N_power = M_battery) (e4 : D_howMany = M_told) (x1 : Int32) :
    ∃ r1 r2, fX6_count N_knots N_wires N_power D_howMany x1 = some r1 ∧ fX7_count M_knots M_wires M_battery M_told x1 = some r2 ∧ r1 = r2 := by
  subst e1 e2 e3 e4
  unfold fX6_count fX7_count
  by_cases h0 : x1 = 0
  · rw [if_pos h0]; exact ⟨_, _, rfl, rfl, rfl⟩
  rw [if_neg h0]
  by_cases h1 : x1 = 1
  · rw [if_pos h1]; exact ⟨_, _, rfl, rfl, rfl⟩
  rw [if_neg h1]
  by_cases h2 : x1 = 2
  · rw [if_pos h2]; exact ⟨_, _, rfl, rfl, rfl⟩
  rw [if_neg h2]
  by_cases h3 : x1 = 3
  · rw [if_pos h3]; exact ⟨_, _, rfl, rfl, rfl⟩
  rw [if_neg h3]
  exact ⟨_, _, rfl, rfl, rfl⟩
end

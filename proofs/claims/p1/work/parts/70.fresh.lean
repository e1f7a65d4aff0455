/-! ===== a fresh object: every call answers alike ===== -/
theorem z_ex {α β : Type} {x : Option α} (g : α → β) (v : β) (h : x.map g = some v) : ∃ r, x = some r ∧ g r = v := by
  cases x with
  | none => cases h
  | some a => exact ⟨a, rfl, Option.some.inj h⟩
theorem pz0_bnd {α β : Type} {x : Option α} {a : α} {k : α → Option β} (h : x = some a) : dk_bnd x k = k a := by subst h; rfl
theorem z_pos {x : Int32} (h : ¬ x < 0) : 0 ≤ x := by
  rw [Int32.lt_iff_toInt_lt] at h
  rw [Int32.le_iff_toInt_le]
  omega
theorem z_isK (x : Int32) : fX4_isKnot 0 x = some 0 := by
  unfold fX4_isKnot
  by_cases h : x < 0
  · rw [if_pos h]
  · rw [if_neg h, if_pos (z_pos h)]
theorem z_isW (x : Int32) : fX4_isWire 0 x = some 0 := by
  unfold fX4_isWire
  by_cases h : x < 0
  · rw [if_pos h]
  · rw [if_neg h, if_pos (z_pos h)]
theorem z_m1 {x : Int32} (h : ¬ x < 0) : (0 : Int32) - 1 < x := by
  have h0 := z_pos h
  rw [Int32.le_iff_toInt_le] at h0
  rw [Int32.lt_iff_toInt_lt]
  have e : ((0 : Int32) - 1).toInt = -1 := by decide
  have e0 : (0 : Int32).toInt = 0 := by decide
  omega
theorem z7_in (x : Int32) : fX7_in x 0 (0 - 1) = some 0 := by
  unfold fX7_in
  by_cases h : x < 0
  · rw [if_pos h]
  · rw [if_neg h, if_pos (z_m1 h)]
theorem z7_isK (x : Int32) : fX7_isKnot 0 x = some 0 := by
  unfold fX7_isKnot
  rw [z7_in]
  rfl
theorem z7_isW (x : Int32) : fX7_isWire 0 x = some 0 := by
  unfold fX7_isWire
  rw [z7_in]
  rfl
theorem z_can (w x : Int32) : fX5_canBe w x = fX7_mayBe w x := by
  have q : ∀ b : Int32, jX5_canBe_11 x x b = jX7_mayBe_11 x b := by
    intro b
    unfold jX5_canBe_11 jX7_mayBe_11 fX7_in
    by_cases h : x < b
    · rw [if_pos h]; rfl
    · rw [if_neg h]
      by_cases h2 : 1000000 < x
      · rw [if_pos h2]; rfl
      · rw [if_neg h2]; rfl
  unfold fX5_canBe fX7_mayBe
  rw [q, q]
theorem z_can01 (w x : Int32) : fX5_canBe w x = some 0 ∨ fX5_canBe w x = some 1 := by
  unfold fX5_canBe jX5_canBe_11
  by_cases h0 : w = 2
  · rw [if_pos h0]
    by_cases h : x < 1
    · rw [if_pos h]; exact Or.inl rfl
    · rw [if_neg h]
      by_cases h2 : 1000000 < x
      · rw [if_pos h2]; exact Or.inl rfl
      · rw [if_neg h2]; exact Or.inr rfl
  · rw [if_neg h0]
    by_cases h : x < 0
    · rw [if_pos h]; exact Or.inl rfl
    · rw [if_neg h]
      by_cases h2 : 1000000 < x
      · rw [if_pos h2]; exact Or.inl rfl
      · rw [if_neg h2]; exact Or.inr rfl
theorem z0_cause : fX6_findCause (fun _ => 0) (fun _ => 0) (fun _ => 0) (fun _ => 0) (fun _ => 0) 0 0 (-1) (fun _ => 0) (fun _ => 0) 0 = some (1, (fun _ => 0), (fun _ => 0), 0) := by
  unfold fX6_findCause
  rw [if_pos rfl]
theorem z7_cause : fX7_causeOf 0 0 (-1) (fun _ => 0) (fun _ => 0) (fun _ => 0) (fun _ => 0) (fun _ => 0) (fun _ => 0) 0 = some (1, (fun _ => 0), 0) := by
  unfold fX7_causeOf
  rw [if_neg (by decide)]
theorem z_letFlow : fX6_letFlow (fun _ => 0) (fun _ => 0) (fun _ => 0) (fun _ => 0) (fun _ => 0) 0 0 (-1) (fun _ => 0) (fun _ => 0) 0 (fun _ => 0) (fun _ => 0) (fun _ => 0) (fun _ => 0) (fun _ => 0) 0 0 0 = some (0, (fun _ => 0), (fun _ => 0), 0, (fun _ => 0), (fun _ => 0), (fun _ => 0), (fun _ => 0), (fun _ => 0), 0, 0, 0) := by
  unfold fX6_letFlow
  rw [z0_cause, pz0_bnd rfl, if_neg (by decide)]
theorem z_layOut : fX6_layOut (fun _ => 0) (fun _ => 0) (fun _ => 0) (fun _ => 0) (fun _ => 0) 0 0 (-1) (fun _ => 0) (fun _ => 0) 0 (fun _ => 0) (fun _ => 0) (fun _ => 0) (fun _ => 0) (fun _ => 0) 0 0 0 (fun _ => 0) 0 (fun _ => 0) (fun _ => 0) (fun _ => 0) 0 = some (0, (fun _ => 0), (fun _ => 0), 0, (fun _ => 0), (fun _ => 0), (fun _ => 0), (fun _ => 0), (fun _ => 0), 0, 0, 0, (fun _ => 0), 0, (fun _ => 0), (fun _ => 0), (fun _ => 0), 0) := by
  unfold fX6_layOut
  rw [z0_cause, pz0_bnd rfl, if_neg (by decide)]
theorem z7_flows : fX7_flows 0 0 (-1) (fun _ => 0) (fun _ => 0) (fun _ => 0) (fun _ => 0) (fun _ => 0) (fun _ => 0) 0 (fun _ => 0) (fun _ => 0) (fun _ => 0) (fun _ => 0) 0 0 0 = some (0, (fun _ => 0), 0, (fun _ => 0), (fun _ => 0), (fun _ => 0), (fun _ => 0), 0, 0, 0) := by
  unfold fX7_flows
  rw [z7_cause, pz0_bnd rfl, if_neg (by decide)]
set_option maxRecDepth 100000 in
theorem z_knot : ∃ r1 r2, fX6_knot (fun _ => 0) (fun _ => 0) 0 = some r1 ∧ fX7_knot 0 (fun _ => 0) (fun _ => 0) = some r2 ∧ r1.1 = r2.1 := by
  obtain ⟨r1, h1, e1⟩ := z_ex (x := fX6_knot (fun _ => 0) (fun _ => 0) 0) (fun r1 => r1.1) (0 : Int32) (by decide +kernel)
  obtain ⟨r2, h2, e2⟩ := z_ex (x := fX7_knot 0 (fun _ => 0) (fun _ => 0)) (fun r2 => r2.1) (0 : Int32) (by decide +kernel)
  exact ⟨r1, r2, h1, h2, e1.trans e2.symm⟩
set_option maxRecDepth 100000 in
theorem z_wire (x1 x2 : Int32) : ∃ r1 r2, fX6_wire (fun _ => 0) (fun _ => 0) (fun _ => 0) (fun _ => 0) 0 0 x1 x2 = some r1 ∧ fX7_wire 0 0 (fun _ => 0) (fun _ => 0) (fun _ => 0) (fun _ => 0) x1 x2 = some r2 ∧ r1.1 = r2.1 := by
  have h1 : fX6_wire (fun _ => 0) (fun _ => 0) (fun _ => 0) (fun _ => 0) 0 0 x1 x2 = some ((-2000000000), (fun _ => 0), (fun _ => 0), (fun _ => 0), (fun _ => 0), 0) := by
    unfold fX6_wire
    rw [z_isK]
    rfl
  have h2 : fX7_wire 0 0 (fun _ => 0) (fun _ => 0) (fun _ => 0) (fun _ => 0) x1 x2 = some ((-2000000000), 0, (fun _ => 0), (fun _ => 0), (fun _ => 0), (fun _ => 0)) := by
    unfold fX7_wire
    rw [z7_isK]
    rfl
  exact ⟨_, _, h1, h2, rfl⟩
set_option maxRecDepth 100000 in
theorem z_battery (x1 : Int32) : ∃ r1 r2, fX6_battery (fun _ => 0) 0 (-1) x1 = some r1 ∧ fX7_battery 0 (-1) (fun _ => 0) x1 = some r2 ∧ r1.1 = r2.1 := by
  by_cases h : x1 = -1
  · subst h
    exact ⟨_, _, rfl, rfl, rfl⟩
  · have h1 : fX6_battery (fun _ => 0) 0 (-1) x1 = some ((-2000000000), (fun _ => 0), (-1)) := by
      unfold fX6_battery
      rw [if_neg h, z_isW]
      rfl
    have h2 : fX7_battery 0 (-1) (fun _ => 0) x1 = some ((-2000000000), (-1), (fun _ => 0)) := by
      unfold fX7_battery
      rw [if_neg h, z7_isW]
      rfl
    exact ⟨_, _, h1, h2, rfl⟩
set_option maxRecDepth 100000 in
theorem z_cut (x1 x2 : Int32) : ∃ r1 r2, fX6_cut (fun _ => 0) 0 (-1) x1 x2 = some r1 ∧ fX7_cut 0 (-1) (fun _ => 0) x1 x2 = some r2 ∧ r1.1 = r2.1 := by
  have h1 : fX6_cut (fun _ => 0) 0 (-1) x1 x2 = some ((-2000000000), (fun _ => 0)) := by
    unfold fX6_cut
    rw [z_isW]
    rfl
  have h2 : fX7_cut 0 (-1) (fun _ => 0) x1 x2 = some ((-2000000000), (fun _ => 0)) := by
    unfold fX7_cut
    rw [z7_isW]
    rfl
  exact ⟨_, _, h1, h2, rfl⟩
set_option maxRecDepth 100000 in
theorem z_lay (x1 x2 : Int32) : ∃ r1 r2, fX6_lay (fun _ => 0) (fun _ => 0) (fun _ => 0) (fun _ => 0) 0 0 x1 x2 = some r1 ∧ fX7_lay 0 0 (fun _ => 0) (fun _ => 0) (fun _ => 0) (fun _ => 0) x1 x2 = some r2 ∧ r1.1 = r2.1 := by
  have h1 : fX6_lay (fun _ => 0) (fun _ => 0) (fun _ => 0) (fun _ => 0) 0 0 x1 x2 = some ((-2000000000), (fun _ => 0), (fun _ => 0)) := by
    unfold fX6_lay
    rw [z_isK]
    rfl
  have h2 : fX7_lay 0 0 (fun _ => 0) (fun _ => 0) (fun _ => 0) (fun _ => 0) x1 x2 = some ((-2000000000), (fun _ => 0), (fun _ => 0)) := by
    unfold fX7_lay
    rw [z7_isK]
    rfl
  exact ⟨_, _, h1, h2, rfl⟩
set_option maxRecDepth 100000 in
theorem z_bare (x1 : Int32) : ∃ r1 r2, fX6_bare (fun _ => 0) 0 x1 = some r1 ∧ fX7_bare 0 (fun _ => 0) x1 = some r2 ∧ r1.1 = r2.1 := by
  have h1 : fX6_bare (fun _ => 0) 0 x1 = some ((-2000000000), (fun _ => 0)) := by
    unfold fX6_bare
    rw [z_isK]
    rfl
  have h2 : fX7_bare 0 (fun _ => 0) x1 = some ((-2000000000), (fun _ => 0)) := by
    unfold fX7_bare
    rw [z7_isK]
    rfl
  exact ⟨_, _, h1, h2, rfl⟩
set_option maxRecDepth 100000 in
theorem z_mirror : ∃ r1 r2, fX6_mirror (fun _ => 0) (fun _ => 0) 0 = some r1 ∧ fX7_mirror 0 (fun _ => 0) (fun _ => 0) = some r2 ∧ r1.1 = r2.1 := by
  obtain ⟨r1, h1, e1⟩ := z_ex (x := fX6_mirror (fun _ => 0) (fun _ => 0) 0) (fun r1 => r1.1) (0 : Int32) (by decide +kernel)
  obtain ⟨r2, h2, e2⟩ := z_ex (x := fX7_mirror 0 (fun _ => 0) (fun _ => 0)) (fun r2 => r2.1) (0 : Int32) (by decide +kernel)
  exact ⟨r1, r2, h1, h2, e1.trans e2.symm⟩
set_option maxRecDepth 100000 in
theorem z_about : ∃ r1 r2, fX6_about (fun _ => 0) (fun _ => 0) (fun _ => 0) (fun _ => 0) (fun _ => 0) (fun _ => 0) (fun _ => 0) 0 0 (-1) (fun _ => 0) (fun _ => 0) 0 = some r1 ∧ fX7_about 0 0 (-1) (fun _ => 0) (fun _ => 0) (fun _ => 0) (fun _ => 0) (fun _ => 0) (fun _ => 0) (fun _ => 0) (fun _ => 0) 0 (fun _ => 0) (fun _ => 0) (fun _ => 0) (fun _ => 0) 0 0 0 (fun _ => 0) (fun _ => 0) = some r2 ∧ r1.1 = r2.1 := by
  have h1 : fX6_about (fun _ => 0) (fun _ => 0) (fun _ => 0) (fun _ => 0) (fun _ => 0) (fun _ => 0) (fun _ => 0) 0 0 (-1) (fun _ => 0) (fun _ => 0) 0 = some ((-2000000000), (fun _ => 0), (fun _ => 0), (fun _ => 0), (fun _ => 0), (fun _ => 0), (fun _ => 0), 0, (fun _ => 0), (fun _ => 0), 0) := by
    unfold fX6_about
    rw [z0_cause, pz0_bnd rfl, if_neg (by decide)]
  have h2 : fX7_about 0 0 (-1) (fun _ => 0) (fun _ => 0) (fun _ => 0) (fun _ => 0) (fun _ => 0) (fun _ => 0) (fun _ => 0) (fun _ => 0) 0 (fun _ => 0) (fun _ => 0) (fun _ => 0) (fun _ => 0) 0 0 0 (fun _ => 0) (fun _ => 0) = some ((-2000000000), 0, (fun _ => 0), (fun _ => 0), (fun _ => 0), (fun _ => 0), (fun _ => 0), (fun _ => 0), (fun _ => 0), 0, (fun _ => 0), (fun _ => 0), (fun _ => 0), (fun _ => 0), 0, 0, 0, (fun _ => 0), (fun _ => 0)) := by
    unfold fX7_about
    rw [z7_flows, pz0_bnd rfl, if_pos rfl]
  exact ⟨_, _, h1, h2, rfl⟩
set_option maxRecDepth 100000 in
theorem z_clear : ∃ r1 r2, fX6_clear 0 0 (-1) = some r1 ∧ fX7_clear 0 0 (-1) = some r2 ∧ r1.1 = r2.1 := by
  obtain ⟨r1, h1, e1⟩ := z_ex (x := fX6_clear 0 0 (-1)) (fun r1 => r1.1) (0 : Int32) (by decide +kernel)
  obtain ⟨r2, h2, e2⟩ := z_ex (x := fX7_clear 0 0 (-1)) (fun r2 => r2.1) (0 : Int32) (by decide +kernel)
  exact ⟨r1, r2, h1, h2, e1.trans e2.symm⟩
set_option maxRecDepth 100000 in
theorem z_keep : ∃ r1 r2, fX6_keep (fun _ => 0) (fun _ => 0) (fun _ => 0) (fun _ => 0) (fun _ => 0) (fun _ => 0) (fun _ => 0) 0 0 (-1) none = some r1 ∧ fX7_keep 0 0 (-1) (fun _ => 0) (fun _ => 0) (fun _ => 0) (fun _ => 0) (fun _ => 0) (fun _ => 0) (fun _ => 0) 0 0 0 0 (fun _ => 0) (fun _ => 0) (fun _ => 0) (fun _ => 0) (fun _ => 0) (fun _ => 0) (fun _ => 0) = some r2 ∧ r1.1 = r2.1 := by
  obtain ⟨r1, h1, e1⟩ := z_ex (x := fX6_keep (fun _ => 0) (fun _ => 0) (fun _ => 0) (fun _ => 0) (fun _ => 0) (fun _ => 0) (fun _ => 0) 0 0 (-1) none) (fun r1 => r1.1) (0 : Int32) (by decide +kernel)
  exact ⟨r1, _, h1, py_keep, e1⟩
set_option maxRecDepth 100000 in
theorem z_back : ∃ r1 r2, fX6_back (fun _ => 0) (fun _ => 0) (fun _ => 0) (fun _ => 0) (fun _ => 0) (fun _ => 0) (fun _ => 0) 0 0 (-1) none = some r1 ∧ fX7_back 0 0 (-1) (fun _ => 0) (fun _ => 0) (fun _ => 0) (fun _ => 0) (fun _ => 0) (fun _ => 0) (fun _ => 0) 0 0 0 0 (fun _ => 0) (fun _ => 0) (fun _ => 0) (fun _ => 0) (fun _ => 0) (fun _ => 0) (fun _ => 0) = some r2 ∧ r1.1 = r2.1 := by
  obtain ⟨r1, h1, e1⟩ := z_ex (x := fX6_back (fun _ => 0) (fun _ => 0) (fun _ => 0) (fun _ => 0) (fun _ => 0) (fun _ => 0) (fun _ => 0) 0 0 (-1) none) (fun r1 => r1.1) ((-2000000000) : Int32) (by decide +kernel)
  obtain ⟨r2, h2, e2⟩ := z_ex (x := fX7_back 0 0 (-1) (fun _ => 0) (fun _ => 0) (fun _ => 0) (fun _ => 0) (fun _ => 0) (fun _ => 0) (fun _ => 0) 0 0 0 0 (fun _ => 0) (fun _ => 0) (fun _ => 0) (fun _ => 0) (fun _ => 0) (fun _ => 0) (fun _ => 0)) (fun r2 => r2.1) ((-2000000000) : Int32) (by decide +kernel)
  exact ⟨r1, r2, h1, h2, e1.trans e2.symm⟩
set_option maxRecDepth 100000 in
theorem z_cause : ∃ r1 r2, fX6_cause (fun _ => 0) (fun _ => 0) (fun _ => 0) (fun _ => 0) (fun _ => 0) 0 0 (-1) (fun _ => 0) (fun _ => 0) 0 = some r1 ∧ fX7_cause 0 0 (-1) (fun _ => 0) (fun _ => 0) (fun _ => 0) (fun _ => 0) (fun _ => 0) (fun _ => 0) 0 = some r2 ∧ r1.1 = r2.1 := by
  refine ⟨(1, (fun _ => 0), (fun _ => 0), 0), (1, (fun _ => 0), 0), ?_, ?_, rfl⟩
  · unfold fX6_cause
    rw [z0_cause, pz0_bnd rfl]
  · unfold fX7_cause
    rw [z7_cause, pz0_bnd rfl]
set_option maxRecDepth 100000 in
theorem z_of (x1 x2 : Int32) : ∃ r1 r2, fX6_of (fun _ => 0) (fun _ => 0) (fun _ => 0) 0 (-1) x1 x2 = some r1 ∧ fX7_of 0 (-1) (fun _ => 0) (fun _ => 0) (fun _ => 0) x1 x2 = some r2 ∧ r1 = r2 := by
  have h1 : fX6_of (fun _ => 0) (fun _ => 0) (fun _ => 0) 0 (-1) x1 x2 = some (-2000000000) := by
    unfold fX6_of
    rw [z_isW]
    rfl
  have h2 : fX7_of 0 (-1) (fun _ => 0) (fun _ => 0) (fun _ => 0) x1 x2 = some (-2000000000) := by
    unfold fX7_of
    rw [z7_isW]
    rfl
  exact ⟨_, _, h1, h2, rfl⟩
set_option maxRecDepth 100000 in
theorem z_turn (x1 x2 : Int32) : ∃ r1 r2, fX6_turn (fun _ => 0) (fun _ => 0) 0 x1 x2 = some r1 ∧ fX7_turn 0 (fun _ => 0) (fun _ => 0) x1 x2 = some r2 ∧ r1 = r2 := by
  have h1 : fX6_turn (fun _ => 0) (fun _ => 0) 0 x1 x2 = some (-2000000000) := by
    unfold fX6_turn
    rw [z_isK]
    rfl
  have h2 : fX7_turn 0 (fun _ => 0) (fun _ => 0) x1 x2 = some (-2000000000) := by
    unfold fX7_turn
    rw [z7_isK]
    rfl
  exact ⟨_, _, h1, h2, rfl⟩
set_option maxRecDepth 100000 in
theorem z_faces : ∃ r1 r2, fX6_faces (fun _ => 0) (fun _ => 0) (fun _ => 0) (fun _ => 0) 0 0 (fun _ => 0) (fun _ => 0) 0 = some r1 ∧ fX7_faces 0 0 (fun _ => 0) (fun _ => 0) (fun _ => 0) (fun _ => 0) (fun _ => 0) 0 = some r2 ∧ r1.1 = r2.1 := by
  obtain ⟨r1, h1, e1⟩ := z_ex (x := fX6_faces (fun _ => 0) (fun _ => 0) (fun _ => 0) (fun _ => 0) 0 0 (fun _ => 0) (fun _ => 0) 0) (fun r1 => r1.1) (0 : Int32) (by decide +kernel)
  obtain ⟨r2, h2, e2⟩ := z_ex (x := fX7_faces 0 0 (fun _ => 0) (fun _ => 0) (fun _ => 0) (fun _ => 0) (fun _ => 0) 0) (fun r2 => r2.1) (0 : Int32) (by decide +kernel)
  exact ⟨r1, r2, h1, h2, e1.trans e2.symm⟩
set_option maxRecDepth 100000 in
theorem z_face (x1 : Int32) : ∃ r1 r2, fX6_face (fun _ => 0) (fun _ => 0) (fun _ => 0) (fun _ => 0) 0 0 (fun _ => 0) (fun _ => 0) 0 x1 = some r1 ∧ fX7_face 0 0 (fun _ => 0) (fun _ => 0) (fun _ => 0) (fun _ => 0) (fun _ => 0) 0 x1 = some r2 ∧ r1.1 = r2.1 := by
  have h1 : fX6_face (fun _ => 0) (fun _ => 0) (fun _ => 0) (fun _ => 0) 0 0 (fun _ => 0) (fun _ => 0) 0 x1 = some ((-2000000000), (fun _ => 0), (fun _ => 0), 0) := by
    unfold fX6_face
    rw [show fX4_hasWholeTurns (fun _ => 0) (fun _ => 0) (fun _ => 0) 0 0 = some 1 from by decide +kernel]
    rw [pz0_bnd rfl, if_neg (by decide)]
    by_cases h : x1 < 0
    · rw [if_pos h]
    · rw [if_neg h, if_neg (show ¬ x1 < 2 * 0 from h)]
  have h2 : fX7_face 0 0 (fun _ => 0) (fun _ => 0) (fun _ => 0) (fun _ => 0) (fun _ => 0) 0 x1 = some ((-2000000000), (fun _ => 0), 0) := by
    unfold fX7_face
    rw [show fX7_areTurns 0 0 (fun _ => 0) (fun _ => 0) (fun _ => 0) = some 1 from by decide +kernel]
    rw [pz0_bnd rfl, if_neg (by decide), show (2 * 0 - 1 : Int32) = 0 - 1 from by decide, z7_in]
    rfl
  exact ⟨_, _, h1, h2, rfl⟩
set_option maxRecDepth 100000 in
theorem z_trees : ∃ r1 r2, fX6_trees (fun _ => 0) (fun _ => 0) (fun _ => 0) (fun _ => 0) (fun _ => 0) 0 0 (-1) (fun _ => 0) (fun _ => 0) 0 (fun _ => 0) (fun _ => 0) (fun _ => 0) (fun _ => 0) (fun _ => 0) 0 0 0 = some r1 ∧ fX7_trees 0 0 (-1) (fun _ => 0) (fun _ => 0) (fun _ => 0) (fun _ => 0) (fun _ => 0) (fun _ => 0) 0 (fun _ => 0) (fun _ => 0) (fun _ => 0) (fun _ => 0) 0 0 0 = some r2 ∧ r1.1 = r2.1 := by
  have h1 : fX6_trees (fun _ => 0) (fun _ => 0) (fun _ => 0) (fun _ => 0) (fun _ => 0) 0 0 (-1) (fun _ => 0) (fun _ => 0) 0 (fun _ => 0) (fun _ => 0) (fun _ => 0) (fun _ => 0) (fun _ => 0) 0 0 0 = some ((-2000000000), (fun _ => 0), (fun _ => 0), 0, (fun _ => 0), (fun _ => 0), (fun _ => 0), (fun _ => 0), (fun _ => 0), 0, 0, 0) := by
    unfold fX6_trees
    rw [z_letFlow, pz0_bnd rfl, if_pos rfl]
  have h2 : fX7_trees 0 0 (-1) (fun _ => 0) (fun _ => 0) (fun _ => 0) (fun _ => 0) (fun _ => 0) (fun _ => 0) 0 (fun _ => 0) (fun _ => 0) (fun _ => 0) (fun _ => 0) 0 0 0 = some ((-2000000000), (fun _ => 0), 0, (fun _ => 0), (fun _ => 0), (fun _ => 0), (fun _ => 0), 0, 0, 0) := by
    unfold fX7_trees
    rw [z7_flows, pz0_bnd rfl, if_pos rfl]
  exact ⟨_, _, h1, h2, rfl⟩
set_option maxRecDepth 100000 in
theorem z_current (x1 : Int32) : ∃ r1 r2, fX6_current (fun _ => 0) (fun _ => 0) (fun _ => 0) (fun _ => 0) (fun _ => 0) 0 0 (-1) (fun _ => 0) (fun _ => 0) 0 (fun _ => 0) (fun _ => 0) (fun _ => 0) (fun _ => 0) (fun _ => 0) 0 0 0 x1 = some r1 ∧ fX7_current 0 0 (-1) (fun _ => 0) (fun _ => 0) (fun _ => 0) (fun _ => 0) (fun _ => 0) (fun _ => 0) 0 (fun _ => 0) (fun _ => 0) (fun _ => 0) (fun _ => 0) 0 0 0 x1 = some r2 ∧ r1.1 = r2.1 := by
  have h1 : fX6_current (fun _ => 0) (fun _ => 0) (fun _ => 0) (fun _ => 0) (fun _ => 0) 0 0 (-1) (fun _ => 0) (fun _ => 0) 0 (fun _ => 0) (fun _ => 0) (fun _ => 0) (fun _ => 0) (fun _ => 0) 0 0 0 x1 = some ((-2000000000), (fun _ => 0), (fun _ => 0), 0, (fun _ => 0), (fun _ => 0), (fun _ => 0), (fun _ => 0), (fun _ => 0), 0, 0, 0) := by
    unfold fX6_current
    rw [z_isW, pz0_bnd rfl, if_pos rfl]
  have h2 : fX7_current 0 0 (-1) (fun _ => 0) (fun _ => 0) (fun _ => 0) (fun _ => 0) (fun _ => 0) (fun _ => 0) 0 (fun _ => 0) (fun _ => 0) (fun _ => 0) (fun _ => 0) 0 0 0 x1 = some ((-2000000000), (fun _ => 0), 0, (fun _ => 0), (fun _ => 0), (fun _ => 0), (fun _ => 0), 0, 0, 0) := by
    unfold fX7_current
    rw [z7_flows, pz0_bnd rfl, if_pos rfl]
  exact ⟨_, _, h1, h2, rfl⟩
set_option maxRecDepth 100000 in
theorem z_height (x1 : Int32) : ∃ r1 r2, fX6_height (fun _ => 0) (fun _ => 0) (fun _ => 0) (fun _ => 0) (fun _ => 0) 0 0 (-1) (fun _ => 0) (fun _ => 0) 0 (fun _ => 0) (fun _ => 0) (fun _ => 0) (fun _ => 0) (fun _ => 0) 0 0 0 x1 = some r1 ∧ fX7_height 0 0 (-1) (fun _ => 0) (fun _ => 0) (fun _ => 0) (fun _ => 0) (fun _ => 0) (fun _ => 0) 0 (fun _ => 0) (fun _ => 0) (fun _ => 0) (fun _ => 0) 0 0 0 x1 = some r2 ∧ r1.1 = r2.1 := by
  have h1 : fX6_height (fun _ => 0) (fun _ => 0) (fun _ => 0) (fun _ => 0) (fun _ => 0) 0 0 (-1) (fun _ => 0) (fun _ => 0) 0 (fun _ => 0) (fun _ => 0) (fun _ => 0) (fun _ => 0) (fun _ => 0) 0 0 0 x1 = some ((-2000000000), (fun _ => 0), (fun _ => 0), 0, (fun _ => 0), (fun _ => 0), (fun _ => 0), (fun _ => 0), (fun _ => 0), 0, 0, 0) := by
    unfold fX6_height
    rw [z_isK, pz0_bnd rfl, if_pos rfl]
  have h2 : fX7_height 0 0 (-1) (fun _ => 0) (fun _ => 0) (fun _ => 0) (fun _ => 0) (fun _ => 0) (fun _ => 0) 0 (fun _ => 0) (fun _ => 0) (fun _ => 0) (fun _ => 0) 0 0 0 x1 = some ((-2000000000), (fun _ => 0), 0, (fun _ => 0), (fun _ => 0), (fun _ => 0), (fun _ => 0), 0, 0, 0) := by
    unfold fX7_height
    rw [z7_flows, pz0_bnd rfl, if_pos rfl]
  exact ⟨_, _, h1, h2, rfl⟩
set_option maxRecDepth 100000 in
theorem z_place (x1 : Int32) : ∃ r1 r2, fX6_place (fun _ => 0) (fun _ => 0) (fun _ => 0) (fun _ => 0) (fun _ => 0) 0 0 (-1) (fun _ => 0) (fun _ => 0) 0 (fun _ => 0) (fun _ => 0) (fun _ => 0) (fun _ => 0) (fun _ => 0) 0 0 0 x1 = some r1 ∧ fX7_place 0 0 (-1) (fun _ => 0) (fun _ => 0) (fun _ => 0) (fun _ => 0) (fun _ => 0) (fun _ => 0) 0 (fun _ => 0) (fun _ => 0) (fun _ => 0) (fun _ => 0) 0 0 0 x1 = some r2 ∧ r1.1 = r2.1 := by
  have h1 : fX6_place (fun _ => 0) (fun _ => 0) (fun _ => 0) (fun _ => 0) (fun _ => 0) 0 0 (-1) (fun _ => 0) (fun _ => 0) 0 (fun _ => 0) (fun _ => 0) (fun _ => 0) (fun _ => 0) (fun _ => 0) 0 0 0 x1 = some ((-2000000000), (fun _ => 0), (fun _ => 0), 0, (fun _ => 0), (fun _ => 0), (fun _ => 0), (fun _ => 0), (fun _ => 0), 0, 0, 0) := by
    unfold fX6_place
    rw [z_letFlow, pz0_bnd rfl, if_pos rfl]
  have h2 : fX7_place 0 0 (-1) (fun _ => 0) (fun _ => 0) (fun _ => 0) (fun _ => 0) (fun _ => 0) (fun _ => 0) 0 (fun _ => 0) (fun _ => 0) (fun _ => 0) (fun _ => 0) 0 0 0 x1 = some ((-2000000000), (fun _ => 0), 0, (fun _ => 0), (fun _ => 0), (fun _ => 0), (fun _ => 0), 0, 0, 0) := by
    unfold fX7_place
    rw [z7_flows, pz0_bnd rfl, if_pos rfl]
  exact ⟨_, _, h1, h2, rfl⟩
set_option maxRecDepth 100000 in
theorem z_rectangle (x1 : Int32) : ∃ r1 r2, fX6_rectangle (fun _ => 0) (fun _ => 0) (fun _ => 0) (fun _ => 0) (fun _ => 0) 0 0 (-1) (fun _ => 0) (fun _ => 0) 0 (fun _ => 0) (fun _ => 0) (fun _ => 0) (fun _ => 0) (fun _ => 0) 0 0 0 (fun _ => 0) 0 0 0 0 0 0 (fun _ => 0) (fun _ => 0) (fun _ => 0) 0 x1 = some r1 ∧ fX7_rectangle 0 0 (-1) (fun _ => 0) (fun _ => 0) (fun _ => 0) (fun _ => 0) (fun _ => 0) (fun _ => 0) 0 (fun _ => 0) (fun _ => 0) (fun _ => 0) (fun _ => 0) 0 0 0 x1 = some r2 ∧ r1.1 = r2.1 := by
  have h1 : fX6_rectangle (fun _ => 0) (fun _ => 0) (fun _ => 0) (fun _ => 0) (fun _ => 0) 0 0 (-1) (fun _ => 0) (fun _ => 0) 0 (fun _ => 0) (fun _ => 0) (fun _ => 0) (fun _ => 0) (fun _ => 0) 0 0 0 (fun _ => 0) 0 0 0 0 0 0 (fun _ => 0) (fun _ => 0) (fun _ => 0) 0 x1 = some ((-2000000000), (fun _ => 0), (fun _ => 0), 0, (fun _ => 0), (fun _ => 0), (fun _ => 0), (fun _ => 0), (fun _ => 0), 0, 0, 0, (fun _ => 0), 0, 0, 0, 0, 0, 0, (fun _ => 0), (fun _ => 0), (fun _ => 0), 0) := by
    unfold fX6_rectangle
    rw [z_layOut, pz0_bnd rfl, if_pos rfl]
  have h2 : fX7_rectangle 0 0 (-1) (fun _ => 0) (fun _ => 0) (fun _ => 0) (fun _ => 0) (fun _ => 0) (fun _ => 0) 0 (fun _ => 0) (fun _ => 0) (fun _ => 0) (fun _ => 0) 0 0 0 x1 = some ((-2000000000), (fun _ => 0), 0, (fun _ => 0), (fun _ => 0), (fun _ => 0), (fun _ => 0), 0, 0, 0) := by
    unfold fX7_rectangle
    rw [z7_flows, pz0_bnd rfl, if_pos rfl]
  exact ⟨_, _, h1, h2, rfl⟩
set_option maxRecDepth 100000 in
theorem z_square (x1 x2 : Int32) : ∃ r1 r2, fX6_square (fun _ => 0) (fun _ => 0) (fun _ => 0) (fun _ => 0) (fun _ => 0) 0 0 (-1) (fun _ => 0) (fun _ => 0) 0 (fun _ => 0) (fun _ => 0) (fun _ => 0) (fun _ => 0) (fun _ => 0) 0 0 0 (fun _ => 0) 0 (fun _ => 0) (fun _ => 0) (fun _ => 0) 0 x1 x2 = some r1 ∧ fX7_square 0 0 (-1) (fun _ => 0) (fun _ => 0) (fun _ => 0) (fun _ => 0) (fun _ => 0) (fun _ => 0) 0 (fun _ => 0) (fun _ => 0) (fun _ => 0) (fun _ => 0) 0 0 0 x1 x2 = some r2 ∧ r1.1 = r2.1 := by
  have h1 : fX6_square (fun _ => 0) (fun _ => 0) (fun _ => 0) (fun _ => 0) (fun _ => 0) 0 0 (-1) (fun _ => 0) (fun _ => 0) 0 (fun _ => 0) (fun _ => 0) (fun _ => 0) (fun _ => 0) (fun _ => 0) 0 0 0 (fun _ => 0) 0 (fun _ => 0) (fun _ => 0) (fun _ => 0) 0 x1 x2 = some ((-2000000000), (fun _ => 0), (fun _ => 0), 0, (fun _ => 0), (fun _ => 0), (fun _ => 0), (fun _ => 0), (fun _ => 0), 0, 0, 0, (fun _ => 0), 0, (fun _ => 0), (fun _ => 0), (fun _ => 0), 0) := by
    unfold fX6_square
    rw [z_isW, pz0_bnd rfl, if_pos rfl]
  have h2 : fX7_square 0 0 (-1) (fun _ => 0) (fun _ => 0) (fun _ => 0) (fun _ => 0) (fun _ => 0) (fun _ => 0) 0 (fun _ => 0) (fun _ => 0) (fun _ => 0) (fun _ => 0) 0 0 0 x1 x2 = some ((-2000000000), (fun _ => 0), 0, (fun _ => 0), (fun _ => 0), (fun _ => 0), (fun _ => 0), 0, 0, 0) := by
    unfold fX7_square
    rw [z7_flows, pz0_bnd rfl, if_pos rfl]
  exact ⟨_, _, h1, h2, rfl⟩
set_option maxRecDepth 100000 in
theorem z_within (x1 : Int32) : ∃ r1 r2, fX6_within (fun _ => 0) (fun _ => 0) (fun _ => 0) (fun _ => 0) (fun _ => 0) 0 0 (-1) (fun _ => 0) (fun _ => 0) 0 (fun _ => 0) (fun _ => 0) (fun _ => 0) (fun _ => 0) (fun _ => 0) 0 0 0 (fun _ => 0) 0 0 0 0 0 0 (fun _ => 0) (fun _ => 0) (fun _ => 0) 0 x1 = some r1 ∧ fX7_within 0 0 (-1) (fun _ => 0) (fun _ => 0) (fun _ => 0) (fun _ => 0) (fun _ => 0) (fun _ => 0) 0 (fun _ => 0) (fun _ => 0) (fun _ => 0) (fun _ => 0) 0 0 0 x1 = some r2 ∧ r1.1 = r2.1 := by
  have h1 : fX6_within (fun _ => 0) (fun _ => 0) (fun _ => 0) (fun _ => 0) (fun _ => 0) 0 0 (-1) (fun _ => 0) (fun _ => 0) 0 (fun _ => 0) (fun _ => 0) (fun _ => 0) (fun _ => 0) (fun _ => 0) 0 0 0 (fun _ => 0) 0 0 0 0 0 0 (fun _ => 0) (fun _ => 0) (fun _ => 0) 0 x1 = some ((-2000000000), (fun _ => 0), (fun _ => 0), 0, (fun _ => 0), (fun _ => 0), (fun _ => 0), (fun _ => 0), (fun _ => 0), 0, 0, 0, (fun _ => 0), 0, 0, 0, 0, 0, 0, (fun _ => 0), (fun _ => 0), (fun _ => 0), 0) := by
    unfold fX6_within
    rw [z_layOut, pz0_bnd rfl, if_pos rfl]
  have h2 : fX7_within 0 0 (-1) (fun _ => 0) (fun _ => 0) (fun _ => 0) (fun _ => 0) (fun _ => 0) (fun _ => 0) 0 (fun _ => 0) (fun _ => 0) (fun _ => 0) (fun _ => 0) 0 0 0 x1 = some ((-2000000000), (fun _ => 0), 0, (fun _ => 0), (fun _ => 0), (fun _ => 0), (fun _ => 0), 0, 0, 0) := by
    unfold fX7_within
    rw [z7_flows, pz0_bnd rfl, if_pos rfl]
  exact ⟨_, _, h1, h2, rfl⟩
set_option maxRecDepth 100000 in
theorem z_at (x1 x2 : Int32) : ∃ r1 r2, fX6_at (fun _ => 0) (fun _ => 0) (fun _ => 0) (fun _ => 0) (fun _ => 0) 0 0 (-1) (fun _ => 0) (fun _ => 0) 0 (fun _ => 0) (fun _ => 0) (fun _ => 0) (fun _ => 0) (fun _ => 0) 0 0 0 (fun _ => 0) 0 (fun _ => 0) (fun _ => 0) (fun _ => 0) 0 x1 x2 = some r1 ∧ fX7_at 0 0 (-1) (fun _ => 0) (fun _ => 0) (fun _ => 0) (fun _ => 0) (fun _ => 0) (fun _ => 0) 0 (fun _ => 0) (fun _ => 0) (fun _ => 0) (fun _ => 0) 0 0 0 x1 x2 = some r2 ∧ r1.1 = r2.1 := by
  have h1 : fX6_at (fun _ => 0) (fun _ => 0) (fun _ => 0) (fun _ => 0) (fun _ => 0) 0 0 (-1) (fun _ => 0) (fun _ => 0) 0 (fun _ => 0) (fun _ => 0) (fun _ => 0) (fun _ => 0) (fun _ => 0) 0 0 0 (fun _ => 0) 0 (fun _ => 0) (fun _ => 0) (fun _ => 0) 0 x1 x2 = some ((-2000000000), (fun _ => 0), (fun _ => 0), 0, (fun _ => 0), (fun _ => 0), (fun _ => 0), (fun _ => 0), (fun _ => 0), 0, 0, 0, (fun _ => 0), 0, (fun _ => 0), (fun _ => 0), (fun _ => 0), 0) := by
    unfold fX6_at
    rw [z_layOut, pz0_bnd rfl, if_pos rfl]
  have h2 : fX7_at 0 0 (-1) (fun _ => 0) (fun _ => 0) (fun _ => 0) (fun _ => 0) (fun _ => 0) (fun _ => 0) 0 (fun _ => 0) (fun _ => 0) (fun _ => 0) (fun _ => 0) 0 0 0 x1 x2 = some ((-2000000000), (fun _ => 0), 0, (fun _ => 0), (fun _ => 0), (fun _ => 0), (fun _ => 0), 0, 0, 0) := by
    unfold fX7_at
    rw [z7_flows, pz0_bnd rfl, if_pos rfl]
  exact ⟨_, _, h1, h2, rfl⟩
set_option maxRecDepth 100000 in
theorem z_tell (x1 x2 x3 : Int32) : ∃ r1 r2, fX6_tell (fun _ => 0) (fun _ => 0) (fun _ => 0) 0 x1 x2 x3 = some r1 ∧ fX7_tell 0 (fun _ => 0) (fun _ => 0) (fun _ => 0) x1 x2 x3 = some r2 ∧ r1.1 = r2.1 := by
  unfold fX6_tell fX7_tell
  rw [← z_can, ← z_can, ← z_can]
  rcases z_can01 0 x1 with h | h
  · rw [h]; exact ⟨_, _, rfl, rfl, rfl⟩
  · rw [h]
    rcases z_can01 1 x2 with h2 | h2
    · rw [h2]; exact ⟨_, _, rfl, rfl, rfl⟩
    · rw [h2]
      rcases z_can01 2 x3 with h3 | h3
      · rw [h3]; exact ⟨_, _, rfl, rfl, rfl⟩
      · rw [h3]; exact ⟨_, _, rfl, rfl, rfl⟩
set_option maxRecDepth 100000 in
theorem z_alter (x1 x2 x3 : Int32) : ∃ r1 r2, fX6_alter (fun _ => 0) (fun _ => 0) (fun _ => 0) 0 x1 x2 x3 = some r1 ∧ fX7_alter 0 (fun _ => 0) (fun _ => 0) (fun _ => 0) x1 x2 x3 = some r2 ∧ r1.1 = r2.1 := by
  have h1 : fX6_alter (fun _ => 0) (fun _ => 0) (fun _ => 0) 0 x1 x2 x3 = some ((-2000000000), (fun _ => 0), (fun _ => 0), (fun _ => 0)) := by
    unfold fX6_alter
    by_cases h : x1 < 0
    · rw [if_pos h]
    · rw [if_neg h, if_pos (z_pos h)]
  have h2 : fX7_alter 0 (fun _ => 0) (fun _ => 0) (fun _ => 0) x1 x2 x3 = some ((-2000000000), (fun _ => 0), (fun _ => 0), (fun _ => 0)) := by
    unfold fX7_alter
    rw [z7_in]
    rfl
  exact ⟨_, _, h1, h2, rfl⟩
set_option maxRecDepth 100000 in
theorem z_hush : ∃ r1 r2, fX6_hush 0 = some r1 ∧ fX7_hush 0 = some r2 ∧ r1.1 = r2.1 := by
  obtain ⟨r1, h1, e1⟩ := z_ex (x := fX6_hush 0) (fun r1 => r1.1) (0 : Int32) (by decide +kernel)
  obtain ⟨r2, h2, e2⟩ := z_ex (x := fX7_hush 0) (fun r2 => r2.1) (0 : Int32) (by decide +kernel)
  exact ⟨r1, r2, h1, h2, e1.trans e2.symm⟩
set_option maxRecDepth 100000 in
theorem z_copy : ∃ r1 r2, fX6_copy (fun _ => 0) (fun _ => 0) (fun _ => 0) (fun _ => 0) (fun _ => 0) 0 0 (-1) (fun _ => 0) (fun _ => 0) 0 (fun _ => 0) (fun _ => 0) (fun _ => 0) (fun _ => 0) (fun _ => 0) 0 0 0 (fun _ => 0) 0 (fun _ => 0) (fun _ => 0) (fun _ => 0) 0 (fun _ => 0) (fun _ => 0) (fun _ => 0) 0 = some r1 ∧ fX7_copy 0 0 (-1) (fun _ => 0) (fun _ => 0) (fun _ => 0) (fun _ => 0) (fun _ => 0) 0 (fun _ => 0) (fun _ => 0) (fun _ => 0) (fun _ => 0) 0 (fun _ => 0) (fun _ => 0) (fun _ => 0) (fun _ => 0) 0 0 0 = some r2 ∧ r1.1 = r2.1 := by
  have h1 : fX6_copy (fun _ => 0) (fun _ => 0) (fun _ => 0) (fun _ => 0) (fun _ => 0) 0 0 (-1) (fun _ => 0) (fun _ => 0) 0 (fun _ => 0) (fun _ => 0) (fun _ => 0) (fun _ => 0) (fun _ => 0) 0 0 0 (fun _ => 0) 0 (fun _ => 0) (fun _ => 0) (fun _ => 0) 0 (fun _ => 0) (fun _ => 0) (fun _ => 0) 0 = some ((-2000000000), (fun _ => 0), (fun _ => 0), 0, (fun _ => 0), (fun _ => 0), (fun _ => 0), (fun _ => 0), (fun _ => 0), 0, 0, 0, (fun _ => 0), 0, (fun _ => 0), (fun _ => 0), (fun _ => 0), 0, (fun _ => 0), (fun _ => 0), (fun _ => 0), 0) := by
    unfold fX6_copy
    rw [z_layOut, pz0_bnd rfl, if_pos rfl]
  have h2 : fX7_copy 0 0 (-1) (fun _ => 0) (fun _ => 0) (fun _ => 0) (fun _ => 0) (fun _ => 0) 0 (fun _ => 0) (fun _ => 0) (fun _ => 0) (fun _ => 0) 0 (fun _ => 0) (fun _ => 0) (fun _ => 0) (fun _ => 0) 0 0 0 = some ((-2000000000), 0, (fun _ => 0), (fun _ => 0), (fun _ => 0), (fun _ => 0), 0, (fun _ => 0), (fun _ => 0), (fun _ => 0), (fun _ => 0), 0, 0, 0) := by
    unfold fX7_copy
    rw [z7_flows, pz0_bnd rfl, if_pos rfl]
  exact ⟨_, _, h1, h2, rfl⟩
theorem z_findFit (x1 x2 : Int32) : fX6_findFit (fun _ => 0) (fun _ => 0) (fun _ => 0) 0 x1 x2 = some (-2000000000) := by
  unfold fX6_findFit
  by_cases h1 : x1 < 1
  · rw [if_pos h1]
  rw [if_neg h1]
  by_cases h2 : 1000000 < x1
  · rw [if_pos h2]
  rw [if_neg h2]
  by_cases h3 : x2 < 1
  · rw [if_pos h3]
  rw [if_neg h3]
  by_cases h4 : 1000000 < x2
  · rw [if_pos h4]
  rw [if_neg h4, if_pos rfl]
theorem z_fit7 (x1 x2 : Int32) : fX7_fit 0 (fun _ => 0) (fun _ => 0) (fun _ => 0) x1 x2 = some (-2000000000) := by
  unfold fX7_fit
  have q : ∀ x : Int32, fX7_in x 1 1000000 = some 0 ∨ fX7_in x 1 1000000 = some 1 := by
    intro x
    unfold fX7_in
    by_cases h : x < 1
    · rw [if_pos h]; exact Or.inl rfl
    · rw [if_neg h]
      by_cases h2 : 1000000 < x
      · rw [if_pos h2]; exact Or.inl rfl
      · rw [if_neg h2]; exact Or.inr rfl
  rcases q x1 with h | h
  · rw [h]; rfl
  · rw [h]
    rcases q x2 with h2 | h2
    · rw [h2]; rfl
    · rw [h2]; rfl
theorem z_fit (x1 x2 : Int32) : ∃ r1 r2, fX6_fit (fun _ => 0) (fun _ => 0) (fun _ => 0) 0 x1 x2 = some r1 ∧ fX7_fit 0 (fun _ => 0) (fun _ => 0) (fun _ => 0) x1 x2 = some r2 ∧ r1 = r2 := by
  have h1 : fX6_fit (fun _ => 0) (fun _ => 0) (fun _ => 0) 0 x1 x2 = some (-2000000000) := by
    unfold fX6_fit
    rw [z_findFit]
    rfl
  have h2 : fX7_fit 0 (fun _ => 0) (fun _ => 0) (fun _ => 0) x1 x2 = some (-2000000000) := by
    exact z_fit7 x1 x2
  exact ⟨_, _, h1, h2, rfl⟩
set_option maxRecDepth 100000 in
theorem z_read (x1 x2 : Int32) : ∃ r1 r2, fX6_read (fun _ => 0) (fun _ => 0) (fun _ => 0) (fun _ => 0) (fun _ => 0) (fun _ => 0) (fun _ => 0) 0 0 (-1) (fun _ => 0) (fun _ => 0) (fun _ => 0) 0 (fun _ => 0) (fun _ => 0) 0 x1 x2 = some r1 ∧ fX7_read 0 0 (-1) (fun _ => 0) (fun _ => 0) (fun _ => 0) (fun _ => 0) (fun _ => 0) (fun _ => 0) (fun _ => 0) 0 (fun _ => 0) (fun _ => 0) (fun _ => 0) (fun _ => 0) (fun _ => 0) (fun _ => 0) 0 x1 x2 = some r2 ∧ r1.1 = r2.1 := by
  have h1 : fX6_read (fun _ => 0) (fun _ => 0) (fun _ => 0) (fun _ => 0) (fun _ => 0) (fun _ => 0) (fun _ => 0) 0 0 (-1) (fun _ => 0) (fun _ => 0) (fun _ => 0) 0 (fun _ => 0) (fun _ => 0) 0 x1 x2 = some ((-2000000000), (fun _ => 0), (fun _ => 0), (fun _ => 0), (fun _ => 0), (fun _ => 0), (fun _ => 0), (fun _ => 0), 0, 0, (-1), (fun _ => 0), (fun _ => 0), 0) := by
    unfold fX6_read
    rw [z_findFit]
    rfl
  have h2 : fX7_read 0 0 (-1) (fun _ => 0) (fun _ => 0) (fun _ => 0) (fun _ => 0) (fun _ => 0) (fun _ => 0) (fun _ => 0) 0 (fun _ => 0) (fun _ => 0) (fun _ => 0) (fun _ => 0) (fun _ => 0) (fun _ => 0) 0 x1 x2 = some ((-2000000000), 0, 0, (-1), (fun _ => 0), (fun _ => 0), (fun _ => 0), (fun _ => 0), (fun _ => 0), (fun _ => 0), (fun _ => 0), (fun _ => 0), (fun _ => 0), (fun _ => 0), 0) := by
    unfold fX7_read
    rw [z_fit7]
    rfl
  exact ⟨_, _, h1, h2, rfl⟩
set_option maxRecDepth 100000 in
theorem z_claim (x1 x2 : Int32) : ∃ r1 r2, fX6_claim (fun _ => 0) 0 x1 x2 = some r1 ∧ fX7_claim 0 (fun _ => 0) x1 x2 = some r2 ∧ r1.1 = r2.1 := by
  have h1 : fX6_claim (fun _ => 0) 0 x1 x2 = some ((-2000000000), (fun _ => 0)) := by
    unfold fX6_claim
    rw [z_isW]
    rfl
  have h2 : fX7_claim 0 (fun _ => 0) x1 x2 = some ((-2000000000), (fun _ => 0)) := by
    unfold fX7_claim
    rw [z7_isW]
    rfl
  exact ⟨_, _, h1, h2, rfl⟩
set_option maxRecDepth 100000 in
theorem z_raise (x1 x2 : Int32) : ∃ r1 r2, fX6_raise (fun _ => 0) 0 x1 x2 = some r1 ∧ fX7_raise 0 (fun _ => 0) x1 x2 = some r2 ∧ r1.1 = r2.1 := by
  have h1 : fX6_raise (fun _ => 0) 0 x1 x2 = some ((-2000000000), (fun _ => 0)) := by
    unfold fX6_raise
    rw [z_isK]
    rfl
  have h2 : fX7_raise 0 (fun _ => 0) x1 x2 = some ((-2000000000), (fun _ => 0)) := by
    unfold fX7_raise
    rw [z7_isK]
    rfl
  exact ⟨_, _, h1, h2, rfl⟩
set_option maxRecDepth 100000 in
theorem z_grant : ∃ r1 r2, fX6_grant (fun _ => 0) (fun _ => 0) (fun _ => 0) (fun _ => 0) (fun _ => 0) (fun _ => 0) (fun _ => 0) 0 0 (-1) (fun _ => 0) (fun _ => 0) 0 (fun _ => 0) (fun _ => 0) (fun _ => 0) (fun _ => 0) (fun _ => 0) 0 0 0 = some r1 ∧ fX7_grant 0 0 (-1) (fun _ => 0) (fun _ => 0) (fun _ => 0) (fun _ => 0) (fun _ => 0) (fun _ => 0) (fun _ => 0) (fun _ => 0) 0 (fun _ => 0) (fun _ => 0) (fun _ => 0) (fun _ => 0) 0 0 0 = some r2 ∧ r1.1 = r2.1 := by
  have h1 : fX6_grant (fun _ => 0) (fun _ => 0) (fun _ => 0) (fun _ => 0) (fun _ => 0) (fun _ => 0) (fun _ => 0) 0 0 (-1) (fun _ => 0) (fun _ => 0) 0 (fun _ => 0) (fun _ => 0) (fun _ => 0) (fun _ => 0) (fun _ => 0) 0 0 0 = some ((-2000000000), (fun _ => 0), (fun _ => 0), (fun _ => 0), (fun _ => 0), 0, (fun _ => 0), (fun _ => 0), (fun _ => 0), (fun _ => 0), (fun _ => 0), 0, 0, 0) := by
    unfold fX6_grant
    rw [z_letFlow, pz0_bnd rfl, if_pos rfl]
  have h2 : fX7_grant 0 0 (-1) (fun _ => 0) (fun _ => 0) (fun _ => 0) (fun _ => 0) (fun _ => 0) (fun _ => 0) (fun _ => 0) (fun _ => 0) 0 (fun _ => 0) (fun _ => 0) (fun _ => 0) (fun _ => 0) 0 0 0 = some ((-2000000000), (fun _ => 0), (fun _ => 0), (fun _ => 0), 0, (fun _ => 0), (fun _ => 0), (fun _ => 0), (fun _ => 0), 0, 0, 0) := by
    unfold fX7_grant
    rw [z7_flows, pz0_bnd rfl, if_pos rfl]
  exact ⟨_, _, h1, h2, rfl⟩
set_option maxRecDepth 100000 in
theorem z_judge : ∃ r1 r2, fX6_judge (fun _ => 0) (fun _ => 0) (fun _ => 0) (fun _ => 0) (fun _ => 0) (fun _ => 0) (fun _ => 0) 0 0 (-1) (fun _ => 0) (fun _ => 0) 0 = some r1 ∧ fX7_judge 0 0 (-1) (fun _ => 0) (fun _ => 0) (fun _ => 0) (fun _ => 0) (fun _ => 0) (fun _ => 0) (fun _ => 0) (fun _ => 0) 0 = some r2 ∧ r1.1 = r2.1 := by
  have h1 : fX6_judge (fun _ => 0) (fun _ => 0) (fun _ => 0) (fun _ => 0) (fun _ => 0) (fun _ => 0) (fun _ => 0) 0 0 (-1) (fun _ => 0) (fun _ => 0) 0 = some ((-2000000000), (fun _ => 0), (fun _ => 0), 0) := by
    unfold fX6_judge
    rw [z0_cause, pz0_bnd rfl, if_neg (by decide)]
  have h2 : fX7_judge 0 0 (-1) (fun _ => 0) (fun _ => 0) (fun _ => 0) (fun _ => 0) (fun _ => 0) (fun _ => 0) (fun _ => 0) (fun _ => 0) 0 = some ((-2000000000), (fun _ => 0), 0) := by
    unfold fX7_judge
    rw [z7_cause, pz0_bnd rfl, if_neg (by decide)]
  exact ⟨_, _, h1, h2, rfl⟩
set_option maxRecDepth 100000 in
theorem z_count (x1 : Int32) : ∃ r1 r2, fX6_count 0 0 (-1) 0 x1 = some r1 ∧ fX7_count 0 0 (-1) 0 x1 = some r2 ∧ r1 = r2 := by
  unfold fX6_count fX7_count
  by_cases h0 : x1 = 0
  · rw [if_pos h0]; exact ⟨_, _, rfl, rfl, rfl⟩
  rw [if_neg h0]
  by_cases h1 : x1 = 1
  · rw [if_pos h1]; exact ⟨_, _, rfl, rfl, rfl⟩
  rw [if_neg h1]
  by_cases h2 : x1 = 2
  · rw [if_pos h2]; exact ⟨_, _, rfl, rfl, rfl⟩
  rw [if_neg h2]
  by_cases h3 : x1 = 3
  · rw [if_pos h3]; exact ⟨_, _, rfl, rfl, rfl⟩
  rw [if_neg h3]
  exact ⟨_, _, rfl, rfl, rfl⟩

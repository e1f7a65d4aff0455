/-! ===== PURE 7: the place of a wire in a turn; lay ===== -/
def pz_isSpot (tu : Nat → Int32) (k t : Nat) (x v : Int32) : Prop := (∃ i, i < t ∧ tu (22 * k + i) = x ∧ v = nI i ∧ ∀ j, j < i → tu (22 * k + j) ≠ x) ∨ (v = -1 ∧ ∀ j, j < t → tu (22 * k + j) ≠ x)
theorem pz_spot4 {ts tu : Nat → Int32} {k t : Nat} (hk : k < 12) (ht : ts k = nI t) (h22 : t ≤ 22) (x : Int32) : ∃ v, fX4_spotInTurn ts tu (nI k) x = some v ∧ pz_isSpot tu k t x v := by
  have c3 : dk_in (nI k) 12 = true := pz_in hk (by decide)
  have c4 : (nI k).toNatClampNeg = k := nI_clamp (by omega)
  obtain ⟨r, h1, h2⟩ := pz_fin (body := bX4_spotInTurn_2 ts tu (nI k) x) (fun j st => st = nI j ∧ ∀ i, i < j → tu (22 * k + i) ≠ x)
    (fun r => dk_sum r (fun v => pz_isSpot tu k t x v) (fun _ => ∀ j, j < t → tu (22 * k + j) ≠ x)) t (by
      intro j st hj hI
      obtain ⟨e, hne⟩ := hI
      subst e
      unfold bX4_spotInTurn_2
      rw [pz_gd c3, c4, ht]
      rcases Nat.lt_or_ge j t with h | h
      · have d3 : dk_in (nI (22 * k + j)) 264 = true := pz_in (by omega) (by decide)
        have d4 : (nI (22 * k + j)).toNatClampNeg = 22 * k + j := nI_clamp (by omega)
        rw [if_neg (nI_ge h (by omega)), pz_22, pz_gd d3, d4]
        by_cases hx : tu (22 * k + j) = x
        · left
          rw [if_pos hx]
          exact ⟨_, rfl, Or.inl ⟨j, h, hx, rfl, hne⟩⟩
        · right
          rw [if_neg hx]
          refine ⟨h, nI j + 1, rfl, nI_1 j, ?_⟩
          intro i hi
          rcases Nat.lt_or_ge i j with q | q
          · exact hne i q
          · have : i = j := by omega
            subst this
            exact hx
      · left
        have e : j = t := by omega
        subst e
        rw [if_pos (nI_le (Nat.le_refl _) (by omega))]
        exact ⟨_, rfl, hne⟩) 1000 0 0 (Nat.zero_le _) ⟨rfl, fun i hi => absurd hi (by omega)⟩ (by omega)
  unfold fX4_spotInTurn
  rw [h1, pz_bnd rfl]
  cases r with
  | inl v => exact ⟨v, rfl, h2⟩
  | inr u => exact ⟨-1, rfl, Or.inr ⟨rfl, h2⟩⟩
theorem pz_spot7 {ts tu : Nat → Int32} {k t : Nat} (hk : k < 12) (ht : ts k = nI t) (h22 : t ≤ 22) (x : Int32) : ∃ v, fX7_placeIn tu ts (nI k) x = some v ∧ pz_isSpot tu k t x v := by
  have c3 : dk_in (nI k) 12 = true := pz_in hk (by decide)
  have c4 : (nI k).toNatClampNeg = k := nI_clamp (by omega)
  obtain ⟨r, h1, h2⟩ := pz_fin (body := bX7_placeIn_2 tu ts (nI k) x) (fun j st => st = nI j ∧ ∀ i, i < j → tu (22 * k + i) ≠ x)
    (fun r => dk_sum r (fun v => pz_isSpot tu k t x v) (fun _ => ∀ j, j < t → tu (22 * k + j) ≠ x)) t (by
      intro j st hj hI
      obtain ⟨e, hne⟩ := hI
      subst e
      unfold bX7_placeIn_2
      rw [pz_gd c3, c4, ht]
      rcases Nat.lt_or_ge j t with h | h
      · have d3 : dk_in (nI (22 * k + j)) 264 = true := pz_in (by omega) (by decide)
        have d4 : (nI (22 * k + j)).toNatClampNeg = 22 * k + j := nI_clamp (by omega)
        rw [if_neg (nI_ge h (by omega)), pz_22', pz_gd d3, d4]
        by_cases hx : tu (22 * k + j) = x
        · left
          rw [if_pos hx]
          exact ⟨_, rfl, Or.inl ⟨j, h, hx, rfl, hne⟩⟩
        · right
          rw [if_neg hx]
          refine ⟨h, nI j + 1, rfl, nI_1 j, ?_⟩
          intro i hi
          rcases Nat.lt_or_ge i j with q | q
          · exact hne i q
          · have : i = j := by omega
            subst this
            exact hx
      · left
        have e : j = t := by omega
        subst e
        rw [if_pos (nI_le (Nat.le_refl _) (by omega))]
        exact ⟨_, rfl, hne⟩) 1000 0 0 (Nat.zero_le _) ⟨rfl, fun i hi => absurd hi (by omega)⟩ (by omega)
  unfold fX7_placeIn
  rw [h1, pz_bnd rfl]
  cases r with
  | inl v => exact ⟨v, rfl, h2⟩
  | inr u => exact ⟨-1, rfl, Or.inr ⟨rfl, h2⟩⟩
/-- two turns that are alike on their places give the same place -/
theorem pz_spotEq {tu mu : Nat → Int32} {k t : Nat} {x v w : Int32} (h22 : t ≤ 22) (he : ∀ i, i < t → tu (22 * k + i) = mu (22 * k + i)) (h1 : pz_isSpot tu k t x v) (h2 : pz_isSpot mu k t x w) : v = w := by
  rcases h1 with ⟨i, a1, a2, a3, a4⟩ | ⟨a1, a2⟩
  · rcases h2 with ⟨j, b1, b2, b3, b4⟩ | ⟨b1, b2⟩
    · have : i = j := by
        rcases Nat.lt_or_ge i j with q | q
        · exact absurd (by rw [← he i a1]; exact a2) (b4 i q)
        · rcases Nat.lt_or_ge j i with q2 | q2
          · exact absurd (by rw [he j b1]; exact b2) (a4 j q2)
          · omega
      rw [a3, b3, this]
    · exact absurd (by rw [← he i a1]; exact a2) (b2 i a1)
  · rcases h2 with ⟨j, b1, b2, b3, b4⟩ | ⟨b1, b2⟩
    · exact absurd (by rw [he j b1]; exact b2) (a2 j b1)
    · rw [a1, b1]

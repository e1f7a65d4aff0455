/-! ===== PURE 10: two loops side by side; fit ===== -/
theorem pz_sim {σ1 ρ1 σ2 ρ2 : Type} {b1 : σ1 → Option (ρ1 ⊕ σ1)} {b2 : σ2 → Option (ρ2 ⊕ σ2)} (R : Nat → σ1 → σ2 → Prop) (Q : ρ1 → ρ2 → Prop) (N : Nat)
    (hs : ∀ j s1 s2, j ≤ N → R j s1 s2 → (∃ r1 r2, b1 s1 = some (.inl r1) ∧ b2 s2 = some (.inl r2) ∧ Q r1 r2) ∨ (j < N ∧ ∃ t1 t2, b1 s1 = some (.inr t1) ∧ b2 s2 = some (.inr t2) ∧ R (j + 1) t1 t2)) :
    ∀ n j s1 s2, j ≤ N → R j s1 s2 → N < j + n → ∃ r1 r2, dk_loop b1 n s1 = some r1 ∧ dk_loop b2 n s2 = some r2 ∧ Q r1 r2 := by
  intro n
  induction n with
  | zero => intro j s1 s2 h1 h2 h3; omega
  | succ n ih =>
    intro j s1 s2 h1 h2 h3
    rcases hs j s1 s2 h1 h2 with ⟨r1, r2, a, b, q⟩ | ⟨hj, t1, t2, a, b, q⟩
    · refine ⟨r1, r2, ?_, ?_, q⟩
      · rw [dk_loop, a]
      · rw [dk_loop, b]
    · obtain ⟨r1, r2, a2, b2, q2⟩ := ih (j + 1) t1 t2 (by omega) q (by omega)
      refine ⟨r1, r2, ?_, ?_, q2⟩
      · rw [dk_loop, a]; exact a2
      · rw [dk_loop, b]; exact b2
theorem pz_bs {α β : Type} {a : α} {k : α → Option β} : dk_bnd (some a) k = k a := rfl
theorem pf_right {l s : Nat → Int32} {i : Nat} (h : i < 21) : fX5_right l s (nI i) = some (l i + s i) := by
  unfold fX5_right
  rw [pz_gd (pz_in h (by decide)), nI_clamp (by omega)]
theorem pf_top {l s : Nat → Int32} {i : Nat} (h : i < 21) : fX5_top l s (nI i) = some (l i + s i) := by
  unfold fX5_top
  rw [pz_gd (pz_in h (by decide)), nI_clamp (by omega)]
section
variable {D_left D_low D_side M_left M_low M_side : Nat → Int32}
theorem pf_over {i j : Nat} (hi : i < 21) (hj : j < 21) (a1 : D_left i = M_left i) (a2 : D_low i = M_low i) (a3 : D_side i = M_side i) (b1 : D_left j = M_left j) (b2 : D_low j = M_low j) (b3 : D_side j = M_side j) :
    ∃ v, fX5_overlap D_left D_low D_side (nI i) (nI j) = some v ∧ fX7_overlap M_left M_low M_side (nI i) (nI j) = some v := by
  unfold fX5_overlap fX7_overlap
  rw [pz_gd (pz_in hi (by decide)), pf_right hj, pz_bnd rfl, pz_gd (pz_in hj (by decide)), pf_right hi, pz_bnd rfl, pf_top hj, pz_bnd rfl, pf_top hi, pz_bnd rfl, pz_gd (pz_in hi (by decide)), pz_gd (pz_in hj (by decide)), nI_clamp (show i < 2 ^ 31 by omega), nI_clamp (show j < 2 ^ 31 by omega), a1, a2, a3, b1, b2, b3]
  split
  · exact ⟨_, rfl, rfl⟩
  split
  · exact ⟨_, rfl, rfl⟩
  split
  · exact ⟨_, rfl, rfl⟩
  split
  · exact ⟨_, rfl, rfl⟩
  exact ⟨_, rfl, rfl⟩
def pf_ar (s : Nat → Int32) : Nat → Int64
  | 0 => 0
  | n + 1 => pf_ar s n + (s n).toInt64 * (s n).toInt64
theorem pf_area {T : Nat} (hT : T ≤ 21) : fX5_area D_side (nI T) = some (pf_ar D_side T) := by
  obtain ⟨r, h1, h2⟩ := pz_fin (body := bX5_area_4 D_side (nI T)) (fun j st => st = (pf_ar D_side j, nI j)) (fun r => r = pf_ar D_side T) T (by
    intro j st hj hI
    subst hI
    unfold bX5_area_4
    rcases Nat.lt_or_ge j T with h | h
    · right
      refine ⟨h, _, ?_, rfl⟩
      try dsimp only
      rw [if_neg (nI_ge h (by omega)), pz_gd (pz_in (by omega) (by decide)), nI_clamp (by omega), ← nI_1]
      rfl
    · left
      have e : j = T := by omega
      subst e
      refine ⟨_, ?_, rfl⟩
      try dsimp only
      rw [if_pos (nI_le (Nat.le_refl _) (by omega))]) 1000 0 (0, 0) (by omega) rfl (by omega)
  unfold fX5_area
  rw [h1, h2]
  rfl
theorem pf_h1 {j : Nat} (h : j < 2 ^ 20) : (100 : Int32) + nI j ≠ 0 := by
  have e : (100 : Int32) + nI j = nI (100 + j) := nI_add 100 j
  rw [e]
  exact nI_ne0 (by omega) (by omega)
theorem pf_h2 {i j : Nat} (h : i < 2 ^ 20) (h2 : j < 2 ^ 20) : (1000 : Int32) + 30 * nI i + nI j ≠ 0 := by
  have e : (1000 : Int32) + 30 * nI i + nI j = nI (1000 + 30 * i + j) := by
    rw [show (30 : Int32) = nI 30 from rfl, show (1000 : Int32) = nI 1000 from rfl, pk_mul, nI_add, nI_add]
  rw [e]
  exact nI_ne0 (by omega) (by omega)
theorem pf_fault {T : Nat} (hT : T ≤ 21) (hR : ∀ i, i < T → D_left i = M_left i ∧ D_low i = M_low i ∧ D_side i = M_side i) (x1 x2 : Int32) :
    ∃ r1 r2, dk_loop (bX5_findFault_2 D_left D_low D_side (nI T) x1 x2) 1000 0 = some r1 ∧ dk_loop (bX7_fit_35 (nI T) M_left M_low M_side x1 x2) 1000 (0, 0) = some r2 ∧ ((∃ v, r1 = .inl v ∧ r2 = .inl v ∧ v ≠ 0) ∨ (r1 = .inr () ∧ r2 = .inr (pf_ar M_side T) ∧ ∀ i, i < T → ¬ x1 < M_left i + M_side i ∧ M_low i + M_side i ≤ x2)) := by
  refine pz_sim (b1 := bX5_findFault_2 D_left D_low D_side (nI T) x1 x2) (b2 := bX7_fit_35 (nI T) M_left M_low M_side x1 x2) (fun j s1 s2 => s1 = nI j ∧ s2 = (pf_ar M_side j, nI j) ∧ ∀ i, i < j → ¬ x1 < M_left i + M_side i ∧ M_low i + M_side i ≤ x2) _ T ?_ 1000 0 0 (0, 0) (by omega) ⟨rfl, rfl, fun i hi => absurd hi (by omega)⟩ (by omega)
  rintro j s1 s2 hj ⟨rfl, rfl, hall⟩
  unfold bX5_findFault_2 bX7_fit_35
  rcases Nat.lt_or_ge j T with h | h
  · obtain ⟨a1, a2, a3⟩ := hR j h
    try dsimp only
    rw [if_neg (nI_ge h (by omega)), if_neg (nI_ge h (by omega)), pf_right (by omega), pz_bnd rfl, pf_top (by omega), pz_bnd rfl, pz_gd (pz_in (by omega) (by decide)), nI_clamp (by omega), a1, a2, a3]
    by_cases c1 : x1 < M_left j + M_side j
    · rw [if_pos c1, if_pos c1]
      exact Or.inl ⟨_, _, rfl, rfl, Or.inl ⟨_, rfl, rfl, pf_h1 (by omega)⟩⟩
    rw [if_neg c1, if_neg c1]
    by_cases c2 : M_low j + M_side j ≤ x2
    · rw [if_pos c2, if_pos c2]
      refine Or.inr ⟨h, _, _, rfl, rfl, ?_, ?_, ?_⟩
      · exact nI_1 j
      · rw [← nI_1]; rfl
      · intro i hi
        by_cases e : i = j
        · subst e; exact ⟨c1, c2⟩
        · exact hall i (by omega)
    · rw [if_neg c2, if_neg c2]
      exact Or.inl ⟨_, _, rfl, rfl, Or.inl ⟨_, rfl, rfl, pf_h1 (by omega)⟩⟩
  · have e : j = T := by omega
    subst e
    try dsimp only
    rw [if_pos (nI_le (Nat.le_refl _) (by omega)), if_pos (nI_le (Nat.le_refl _) (by omega))]
    exact Or.inl ⟨_, _, rfl, rfl, Or.inr ⟨rfl, rfl, hall⟩⟩
theorem pf_pairs {T : Nat} (hT : T ≤ 21) (hR : ∀ i, i < T → D_left i = M_left i ∧ D_low i = M_low i ∧ D_side i = M_side i) (x1 x2 : Int32) (z : Int64) :
    ∃ r1 r2, dk_loop (bX5_findFault_41 D_left D_low D_side (nI T) x1 x2) 1000 0 = some r1 ∧ dk_loop (bX7_fit_117 (nI T) M_left M_low M_side x1 x2 z) 1000 0 = some r2 ∧ r1 = r2 ∧ (r1 = .inr () → ∀ i k, i < k → k < T → fX7_overlap M_left M_low M_side (nI i) (nI k) = some 0) ∧ (∀ v, r1 = .inl v → v ≠ 0) := by
  refine pz_sim (b1 := bX5_findFault_41 D_left D_low D_side (nI T) x1 x2) (b2 := bX7_fit_117 (nI T) M_left M_low M_side x1 x2 z) (fun j s1 s2 => s1 = nI j ∧ s2 = nI j ∧ ∀ i k, i < j → i < k → k < T → fX7_overlap M_left M_low M_side (nI i) (nI k) = some 0) (fun r1 r2 => r1 = r2 ∧ (r1 = .inr () → ∀ i k, i < k → k < T → fX7_overlap M_left M_low M_side (nI i) (nI k) = some 0) ∧ (∀ v, r1 = .inl v → v ≠ 0)) T ?_ 1000 0 0 0 (by omega) ⟨rfl, rfl, fun i k hi => absurd hi (by omega)⟩ (by omega)
  rintro j s1 s2 hj ⟨rfl, rfl, hall⟩
  unfold bX5_findFault_41 bX7_fit_117
  rcases Nat.lt_or_ge j T with h | h
  · obtain ⟨a1, a2, a3⟩ := hR j h
    obtain ⟨r1, r2, h1, h2, h3, h4, h5⟩ := pz_sim (b1 := bX5_findFault_54 D_left D_low D_side (nI T) x1 x2 (nI j)) (b2 := bX7_fit_132 (nI T) M_left M_low M_side x1 x2 z (nI j)) (fun k s1 s2 => s1 = nI k ∧ s2 = nI k ∧ ∀ i, j < i → i < k → fX7_overlap M_left M_low M_side (nI j) (nI i) = some 0) (fun r1 r2 => r1 = r2 ∧ (r1 = .inr () → ∀ i, j < i → i < T → fX7_overlap M_left M_low M_side (nI j) (nI i) = some 0) ∧ (∀ v, r1 = .inl v → v ≠ 0)) T (by
      rintro k s1 s2 hk ⟨rfl, rfl, hal2⟩
      unfold bX5_findFault_54 bX7_fit_132
      rcases Nat.lt_or_ge k T with h' | h'
      · obtain ⟨b1, b2, b3⟩ := hR k h'
        obtain ⟨v, v1, v2⟩ := pf_over (show j < 21 by omega) (show k < 21 by omega) a1 a2 a3 b1 b2 b3
        rw [if_neg (nI_ge h' (by omega)), if_neg (nI_ge h' (by omega)), v1, v2, pz_bnd rfl]
        by_cases c : v = 0
        · rw [if_pos c]
          refine Or.inr ⟨h', _, _, rfl, rfl, nI_1 k, nI_1 k, ?_⟩
          intro i q1 q2
          by_cases e : i = k
          · subst e; rw [v2, c]
          · exact hal2 i q1 (by omega)
        · rw [if_neg c]
          exact Or.inl ⟨_, _, rfl, rfl, rfl, (fun q => by cases q), (fun v q => by cases q; exact pf_h2 (by omega) (by omega))⟩
      · have e : k = T := by omega
        subst e
        rw [if_pos (nI_le (Nat.le_refl _) (by omega)), if_pos (nI_le (Nat.le_refl _) (by omega))]
        exact Or.inl ⟨_, _, rfl, rfl, rfl, (fun _ => hal2), (fun v q => by cases q)⟩) 1000 (j + 1) (nI (j + 1)) (nI (j + 1)) (by omega) ⟨rfl, rfl, fun i q1 q2 => absurd q1 (by omega)⟩ (by omega)
    rw [if_neg (nI_ge h (by omega)), if_neg (nI_ge h (by omega))]
    simp only [pz_let, nI_1, h1, h2, pz_bs]
    subst h3
    cases r1 with
    | inl v => exact Or.inl ⟨_, _, rfl, rfl, rfl, (fun q => by cases q), (fun v' q => by cases q; exact h5 v rfl)⟩
    | inr u =>
      refine Or.inr ⟨h, _, _, rfl, rfl, rfl, rfl, ?_⟩
      intro i k q1 q2 q3
      by_cases e : i = j
      · subst e; exact h4 rfl k q2 q3
      · exact hall i k (by omega) q2 q3
  · have e : j = T := by omega
    subst e
    rw [if_pos (nI_le (Nat.le_refl _) (by omega)), if_pos (nI_le (Nat.le_refl _) (by omega))]
    exact Or.inl ⟨_, _, rfl, rfl, rfl, (fun _ i k q1 q2 => hall i k (by omega) q1 q2), (fun v q => by cases q)⟩
theorem pf_arE {T : Nat} (h : ∀ i, i < T → D_side i = M_side i) : pf_ar D_side T = pf_ar M_side T := by
  induction T with
  | zero => rfl
  | succ n ih => rw [pf_ar, pf_ar, ih (fun i hi => h i (by omega)), h n (by omega)]
/-- what fit = 0 says -/
def pf_Fits (T : Nat) (M_left M_low M_side : Nat → Int32) (x1 x2 : Int32) : Prop :=
  1 ≤ T ∧ ¬ x1 < 1 ∧ ¬ 1000000 < x1 ∧ ¬ x2 < 1 ∧ ¬ 1000000 < x2 ∧ (∀ i, i < T → ¬ x1 < M_left i + M_side i ∧ M_low i + M_side i ≤ x2) ∧ (∀ i k, i < k → k < T → fX7_overlap M_left M_low M_side (nI i) (nI k) = some 0) ∧ lg_cmp (pf_ar M_side T) (x1.toInt64 * x2.toInt64) = 0
theorem pf_fit {T : Nat} (hT : T ≤ 21) (hR : ∀ i, i < T → D_left i = M_left i ∧ D_low i = M_low i ∧ D_side i = M_side i) (x1 x2 : Int32) :
    ∃ v, fX6_findFit D_left D_low D_side (nI T) x1 x2 = some v ∧ fX7_fit (nI T) M_left M_low M_side x1 x2 = some v ∧ (v = 0 → pf_Fits T M_left M_low M_side x1 x2) := by
  have no : ∀ {P : Prop}, (-2000000000 : Int32) = 0 → P := fun q => absurd q (by decide)
  have i0 : ∀ x : Int32, (x < 1 ∨ 1000000 < x) → fX7_in x 1 1000000 = some 0 := by
    intro x h
    unfold fX7_in
    by_cases c : x < 1
    · rw [if_pos c]
    · rw [if_neg c, if_pos (h.resolve_left c)]
  have i1 : ∀ x : Int32, ¬ x < 1 → ¬ 1000000 < x → fX7_in x 1 1000000 = some 1 := by
    intro x h h'
    unfold fX7_in
    rw [if_neg h, if_neg h']
  by_cases c1 : x1 < 1 ∨ 1000000 < x1
  · refine ⟨-2000000000, ?_, ?_, no⟩
    · unfold fX6_findFit
      by_cases c : x1 < 1
      · rw [if_pos c]
      · rw [if_neg c, if_pos (c1.resolve_left c)]
    · unfold fX7_fit
      rw [i0 _ c1]
      rfl
  by_cases c2 : x2 < 1 ∨ 1000000 < x2
  · refine ⟨-2000000000, ?_, ?_, no⟩
    · unfold fX6_findFit
      rw [if_neg (fun c => c1 (Or.inl c)), if_neg (fun c => c1 (Or.inr c))]
      by_cases c : x2 < 1
      · rw [if_pos c]
      · rw [if_neg c, if_pos (c2.resolve_left c)]
    · unfold fX7_fit
      rw [i1 _ (fun c => c1 (Or.inl c)) (fun c => c1 (Or.inr c)), i0 _ c2]
      rfl
  have d1 : ¬ x1 < 1 := fun c => c1 (Or.inl c)
  have d2 : ¬ 1000000 < x1 := fun c => c1 (Or.inr c)
  have d3 : ¬ x2 < 1 := fun c => c2 (Or.inl c)
  have d4 : ¬ 1000000 < x2 := fun c => c2 (Or.inr c)
  unfold fX6_findFit fX7_fit
  rw [if_neg d1, if_neg d2, if_neg d3, if_neg d4, i1 _ d1 d2, i1 _ d3 d4]
  show ∃ v, (if nI T = 0 then some (-2000000000) else _) = some v ∧ (if nI T = 0 then some (-2000000000) else _) = some v ∧ _
  by_cases c5 : nI T = 0
  · rw [if_pos c5, if_pos c5]; exact ⟨_, rfl, rfl, no⟩
  rw [if_neg c5, if_neg c5]
  obtain ⟨r1, r2, h1, h2, h3⟩ := pf_fault hT hR x1 x2
  unfold fX5_findFault
  rw [h1, h2, pz_bnd rfl, pz_bnd rfl]
  rcases h3 with ⟨v, rfl, rfl, hv⟩ | ⟨rfl, rfl, hall⟩
  · exact ⟨v, rfl, rfl, fun q => absurd q hv⟩
  obtain ⟨r3, r4, h5, h6, h7, h8, h9⟩ := pf_pairs hT hR x1 x2 (pf_ar M_side T)
  subst h7
  have t1 : 1 ≤ T := by
    rcases Nat.eq_zero_or_pos T with q | q
    · subst q; exact absurd rfl c5
    · exact q
  cases r3 with
  | inl v =>
    refine ⟨v, ?_, ?_, fun q => absurd q (h9 v rfl)⟩
    · show dk_bnd (dk_bnd (dk_loop (bX5_findFault_41 D_left D_low D_side (nI T) x1 x2) 1000 0) _) _ = _
      rw [h5]
      rfl
    · show dk_bnd (dk_loop (bX7_fit_117 (nI T) M_left M_low M_side x1 x2 (pf_ar M_side T)) 1000 0) _ = _
      rw [h6]
      rfl
  | inr u =>
    have g1 : dk_bnd (dk_loop (bX7_fit_117 (nI T) M_left M_low M_side x1 x2 (pf_ar M_side T)) 1000 0) (fun r_8 => dk_sum r_8 (fun zz => some zz) (fun _ => if (lg_cmp (pf_ar M_side T) ((x1.toInt64) * (x2.toInt64))) = 0 then some (0 : Int32) else some 3)) = if (lg_cmp (pf_ar M_side T) ((x1.toInt64) * (x2.toInt64))) = 0 then some 0 else some 3 := by
      rw [h6]
      rfl
    have g2 : dk_bnd (dk_loop (bX5_findFault_41 D_left D_low D_side (nI T) x1 x2) 1000 0) (fun r_3 => dk_sum r_3 (fun zz => some zz) (fun _ => dk_bnd (fX5_area D_side (nI T)) (fun r_5 => if (lg_cmp r_5 ((x1.toInt64) * (x2.toInt64))) = 0 then some (0 : Int32) else some 3))) = if (lg_cmp (pf_ar M_side T) ((x1.toInt64) * (x2.toInt64))) = 0 then some 0 else some 3 := by
      rw [h5, pf_area hT, pf_arE (fun i hi => (hR i hi).2.2)]
      rfl
    show ∃ v, dk_bnd (dk_bnd (dk_loop (bX5_findFault_41 D_left D_low D_side (nI T) x1 x2) 1000 0) (fun r_3 => dk_sum r_3 (fun zz => some zz) (fun _ => dk_bnd (fX5_area D_side (nI T)) (fun r_5 => if (lg_cmp r_5 ((x1.toInt64) * (x2.toInt64))) = 0 then some (0 : Int32) else some 3)))) (fun r_6 => some r_6) = some v ∧ dk_bnd (dk_loop (bX7_fit_117 (nI T) M_left M_low M_side x1 x2 (pf_ar M_side T)) 1000 0) (fun r_8 => dk_sum r_8 (fun zz => some zz) (fun _ => if (lg_cmp (pf_ar M_side T) ((x1.toInt64) * (x2.toInt64))) = 0 then some (0 : Int32) else some 3)) = some v ∧ _
    rw [g1, g2]
    by_cases c : lg_cmp (pf_ar M_side T) (x1.toInt64 * x2.toInt64) = 0
    · rw [if_pos c]
      exact ⟨0, rfl, rfl, fun _ => ⟨t1, d1, d2, d3, d4, hall, h8 rfl, c⟩⟩
    · rw [if_neg c]
      exact ⟨3, rfl, rfl, fun q => absurd q (by decide)⟩
theorem pc_fit {D_howMany M_told : Int32} (h : ToldRel D_left D_low D_side D_howMany M_told M_left M_low M_side) (x1 x2 : Int32) :
    ∃ r1 r2, fX6_fit D_left D_low D_side D_howMany x1 x2 = some r1 ∧ fX7_fit M_told M_left M_low M_side x1 x2 = some r2 ∧ r1 = r2 := by
  obtain ⟨e, T, hT, hb, hR⟩ := h
  subst e hT
  obtain ⟨v, h1, h2, -⟩ := pf_fit hb (fun i hi => ⟨(hR i hi).1, (hR i hi).2.1, (hR i hi).2.2.1⟩) x1 x2
  refine ⟨v, v, ?_, h2, rfl⟩
  unfold fX6_fit
  rw [h1]
  rfl
end

/-! ===== PURE 11: mirror ===== -/
theorem pz_sub {a b : Nat} (h : b ≤ a) (ha : a < 2 ^ 30) : nI a - nI b = nI (a - b) := by
  apply Int32.toInt_inj.mp
  rw [pk_sub_toInt ha (by omega), nI_toInt (by omega)]
  omega
def pm_ok (K n : Nat) (fi se ts A B : Nat → Int32) : Prop := ∀ k, k < K → ∃ t, t ≤ n ∧ ts k = nI t ∧ (∀ i, i < t → ∃ w, w < n ∧ A (22 * k + i) = nI w ∧ (fi w = nI k ∨ se w = nI k)) ∧ (∀ i j, i < t → j < t → A (22 * k + i) = A (22 * k + j) → i = j) ∧ (∀ i, i < t → A (22 * k + i) = B (22 * k + i))
def pm_sg (i j x : Nat) : Nat := if x = j then i else if x = i then j else x
theorem pm_sg_lt {i j x t : Nat} (hi : i < t) (hj : j < t) (hx : x < t) : pm_sg i j x < t := by
  unfold pm_sg
  by_cases h : x = j
  · rw [if_pos h]; exact hi
  · rw [if_neg h]
    by_cases h2 : x = i
    · rw [if_pos h2]; exact hj
    · rw [if_neg h2]; exact hx
theorem pm_sg_inj {i j x y : Nat} (h : pm_sg i j x = pm_sg i j y) : x = y := by
  unfold pm_sg at h
  by_cases a : x = j
  · rw [if_pos a] at h
    by_cases b : y = j
    · omega
    · rw [if_neg b] at h
      by_cases d : y = i
      · rw [if_pos d] at h; omega
      · rw [if_neg d] at h; omega
  · rw [if_neg a] at h
    by_cases c : x = i
    · rw [if_pos c] at h
      by_cases b : y = j
      · rw [if_pos b] at h; omega
      · rw [if_neg b] at h
        by_cases d : y = i
        · omega
        · rw [if_neg d] at h; omega
    · rw [if_neg c] at h
      by_cases b : y = j
      · rw [if_pos b] at h; omega
      · rw [if_neg b] at h
        by_cases d : y = i
        · rw [if_pos d] at h; omega
        · rw [if_neg d] at h; exact h
def pm_ex (A : Nat → Int32) (p q : Nat) : Nat → Int32 := upd (upd A p (A q)) q (A p)
theorem pm_ex_at (A : Nat → Int32) {k i j x : Nat} : pm_ex A (22 * k + i) (22 * k + j) (22 * k + x) = A (22 * k + pm_sg i j x) := by
  unfold pm_ex upd pm_sg
  by_cases h : x = j
  · rw [if_pos (by omega), if_pos h]
  · rw [if_neg (by omega), if_neg h]
    by_cases h2 : x = i
    · rw [if_pos (by omega), if_pos h2]
    · rw [if_neg (by omega), if_neg h2]
theorem pm_ex_ne (A : Nat → Int32) {k i j y : Nat} (h1 : y ≠ 22 * k + i) (h2 : y ≠ 22 * k + j) : pm_ex A (22 * k + i) (22 * k + j) y = A y := by
  unfold pm_ex upd
  rw [if_neg h2, if_neg h1]
theorem pm_sw {K n : Nat} {fi se ts A B : Nat → Int32} (hn : n ≤ 22) (h : pm_ok K n fi se ts A B) {k i j t : Nat} (hk : k < K) (ht : t ≤ n) (hts : ts k = nI t) (hi : i < t) (hj : j < t) : pm_ok K n fi se ts (pm_ex A (22 * k + i) (22 * k + j)) (pm_ex B (22 * k + i) (22 * k + j)) := by
  intro k' hk'
  obtain ⟨t', a1, a2, a3, a4, a5⟩ := h k' hk'
  refine ⟨t', a1, a2, ?_⟩
  by_cases e : k' = k
  · subst e
    have et : t' = t := pz_inj (by omega) (by omega) (by rw [← a2, hts])
    subst et
    refine ⟨fun x hx => ?_, fun x y hx hy q => ?_, fun x hx => ?_⟩
    · rw [pm_ex_at]
      exact a3 _ (pm_sg_lt hi hj hx)
    · rw [pm_ex_at, pm_ex_at] at q
      exact pm_sg_inj (a4 _ _ (pm_sg_lt hi hj hx) (pm_sg_lt hi hj hy) q)
    · rw [pm_ex_at, pm_ex_at]
      exact a5 _ (pm_sg_lt hi hj hx)
  · have ne : ∀ (C : Nat → Int32) x, x < t' → pm_ex C (22 * k + i) (22 * k + j) (22 * k' + x) = C (22 * k' + x) := fun C x hx => pm_ex_ne C (by omega) (by omega)
    refine ⟨fun x hx => ?_, fun x y hx hy q => ?_, fun x hx => ?_⟩
    · rw [ne A x hx]
      exact a3 x hx
    · rw [ne A x hx, ne A y hy] at q
      exact a4 x y hx hy q
    · rw [ne A x hx, ne B x hx]
      exact a5 x hx
theorem pm_inner {K n : Nat} {fi se ts A B : Nat → Int32} (hK : K ≤ 12) (hn : n ≤ 22) (h : pm_ok K n fi se ts A B) {k t : Nat} (hk : k < K) (ht : t ≤ n) (hts : ts k = nI t) (MK : Int32) :
    ∃ A' B', dk_loop (bX4_reverseTurn_16 ts) 1000 (nI (22 * k + 0), nI (22 * k + t) - nI (0 + 1), A) = some A' ∧ dk_loop (bX7_mirror_12 MK ts (nI k)) 1000 (nI 0, B) = some B' ∧ pm_ok K n fi se ts A' B' := by
  refine pz_sim (b1 := bX4_reverseTurn_16 ts) (b2 := bX7_mirror_12 MK ts (nI k)) (fun j s1 s2 => ∃ A B, s1 = (nI (22 * k + j), nI (22 * k + t) - nI (j + 1), A) ∧ s2 = (nI j, B) ∧ pm_ok K n fi se ts A B) (fun A' B' => pm_ok K n fi se ts A' B') 22 ?_ 1000 0 _ _ (by omega) ⟨A, B, rfl, rfl, h⟩ (by omega)
  rintro j s1 s2 hj ⟨A, B, rfl, rfl, hok⟩
  unfold bX4_reverseTurn_16 bX7_mirror_12
  try dsimp only
  have e1 : (nI (22 * k + t) - nI (j + 1) ≤ nI (22 * k + j)) ↔ t ≤ 2 * j + 1 := by
    rw [Int32.le_iff_toInt_le, pk_sub_toInt (by omega) (by omega), nI_toInt (by omega)]
    omega
  have e2 : (nI t - 1 ≤ 2 * nI j) ↔ t ≤ 2 * j + 1 := by
    rw [show (2 : Int32) * nI j = nI (2 * j) from pk_mul 2 j, show (nI t - 1 : Int32) = nI t - nI 1 from rfl, Int32.le_iff_toInt_le, pk_sub_toInt (by omega) (by omega), nI_toInt (by omega)]
    omega
  rw [pz_gd (pz_in (show k < 12 by omega) (by decide)), nI_clamp (show k < 2 ^ 31 by omega), hts]
  by_cases c : t ≤ 2 * j + 1
  · rw [if_pos (e1.mpr c), if_pos (e2.mpr c)]
    exact Or.inl ⟨_, _, rfl, rfl, hok⟩
  · rw [if_neg (fun q => c (e1.mp q)), if_neg (fun q => c (e2.mp q))]
    have f1 : nI (22 * k + t) - nI (j + 1) = nI (22 * k + (t - 1 - j)) := by
      rw [pz_sub (by omega) (by omega)]
      congr 1
      omega
    have f2 : nI t - 1 - nI j = nI (t - 1 - j) := by
      rw [show (nI t - 1 : Int32) = nI t - nI 1 from rfl, pz_sub (by omega) (by omega), pz_sub (by omega) (by omega)]
    have f3 : nI (22 * k + (t - 1 - j)) + -1 = nI (22 * k + t) - nI (j + 1 + 1) := by
      rw [← f1]
      apply Int32.toInt_inj.mp
      rw [f1, pk_sub_toInt (by omega) (by omega), show (nI (22 * k + (t - 1 - j)) + -1 : Int32) = nI (22 * k + (t - 1 - j)) - nI 1 from by rw [Int32.sub_eq_add_neg]; rfl, pk_sub_toInt (by omega) (by omega)]
      omega
    refine Or.inr ⟨by omega, (nI (22 * k + (j + 1)), nI (22 * k + t) - nI (j + 1 + 1), pm_ex A (22 * k + j) (22 * k + (t - 1 - j))), (nI (j + 1), pm_ex B (22 * k + j) (22 * k + (t - 1 - j))), ?_, ?_, _, _, rfl, rfl, pm_sw hn hok hk ht hts (by omega) (by omega)⟩
    · rw [f1]
      simp only [pz_let]
      rw [pz_gd (pz_in (show 22 * k + j < 264 by omega) (by decide)), pz_gd (pz_in (show 22 * k + (t - 1 - j) < 264 by omega) (by decide))]
      rw [f3, nI_clamp (by omega), nI_clamp (by omega), nI_1]
      rfl
    · simp only [pz_let]
      rw [f2, pz_22', pz_22', pz_gd (pz_in (by omega) (by decide)), pz_gd (pz_in (by omega) (by decide)), nI_clamp (by omega), nI_clamp (by omega), nI_1]
      rfl
theorem pm_outer {K n : Nat} {fi se ts A B : Nat → Int32} (hK : K ≤ 12) (hn : n ≤ 22) (h : pm_ok K n fi se ts A B) :
    ∃ A' B', dk_loop (bX6_mirror_2 ts (nI K)) 1000 (nI 0, A) = some A' ∧ dk_loop (bX7_mirror_2 (nI K) ts) 1000 (nI 0, B) = some B' ∧ pm_ok K n fi se ts A' B' := by
  refine pz_sim (b1 := bX6_mirror_2 ts (nI K)) (b2 := bX7_mirror_2 (nI K) ts) (fun j s1 s2 => ∃ A B, s1 = (nI j, A) ∧ s2 = (nI j, B) ∧ pm_ok K n fi se ts A B) (fun A' B' => pm_ok K n fi se ts A' B') K ?_ 1000 0 _ _ (by omega) ⟨A, B, rfl, rfl, h⟩ (by omega)
  rintro j s1 s2 hj ⟨A, B, rfl, rfl, hok⟩
  unfold bX6_mirror_2 bX7_mirror_2
  try dsimp only
  rcases Nat.lt_or_ge j K with c | c
  · obtain ⟨t, t1, t2, t3⟩ := hok j c
    obtain ⟨A', B', h1, h2, h3⟩ := pm_inner hK hn hok c t1 t2 (nI K)
    rw [if_neg (nI_ge c (by omega)), if_neg (nI_ge c (by omega))]
    refine Or.inr ⟨c, (nI (j + 1), A'), (nI (j + 1), B'), ?_, ?_, A', B', rfl, rfl, h3⟩
    · have e : fX4_reverseTurn ts A (nI j) = some A' := by
        unfold fX4_reverseTurn
        simp only [pz_let]
        rw [pz_gd (pz_in (show j < 12 by omega) (by decide)), nI_clamp (show j < 2 ^ 31 by omega), t2, pz_22, show nI j * 22 = nI (22 * j + 0) from by rw [show (22 : Int32) = nI 22 from rfl, pk_mul]; congr 1; omega]
        rw [show (nI (22 * j + t) - 1 : Int32) = nI (22 * j + t) - nI (0 + 1) from rfl, h1]
        rfl
      rw [e, pz_bs, pz_let, nI_1]
    · rw [show (0 : Int32) = nI 0 from rfl, h2, pz_bs, pz_let, nI_1]
  · have e : j = K := by omega
    subst e
    rw [if_pos (nI_le (Nat.le_refl _) (by omega)), if_pos (nI_le (Nat.le_refl _) (by omega))]
    exact Or.inl ⟨_, _, rfl, rfl, hok⟩
theorem pc_mirror {N_first N_second N_isCut N_wireClaim N_knotClaim N_turnSize N_turns : Nat → Int32} {N_knots N_wires N_power M_knots M_wires M_battery : Int32} {M_first M_second M_isCut M_turns M_turnMany M_wireClaim M_knotClaim : Nat → Int32}
    (h : NetRel N_first N_second N_isCut N_wireClaim N_knotClaim N_turnSize N_turns N_knots N_wires N_power M_knots M_wires M_battery M_first M_second M_isCut M_turns M_turnMany M_wireClaim M_knotClaim) :
    ∃ r1 r2, fX6_mirror N_turnSize N_turns N_knots = some r1 ∧ fX7_mirror M_knots M_turns M_turnMany = some r2 ∧ r1.1 = r2.1 ∧ NetRel N_first N_second N_isCut N_wireClaim N_knotClaim N_turnSize r1.2 N_knots N_wires N_power M_knots M_wires M_battery M_first M_second M_isCut r2.2 M_turnMany M_wireClaim M_knotClaim := by
  obtain ⟨rfl, rfl, rfl, rfl, rfl, rfl, rfl, rfl, K, n, rfl, rfl, ⟨o1, o2, o3, o4, o5, o6⟩, hT, hC⟩ := h
  have ok : pm_ok K n N_first N_second N_turnSize N_turns M_turns := by
    intro k hk
    obtain ⟨t, t1, t2, t3, t4⟩ := o6 k hk
    exact ⟨t, t1, t2, t3, t4, fun i hi => hT k i t hk t2 t1 hi⟩
  obtain ⟨A', B', h1, h2, h3⟩ := pm_outer o1 o2 ok
  refine ⟨(nI K, A'), (nI K, B'), ?_, ?_, rfl, rfl, rfl, rfl, rfl, rfl, rfl, rfl, rfl, K, n, rfl, rfl, ⟨o1, o2, o3, o4, o5, ?_⟩, ?_, hC⟩
  · unfold fX6_mirror
    rw [show (0 : Int32) = nI 0 from rfl, h1]
    rfl
  · unfold fX7_mirror
    rw [show (0 : Int32) = nI 0 from rfl, h2]
    rfl
  · intro k hk
    obtain ⟨t, t1, t2, t3, t4, t5⟩ := h3 k hk
    exact ⟨t, t1, t2, t3, t4⟩
  · intro k i t hk ht htn hi
    obtain ⟨t', t1, t2, t3, t4, t5⟩ := h3 k hk
    have e : t' = t := pz_inj (by omega) (by omega) (by rw [← t2, ht])
    subst e
    exact t5 i hi

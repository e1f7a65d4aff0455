/-! ===== PURE 9: whole turns ===== -/
def pz_cnt (fi se : Nat → Int32) (x : Int32) : Nat → Nat
  | 0 => 0
  | w + 1 => pz_cnt fi se x w + (if fi w = x ∨ se w = x then 1 else 0)
theorem pz_cnt_le (fi se : Nat → Int32) (x : Int32) : ∀ n, pz_cnt fi se x n ≤ n
  | 0 => Nat.le_refl 0
  | n + 1 => by
    have := pz_cnt_le fi se x n
    rw [pz_cnt]
    by_cases h : fi n = x ∨ se n = x
    · rw [if_pos h]; omega
    · rw [if_neg h]; omega
theorem pz_ends {fi se : Nat → Int32} {w : Nat} (hw : w < 22) (x : Int32) : fX4_endsAt fi se (nI w) x = some (if fi w = x ∨ se w = x then 1 else 0) := by
  have c3 : dk_in (nI w) 22 = true := pz_in hw (by decide)
  have c4 : (nI w).toNatClampNeg = w := nI_clamp (by omega)
  unfold fX4_endsAt jX4_endsAt_20
  rw [pz_gd c3, c4]
  by_cases h1 : fi w = x
  · rw [if_pos h1, if_pos (Or.inl h1)]
  · rw [if_neg h1]
    by_cases h2 : se w = x
    · rw [if_pos h2, if_pos (Or.inr h2)]
    · rw [if_neg h2, if_neg (fun q => q.elim h1 h2)]
theorem py_w14 {fi se ts : Nat → Int32} {kn : Int32} {n : Nat} (hn : n ≤ 22) (x : Int32) : dk_loop (bX4_hasWholeTurns_14 fi se ts kn (nI n) x) 1000 (0, 0) = some (nI (pz_cnt fi se x n)) := by
  obtain ⟨r, h1, h2⟩ := pz_fin (body := bX4_hasWholeTurns_14 fi se ts kn (nI n) x) (fun j st => st = (nI (pz_cnt fi se x j), nI j)) (fun r => r = nI (pz_cnt fi se x n)) n (by
      intro j st hj hI
      subst hI
      unfold bX4_hasWholeTurns_14
      try dsimp only
      rcases Nat.lt_or_ge j n with h | h
      · right
        refine ⟨h, _, ?_, rfl⟩
        rw [if_neg (nI_ge h (by omega)), pz_ends (by omega), pz_bnd rfl, pz_cnt, ← nI_1]
        by_cases q : fi j = x ∨ se j = x
        · rw [if_pos q, if_pos q, if_neg (by decide), ← nI_1]
          rfl
        · rw [if_neg q, if_neg q, if_pos rfl]
          unfold jX4_hasWholeTurns_37
          rw [pz_let, pz_let, show nI (pz_cnt fi se x j) + 0 = nI (pz_cnt fi se x j + 0) from nI_add _ 0]
      · left
        have e : j = n := by omega
        subst e
        refine ⟨_, ?_, rfl⟩
        rw [if_pos (nI_le (Nat.le_refl _) (by omega))]) 1000 0 (0, 0) (Nat.zero_le _) rfl (by omega)
  rw [h1, h2]
theorem py_a14 {fi se ts : Nat → Int32} {kn : Int32} {n : Nat} (hn : n ≤ 22) (x : Int32) : dk_loop (bX7_areTurns_14 kn (nI n) fi se ts x) 1000 (0, 0) = some (nI (pz_cnt fi se x n)) := by
  obtain ⟨r, h1, h2⟩ := pz_fin (body := bX7_areTurns_14 kn (nI n) fi se ts x) (fun j st => st = (nI (pz_cnt fi se x j), nI j)) (fun r => r = nI (pz_cnt fi se x n)) n (by
      intro j st hj hI
      subst hI
      unfold bX7_areTurns_14
      try dsimp only
      rcases Nat.lt_or_ge j n with h | h
      · right
        refine ⟨h, _, ?_, rfl⟩
        have c3 : dk_in (nI j) 22 = true := pz_in (by omega) (by decide)
        have c4 : (nI j).toNatClampNeg = j := nI_clamp (by omega)
        rw [if_neg (nI_ge h (by omega)), pz_gd c3, c4, pz_cnt, ← nI_1]
        unfold jX7_areTurns_43 jX7_areTurns_48
        by_cases q1 : fi j = x
        · rw [if_pos q1, if_pos (Or.inl q1), ← nI_1]
          rfl
        · rw [if_neg q1]
          by_cases q2 : se j = x
          · rw [if_pos q2, if_pos (Or.inr q2), ← nI_1]
            rfl
          · rw [if_neg q2, if_neg (fun q => q.elim q1 q2), pz_let, pz_let, show nI (pz_cnt fi se x j) + 0 = nI (pz_cnt fi se x j + 0) from nI_add _ 0]
      · left
        have e : j = n := by omega
        subst e
        refine ⟨_, ?_, rfl⟩
        rw [if_pos (nI_le (Nat.le_refl _) (by omega))]) 1000 0 (0, 0) (Nat.zero_le _) rfl (by omega)
  rw [h1, h2]
/-- the turns have each wire that ends there -/
def pz_whole (fi se ts : Nat → Int32) (K n : Nat) : Prop := ∀ k, k < K → nI (pz_cnt fi se (nI k) n) = ts k
theorem py_whole {fi se ts : Nat → Int32} {K n : Nat} (hK : K ≤ 12) (hn : n ≤ 22) : (fX4_hasWholeTurns fi se ts (nI K) (nI n) = some 1 ∧ fX7_areTurns (nI K) (nI n) fi se ts = some 1 ∧ pz_whole fi se ts K n) ∨ (fX4_hasWholeTurns fi se ts (nI K) (nI n) = some 0 ∧ fX7_areTurns (nI K) (nI n) fi se ts = some 0 ∧ ¬ pz_whole fi se ts K n) := by
  obtain ⟨r, h1, h2⟩ := pz_fin (body := bX4_hasWholeTurns_2 fi se ts (nI K) (nI n)) (fun j st => st = nI j ∧ pz_whole fi se ts j n)
    (fun r => dk_sum r (fun v => v = 0 ∧ ¬ pz_whole fi se ts K n) (fun _ => pz_whole fi se ts K n)) K (by
      intro j st hj hI
      obtain ⟨e, hw⟩ := hI
      subst e
      unfold bX4_hasWholeTurns_2
      rcases Nat.lt_or_ge j K with h | h
      · have c3 : dk_in (nI j) 12 = true := pz_in (by omega) (by decide)
        have c4 : (nI j).toNatClampNeg = j := nI_clamp (by omega)
        rw [if_neg (nI_ge h (by omega)), py_w14 hn, pz_bnd rfl, pz_gd c3, c4]
        by_cases q : nI (pz_cnt fi se (nI j) n) = ts j
        · right
          rw [if_pos q]
          refine ⟨h, nI j + 1, rfl, nI_1 j, ?_⟩
          intro k hk
          rcases Nat.lt_or_ge k j with a | a
          · exact hw k a
          · have : k = j := by omega
            subst this
            exact q
        · left
          rw [if_neg q]
          exact ⟨_, rfl, rfl, fun a => q (a j h)⟩
      · left
        have e : j = K := by omega
        subst e
        rw [if_pos (nI_le (Nat.le_refl _) (by omega))]
        exact ⟨_, rfl, hw⟩) 1000 0 0 (Nat.zero_le _) ⟨rfl, fun k hk => absurd hk (by omega)⟩ (by omega)
  obtain ⟨r', h1', h2'⟩ := pz_fin (body := bX7_areTurns_2 (nI K) (nI n) fi se ts) (fun j st => st = nI j ∧ pz_whole fi se ts j n)
    (fun r => dk_sum r (fun v => v = 0 ∧ ¬ pz_whole fi se ts K n) (fun _ => pz_whole fi se ts K n)) K (by
      intro j st hj hI
      obtain ⟨e, hw⟩ := hI
      subst e
      unfold bX7_areTurns_2
      rcases Nat.lt_or_ge j K with h | h
      · have c3 : dk_in (nI j) 12 = true := pz_in (by omega) (by decide)
        have c4 : (nI j).toNatClampNeg = j := nI_clamp (by omega)
        rw [if_neg (nI_ge h (by omega)), py_a14 hn, pz_bnd rfl, pz_gd c3, c4]
        by_cases q : ts j = nI (pz_cnt fi se (nI j) n)
        · right
          rw [if_pos q]
          refine ⟨h, nI j + 1, rfl, nI_1 j, ?_⟩
          intro k hk
          rcases Nat.lt_or_ge k j with a | a
          · exact hw k a
          · have : k = j := by omega
            subst this
            exact q.symm
        · left
          rw [if_neg q]
          exact ⟨_, rfl, rfl, fun a => q (a j h).symm⟩
      · left
        have e : j = K := by omega
        subst e
        rw [if_pos (nI_le (Nat.le_refl _) (by omega))]
        exact ⟨_, rfl, hw⟩) 1000 0 0 (Nat.zero_le _) ⟨rfl, fun k hk => absurd hk (by omega)⟩ (by omega)
  unfold fX4_hasWholeTurns fX7_areTurns
  rw [h1, h1', pz_bnd rfl, pz_bnd rfl]
  cases r with
  | inl v =>
    obtain ⟨a, b⟩ := h2
    cases r' with
    | inl v' =>
      obtain ⟨a', b'⟩ := h2'
      right
      subst a a'
      exact ⟨rfl, rfl, b⟩
    | inr u' => exact absurd h2' b
  | inr u =>
    cases r' with
    | inl v' => exact absurd h2 h2'.2
    | inr u' => exact Or.inl ⟨rfl, rfl, h2⟩

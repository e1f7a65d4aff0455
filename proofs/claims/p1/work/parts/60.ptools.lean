/-! ===== PURE 0: loops that end, numbers, the invariant's words ===== -/
theorem pz_fin {σ ρ : Type} {body : σ → Option (ρ ⊕ σ)} (I : Nat → σ → Prop) (Q : ρ → Prop) (N : Nat)
    (hs : ∀ j s, j ≤ N → I j s → (∃ r, body s = some (.inl r) ∧ Q r) ∨ (j < N ∧ ∃ s', body s = some (.inr s') ∧ I (j + 1) s')) :
    ∀ n j s, j ≤ N → I j s → N < j + n → ∃ r, dk_loop body n s = some r ∧ Q r := by
  intro n
  induction n with
  | zero => intro j s h1 h2 h3; omega
  | succ n ih =>
    intro j s h1 h2 h3
    rcases hs j s h1 h2 with ⟨r, hr, hq⟩ | ⟨hj, s', hs', hi⟩
    · refine ⟨r, ?_, hq⟩
      rw [dk_loop, hr]
    · obtain ⟨r, hr, hq⟩ := ih (j + 1) s' (by omega) hi (by omega)
      refine ⟨r, ?_, hq⟩
      rw [dk_loop, hs']
      exact hr
theorem pz_in {i n : Nat} (h : i < n) (hn : n < 2 ^ 31) : dk_in (nI i) n = true := by
  have h1 : vp_in (nI i) n := vp_in_nI h hn
  exact decide_eq_true h1
theorem pz_gd {β : Type} {b : Bool} {k : Option β} (h : b = true) : dk_gd b k = k := by subst h; rfl
theorem pz_b0 : dk_bo 0 = true := by decide
theorem pz_b1 : dk_bo 1 = true := by decide
theorem pz_bnd {α β : Type} {x : Option α} {a : α} {k : α → Option β} (h : x = some a) : dk_bnd x k = k a := by subst h; rfl
theorem pz_let {α β : Type} {e : α} {k : α → β} : dk_let e k = k e := rfl
theorem pz_22 (k i : Nat) : nI k * 22 + nI i = nI (22 * k + i) := by
  have e : (22 : Int32) = nI 22 := rfl
  rw [e, pk_mul, nI_add, Nat.mul_comm]
theorem pz_22' (k i : Nat) : 22 * nI k + nI i = nI (22 * k + i) := by
  have e : (22 : Int32) = nI 22 := rfl
  rw [e, pk_mul, nI_add]
theorem pz_inj {a b : Nat} (ha : a < 2 ^ 31) (hb : b < 2 ^ 31) (h : nI a = nI b) : a = b := (nI_eq ha hb).mp h
theorem pz_m1 {a : Nat} (ha : a < 2 ^ 31) : ¬ nI a = -1 := by
  intro h
  have h1 := nI_toInt ha
  rw [h] at h1
  have e : ((-1 : Int32)).toInt = -1 := by decide
  omega
/-- is x one of 0 .. K - 1 -/
theorem pz_kn {K : Nat} (hK : K ≤ 2 ^ 30) (x : Int32) : (∃ k, k < K ∧ x = nI k) ∨ (fX4_isKnot (nI K) x = some 0 ∧ fX7_isKnot (nI K) x = some 0 ∧ fX4_isWire (nI K) x = some 0 ∧ fX7_isWire (nI K) x = some 0) := by
  by_cases hx : x < 0
  · right
    have h7 : fX7_in x 0 (nI K - 1) = some 0 := by unfold fX7_in; rw [if_pos hx]
    refine ⟨?_, ?_, ?_, ?_⟩
    · unfold fX4_isKnot; rw [if_pos hx]
    · unfold fX7_isKnot; rw [h7]; rfl
    · unfold fX4_isWire; rw [if_pos hx]
    · unfold fX7_isWire; rw [h7]; rfl
  · obtain ⟨j, hj, rfl⟩ := nI_of hx
    by_cases hjK : j < K
    · exact Or.inl ⟨j, hjK, rfl⟩
    · right
      have hle : nI K ≤ nI j := nI_le (by omega) hj
      have hlt : nI K - 1 < nI j := by
        rw [Int32.lt_iff_toInt_lt]
        have e1 : (nI K - nI 1).toInt = (K : Int) - (1 : Nat) := by
          rcases Nat.lt_or_ge K (2 ^ 30) with h | h
          · exact pk_sub_toInt h (by decide)
          · have : K = 2 ^ 30 := by omega
            subst this
            decide
        have e2 := nI_toInt hj
        have e3 : (nI K - 1 : Int32) = nI K - nI 1 := rfl
        rw [e3, e1, e2]
        omega
      have h7 : fX7_in (nI j) 0 (nI K - 1) = some 0 := by unfold fX7_in; rw [if_neg hx, if_pos hlt]
      refine ⟨?_, ?_, ?_, ?_⟩
      · unfold fX4_isKnot; rw [if_neg hx, if_pos hle]
      · unfold fX7_isKnot; rw [h7]; rfl
      · unfold fX4_isWire; rw [if_neg hx, if_pos hle]
      · unfold fX7_isWire; rw [h7]; rfl
theorem pz_kn1 {K k : Nat} (hK : K < 2 ^ 30) (hk : k < K) : fX4_isKnot (nI K) (nI k) = some 1 ∧ fX7_isKnot (nI K) (nI k) = some 1 ∧ fX4_isWire (nI K) (nI k) = some 1 ∧ fX7_isWire (nI K) (nI k) = some 1 := by
  have hx : ¬ nI k < 0 := nI_pos (by omega)
  have hle : ¬ nI K ≤ nI k := nI_ge hk (by omega)
  have hlt : ¬ (nI K - 1 < nI k) := by
    rw [Int32.lt_iff_toInt_lt]
    have e1 : (nI K - nI 1).toInt = (K : Int) - (1 : Nat) := pk_sub_toInt hK (by decide)
    have e2 : (nI k).toInt = (k : Int) := nI_toInt (by omega)
    have e3 : (nI K - 1 : Int32) = nI K - nI 1 := rfl
    rw [e3, e1, e2]
    omega
  have h7 : fX7_in (nI k) 0 (nI K - 1) = some 1 := by unfold fX7_in; rw [if_neg hx, if_neg hlt]
  refine ⟨?_, ?_, ?_, ?_⟩
  · unfold fX4_isKnot; rw [if_neg hx, if_neg hle]
  · unfold fX7_isKnot; rw [h7]; rfl
  · unfold fX4_isWire; rw [if_neg hx, if_neg hle]
  · unfold fX7_isWire; rw [h7]; rfl
/-- different values of t places lie below n: t ≤ n -/
theorem pz_pigeon : ∀ (n t : Nat) (f : Nat → Nat), (∀ i, i < t → f i < n) → (∀ i j, i < t → j < t → f i = f j → i = j) → t ≤ n := by
  intro n
  induction n with
  | zero =>
    intro t f h1 _
    rcases Nat.eq_zero_or_pos t with h | h
    · omega
    · exact absurd (h1 0 h) (by omega)
  | succ n ih =>
    intro t f h1 h2
    rcases Nat.eq_zero_or_pos t with h | h
    · omega
    -- move the place of the value n (if any) to the end
    by_cases hex : ∃ i, i < t ∧ f i = n
    · obtain ⟨i0, hi0, hf0⟩ := hex
      have := ih (t - 1) (fun i => if i = i0 then f (t - 1) else f i) (by
        intro i hi
        by_cases e : i = i0
        · rw [if_pos e]
          have a := h1 (t - 1) (by omega)
          have b : f (t - 1) ≠ n := by
            intro q
            have := h2 (t - 1) i0 (by omega) hi0 (by rw [q, hf0])
            omega
          omega
        · rw [if_neg e]
          have a := h1 i (by omega)
          have b : f i ≠ n := fun q => e (h2 i i0 (by omega) hi0 (by rw [q, hf0]))
          omega) (by
        intro i j hi hj e
        by_cases ei : i = i0
        · by_cases ej : j = i0
          · omega
          · rw [if_pos ei, if_neg ej] at e
            have := h2 (t - 1) j (by omega) (by omega) e
            omega
        · by_cases ej : j = i0
          · rw [if_neg ei, if_pos ej] at e
            have := h2 i (t - 1) (by omega) (by omega) e
            omega
          · rw [if_neg ei, if_neg ej] at e
            exact h2 i j (by omega) (by omega) e)
      omega
    · have := ih t f (by
        intro i hi
        have a := h1 i hi
        have b : f i ≠ n := fun q => hex ⟨i, hi, q⟩
        omega) h2
      omega
/-- the net: K knots, n wires -/
def NetOk (K n : Nat) (fi se cu ts tu : Nat → Int32) (po : Int32) : Prop :=
  K ≤ 12 ∧ n ≤ 22 ∧ (po = -1 ∨ ∃ p, p < n ∧ po = nI p ∧ cu p = 0) ∧
  (∀ w, w < n → ∃ a b, a < K ∧ b < K ∧ a ≠ b ∧ fi w = nI a ∧ se w = nI b) ∧
  (∀ w, cu w = 0 ∨ cu w = 1) ∧
  (∀ k, k < K → ∃ t, t ≤ n ∧ ts k = nI t ∧ (∀ i, i < t → ∃ w, w < n ∧ tu (22 * k + i) = nI w ∧ (fi w = nI k ∨ se w = nI k)) ∧ (∀ i j, i < t → j < t → tu (22 * k + i) = tu (22 * k + j) → i = j))
/-- the class's net and the reference's -/
def NetRel (N_first N_second N_isCut N_wireClaim N_knotClaim N_turnSize N_turns : Nat → Int32) (N_knots N_wires N_power : Int32) (M_knots M_wires M_battery : Int32) (M_first M_second M_isCut M_turns M_turnMany M_wireClaim M_knotClaim : Nat → Int32) : Prop :=
  N_first = M_first ∧ N_second = M_second ∧ N_isCut = M_isCut ∧ N_wireClaim = M_wireClaim ∧ N_turnSize = M_turnMany ∧ N_knots = M_knots ∧ N_wires = M_wires ∧ N_power = M_battery ∧
  ∃ K n : Nat, N_knots = nI K ∧ N_wires = nI n ∧ NetOk K n N_first N_second N_isCut N_turnSize N_turns N_power ∧ (∀ k i t, k < K → N_turnSize k = nI t → t ≤ n → i < t → N_turns (22 * k + i) = M_turns (22 * k + i)) ∧ (∀ k, k < K → N_knotClaim k = M_knotClaim k)
def ToldRel (D_left D_low D_side : Nat → Int32) (D_howMany : Int32) (M_told : Int32) (M_left M_low M_side : Nat → Int32) : Prop :=
  D_howMany = M_told ∧ ∃ T : Nat, D_howMany = nI T ∧ T ≤ 21 ∧ ∀ i, i < T → D_left i = M_left i ∧ D_low i = M_low i ∧ D_side i = M_side i ∧ ∃ a b c : Nat, a ≤ 2 ^ 28 ∧ b ≤ 2 ^ 28 ∧ 1 ≤ c ∧ c ≤ 2 ^ 28 ∧ D_left i = nI a ∧ D_low i = nI b ∧ D_side i = nI c
def KeptRel (kq : Option KT) (M_hasKept M_keptKnots M_keptWires M_keptBattery : Int32) (M_keptFirst M_keptSecond M_keptTurns M_keptMany M_keptWire M_keptKnot M_keptCut : Nat → Int32) : Prop := match kq with
  | none => M_hasKept = 0 ∧ M_keptFirst = (fun _ => 0) ∧ M_keptSecond = (fun _ => 0) ∧ M_keptCut = (fun _ => 0) ∧ M_keptWire = (fun _ => 0) ∧ M_keptMany = (fun _ => 0)
  | some k => M_hasKept = 1 ∧ NetRel k.1 k.2.1 k.2.2.1 k.2.2.2.1 k.2.2.2.2.1 k.2.2.2.2.2.1 k.2.2.2.2.2.2.1 k.2.2.2.2.2.2.2.1 k.2.2.2.2.2.2.2.2.1 k.2.2.2.2.2.2.2.2.2 M_keptKnots M_keptWires M_keptBattery M_keptFirst M_keptSecond M_keptCut M_keptTurns M_keptMany M_keptWire M_keptKnot

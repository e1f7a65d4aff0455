/-! ===== PURE 12: what hangs together ===== -/
def bt (x : Int32) (k : Nat) : Bool := x.toBitVec.getLsbD k
theorem bt_or (x y : Int32) (k : Nat) : bt (x ||| y) k = (bt x k || bt y k) := by
  unfold bt; rw [Int32.toBitVec_or, BitVec.getLsbD_or]
theorem bt_and (x y : Int32) (k : Nat) : bt (x &&& y) k = (bt x k && bt y k) := by
  unfold bt; rw [Int32.toBitVec_and, BitVec.getLsbD_and]
theorem bt_ext {x y : Int32} (h : ∀ k, k < 32 → bt x k = bt y k) : x = y := by
  apply Int32.toBitVec_inj.mp
  apply BitVec.eq_of_getLsbD_eq
  intro i hi
  exact h i hi
theorem bt_hi (x : Int32) {k : Nat} (h : 32 ≤ k) : bt x k = false := BitVec.getLsbD_of_ge _ _ h
theorem bt_0 (k : Nat) : bt 0 k = false := by unfold bt; simp
def pe (k : Nat) : Int32 := (1 : Int32) <<< (nI k &&& 31)
theorem bt_pe1 : ∀ k, k < 12 → ∀ j, j < 32 → bt (pe k) j = decide (j = k) := by decide
theorem bt_full : ∀ k, k < 13 → ∀ j, j < 32 → bt (pe k - 1) j = decide (j < k) := by decide
theorem bt_one (x : Int32) : x &&& 1 = if bt x 0 then 1 else 0 := by
  apply bt_ext
  intro k hk
  rw [bt_and]
  by_cases h : k = 0
  · subst h
    by_cases g : bt x 0 = true
    · rw [if_pos g, g]; decide
    · rw [if_neg g]
      have : bt x 0 = false := by simpa using g
      rw [this, bt_0]; rfl
  · have e : bt 1 k = false := by
      have : ∀ k, k < 32 → k ≠ 0 → bt 1 k = false := by decide
      exact this k hk h
    rw [e, Bool.and_false]
    by_cases g : bt x 0 = true
    · rw [if_pos g, e]
    · rw [if_neg g, bt_0]
theorem bt_shr (x : Int32) {k : Nat} (h : k < 12) : bt (x >>> (nI k &&& 31)) 0 = bt x k := by
  unfold bt
  rw [Int32.toBitVec_shiftRight]
  have e : ((nI k &&& 31).toBitVec.smod 32).toNat = k := by
    have : ∀ k, k < 12 → ((nI k &&& 31).toBitVec.smod 32).toNat = k := by decide
    exact this k h
  rw [BitVec.sshiftRight_eq', e, BitVec.getLsbD_sshiftRight]
  simp
  omega
theorem bt_pe {k : Nat} (hk : k < 12) (j : Nat) : bt (pe k) j = decide (j = k) := by
  rcases Nat.lt_or_ge j 32 with h | h
  · exact bt_pe1 k hk j h
  · rw [bt_hi _ h, decide_eq_false (by omega)]
/-- the wires that count -/
def ph_al (x1 : Int32) (cu : Nat → Int32) (po : Int32) (j : Nat) : Prop := x1 = 0 ∨ (nI j ≠ po ∧ cu j = 0)
/-- one pass over the first j wires -/
def ph_p (a b : Nat → Nat) (al : Nat → Bool) : Nat → Int32 → Int32
  | 0, m => m
  | j + 1, m => if al j = true ∧ (bt (ph_p a b al j m) (a j) || bt (ph_p a b al j m) (b j)) = true then ph_p a b al j m ||| (pe (a j) ||| pe (b j)) else ph_p a b al j m
section
variable {a b : Nat → Nat} {al : Nat → Bool} {n K : Nat}
theorem ph_bt2 {j : Nat} (ha : a j < 12) (hb : b j < 12) (x : Int32) (k : Nat) : bt (x ||| (pe (a j) ||| pe (b j))) k = (bt x k || (decide (k = a j) || decide (k = b j))) := by
  rw [bt_or, bt_or, bt_pe ha, bt_pe hb]
theorem ph_and0 {j : Nat} (ha : a j < 12) (hb : b j < 12) (x : Int32) : (x &&& (pe (a j) ||| pe (b j)) = 0) ↔ (bt x (a j) || bt x (b j)) = false := by
  constructor
  · intro h
    have f : ∀ k, (bt x k && (decide (k = a j) || decide (k = b j))) = false := fun k => by
      have e : bt (x &&& (pe (a j) ||| pe (b j))) k = bt 0 k := by rw [h]
      rw [bt_and, bt_or, bt_pe ha, bt_pe hb, bt_0] at e
      exact e
    have f1 := f (a j)
    have f2 := f (b j)
    simp at f1 f2
    simp [f1, f2]
  · intro h
    simp at h
    apply bt_ext
    intro k _
    rw [bt_and, bt_or, bt_pe ha, bt_pe hb, bt_0]
    by_cases q1 : k = a j
    · subst q1; simp [h.1]
    · by_cases q2 : k = b j
      · subst q2; simp [h.2]
      · simp [q1, q2]
theorem ph_mono (hab : ∀ w, w < n → a w < 12 ∧ b w < 12) : ∀ j, j ≤ n → ∀ m k, bt m k = true → bt (ph_p a b al j m) k = true
  | 0, _, _, _, h => h
  | j + 1, hj, m, k, h => by
    have i1 := ph_mono hab j (by omega) m k h
    rw [ph_p]
    by_cases c : al j = true ∧ (bt (ph_p a b al j m) (a j) || bt (ph_p a b al j m) (b j)) = true
    · rw [if_pos c, ph_bt2 (hab j (by omega)).1 (hab j (by omega)).2, i1, Bool.true_or]
    · rw [if_neg c]; exact i1
/-- where a pass leaves all as it was, each wire's ends are both reached or none -/
theorem ph_same (hab : ∀ w, w < n → a w < 12 ∧ b w < 12) : ∀ j, j ≤ n → ∀ m, ph_p a b al j m = m → ∀ i, i < j → al i = true → bt m (a i) = bt m (b i)
  | 0, _, _, _, i, hi, _ => absurd hi (by omega)
  | j + 1, hj, m, h, i, hi, hal => by
    have key : ph_p a b al j m = m := by
      apply bt_ext
      intro k _
      cases q : bt m k with
      | true => exact ph_mono hab j (by omega) m k q
      | false =>
        cases q2 : bt (ph_p a b al j m) k with
        | false => rfl
        | true =>
          have e : bt (ph_p a b al (j + 1) m) k = true := by
            rw [ph_p]
            by_cases c : al j = true ∧ (bt (ph_p a b al j m) (a j) || bt (ph_p a b al j m) (b j)) = true
            · rw [if_pos c, ph_bt2 (hab j (by omega)).1 (hab j (by omega)).2, q2, Bool.true_or]
            · rw [if_neg c]; exact q2
          rw [h, q] at e
          exact absurd e (by decide)
    by_cases g : i = j
    · subst g
      rw [ph_p, key] at h
      by_cases c : (bt m (a i) || bt m (b i)) = true
      · rw [if_pos ⟨hal, c⟩] at h
        have f : ∀ k, bt (m ||| (pe (a i) ||| pe (b i))) k = bt m k := fun k => by rw [h]
        have f1 := f (a i)
        have f2 := f (b i)
        rw [ph_bt2 (hab i (by omega)).1 (hab i (by omega)).2] at f1 f2
        simp at f1 f2
        rw [f1, f2]
      · simp at c
        rw [c.1, c.2]
    · exact ph_same hab j (by omega) m key i (by omega) hal
/-- what is reached stays within what is alike -/
theorem ph_in (hab : ∀ w, w < n → a w < 12 ∧ b w < 12) (Q : Nat → Prop) (hQ : ∀ w, w < n → al w = true → (Q (a w) ↔ Q (b w))) : ∀ j, j ≤ n → ∀ m, (∀ k, bt m k = true → Q k) → ∀ k, bt (ph_p a b al j m) k = true → Q k
  | 0, _, _, h, k, hk => h k hk
  | j + 1, hj, m, h, k, hk => by
    have ih := ph_in hab Q hQ j (by omega) m h
    rw [ph_p] at hk
    by_cases c : al j = true ∧ (bt (ph_p a b al j m) (a j) || bt (ph_p a b al j m) (b j)) = true
    · rw [if_pos c, ph_bt2 (hab j (by omega)).1 (hab j (by omega)).2] at hk
      obtain ⟨c1, c2⟩ := c
      have both : Q (a j) ∧ Q (b j) := by
        have q := hQ j (by omega) c1
        rcases (Bool.or_eq_true _ _ |>.mp c2) with g | g
        · exact ⟨ih _ g, q.mp (ih _ g)⟩
        · exact ⟨q.mpr (ih _ g), ih _ g⟩
      rcases (Bool.or_eq_true _ _ |>.mp hk) with g | g
      · exact ih k g
      · rcases (Bool.or_eq_true _ _ |>.mp g) with g | g
        · rw [of_decide_eq_true g]; exact both.1
        · rw [of_decide_eq_true g]; exact both.2
    · rw [if_neg c] at hk
      exact ih k hk
def ph_it (a b : Nat → Nat) (al : Nat → Bool) (n : Nat) : Nat → Int32
  | 0 => 1
  | i + 1 => ph_p a b al n (ph_it a b al n i)
theorem ph_cnt_lt {O P : Nat → Bool} : ∀ K, (∀ k, k < K → O k = true → P k = true) → (∃ k, k < K ∧ O k = false ∧ P k = true) → ds_cnt K O < ds_cnt K P
  | 0, _, h => by obtain ⟨k, hk, _⟩ := h; omega
  | K + 1, h1, h2 => by
    obtain ⟨k, hk, o, p⟩ := h2
    rw [ds_cnt, ds_cnt]
    by_cases g : k = K
    · subst g
      have := ds_cnt_mono k (fun i hi => h1 i (by omega))
      rw [o, p]
      simp
      omega
    · have ih := ph_cnt_lt K (fun i hi => h1 i (by omega)) ⟨k, by omega, o, p⟩
      by_cases q : O K = true
      · rw [if_pos q, if_pos (h1 K (by omega) q)]
        omega
      · rw [if_neg q]
        omega
theorem ph_itK (hab : ∀ w, w < n → a w < K ∧ b w < K) (hK : K ≤ 12) (h0 : 0 < K) : ∀ i, (∀ k, bt (ph_it a b al n i) k = true → k < K) ∧ (ph_p a b al n (ph_it a b al n i) = ph_it a b al n i ∨ i + 1 ≤ ds_cnt K (bt (ph_it a b al n i)))
  | 0 => by
    have f : ∀ k, bt (1 : Int32) k = true → k = 0 := fun k hk => by
      rcases Nat.lt_or_ge k 32 with h | h
      · have : ∀ k, k < 32 → bt (1 : Int32) k = true → k = 0 := by decide
        exact this k h hk
      · rw [bt_hi _ h] at hk
        exact absurd hk (by decide)
    refine ⟨fun k hk => ?_, Or.inr ?_⟩
    · rw [f k hk]; exact h0
    · have e : bt (1 : Int32) 0 = true := by decide
      have := ds_cnt_off (bt (ph_it a b al n 0)) 0 e K h0
      omega
  | i + 1 => by
    have hab12 : ∀ w, w < n → a w < 12 ∧ b w < 12 := fun w hw => ⟨by have := (hab w hw).1; omega, by have := (hab w hw).2; omega⟩
    obtain ⟨h1, h2⟩ := ph_itK hab hK h0 i
    refine ⟨fun k hk => ph_in hab12 (fun k => k < K) (fun w hw _ => ⟨fun _ => (hab w hw).2, fun _ => (hab w hw).1⟩) n (Nat.le_refl _) _ h1 k hk, ?_⟩
    by_cases e : ph_p a b al n (ph_it a b al n i) = ph_it a b al n i
    · left
      show ph_p a b al n (ph_p a b al n (ph_it a b al n i)) = ph_p a b al n (ph_it a b al n i)
      rw [e, e]
    · right
      rcases h2 with h2 | h2
      · exact absurd h2 e
      · have : ds_cnt K (bt (ph_it a b al n i)) < ds_cnt K (bt (ph_it a b al n (i + 1))) := by
          refine ph_cnt_lt K (fun k _ hk => ph_mono hab12 n (Nat.le_refl _) _ k hk) ?_
          refine Classical.byContradiction (fun hno => e ?_)
          apply bt_ext
          intro k _
          cases q : bt (ph_it a b al n i) k with
          | true => exact ph_mono hab12 n (Nat.le_refl _) _ k q
          | false =>
            cases q2 : bt (ph_p a b al n (ph_it a b al n i)) k with
            | false => rfl
            | true =>
              have hkK : k < K := ph_in hab12 (fun k => k < K) (fun w hw _ => ⟨fun _ => (hab w hw).2, fun _ => (hab w hw).1⟩) n (Nat.le_refl _) _ h1 k q2
              exact absurd ⟨k, hkK, q, q2⟩ hno
        omega
theorem ph_fix (hab : ∀ w, w < n → a w < K ∧ b w < K) (hK : K ≤ 12) (h0 : 0 < K) : ph_p a b al n (ph_it a b al n K) = ph_it a b al n K := by
  rcases (ph_itK (al := al) hab hK h0 K).2 with h | h
  · exact h
  · have := ds_cnt_le (bt (ph_it a b al n K)) K
    omega
theorem ph_stay {i : Nat} (h : ph_p a b al n (ph_it a b al n i) = ph_it a b al n i) : ∀ d, ph_it a b al n (i + d) = ph_it a b al n i
  | 0 => rfl
  | d + 1 => by
    show ph_p a b al n (ph_it a b al n (i + d)) = _
    rw [ph_stay h d, h]
end
section
variable {K n : Nat} {fi se cu : Nat → Int32} {a b : Nat → Nat} {po x1 : Int32}
theorem ph_pl4 {j : Nat} (hj : j < 22) : fX4_isPlain cu po (nI j) = some (if nI j ≠ po ∧ cu j = 0 then 1 else 0) := by
  unfold fX4_isPlain
  by_cases h : nI j = po
  · rw [if_pos h, if_neg (fun q => q.1 h)]
  · rw [if_neg h, pz_gd (pz_in hj (by decide)), nI_clamp (by omega)]
    by_cases h2 : cu j = 0
    · rw [if_pos h2, if_pos ⟨h, h2⟩]
    · rw [if_neg h2, if_neg (fun q => h2 q.2)]
theorem ph_pl7 {j : Nat} (hj : j < 22) : fX7_isPlain po cu (nI j) = some (if nI j ≠ po ∧ cu j = 0 then 1 else 0) := by
  unfold fX7_isPlain
  by_cases h : nI j = po
  · rw [if_pos h, if_neg (fun q => q.1 h)]
  · rw [if_neg h, pz_gd (pz_in hj (by decide)), nI_clamp (by omega)]
    by_cases h2 : cu j = 0
    · rw [if_pos h2, if_pos ⟨h, h2⟩]
    · rw [if_neg h2, if_neg (fun q => h2 q.2)]
def ph_alb (x1 : Int32) (cu : Nat → Int32) (po : Int32) (j : Nat) : Bool := decide (x1 = 0 ∨ (nI j ≠ po ∧ cu j = 0))
theorem ph_in4 (hn : n ≤ 22) (hf : ∀ w, w < n → a w < 12 ∧ b w < 12 ∧ fi w = nI (a w) ∧ se w = nI (b w)) (NK x3 m : Int32) : dk_loop (bX4_hangsTogether_15 fi se cu NK (nI n) po x1 x3) 1000 (m, 0) = some (ph_p a b (ph_alb x1 cu po) n m) := by
  obtain ⟨r, h1, h2⟩ := pz_fin (body := bX4_hangsTogether_15 fi se cu NK (nI n) po x1 x3) (fun j st => st = (ph_p a b (ph_alb x1 cu po) j m, nI j)) (fun r => r = ph_p a b (ph_alb x1 cu po) n m) n (by
    intro j st hj hI
    subst hI
    unfold bX4_hangsTogether_15
    rcases Nat.lt_or_ge j n with h | h
    · right
      obtain ⟨ha, hb, e1, e2⟩ := hf j h
      refine ⟨h, (ph_p a b (ph_alb x1 cu po) (j + 1) m, nI (j + 1)), ?_, rfl⟩
      dsimp only
      rw [if_neg (nI_ge h (by omega)), pz_gd (pz_in (by omega) (by decide)), nI_clamp (by omega), e1, e2, pz_let, ph_p]
      show (if ph_p a b (ph_alb x1 cu po) j m &&& (pe (a j) ||| pe (b j)) = 0 then _ else _) = _
      unfold jX4_hangsTogether_65 jX4_hangsTogether_70
      simp only [pz_let, nI_1]
      by_cases c : (bt (ph_p a b (ph_alb x1 cu po) j m) (a j) || bt (ph_p a b (ph_alb x1 cu po) j m) (b j)) = true
      · rw [if_neg (fun q => by rw [(ph_and0 ha hb _).mp q] at c; exact absurd c (by decide)), ph_pl4 (by omega), pz_bs]
        by_cases g : nI j ≠ po ∧ cu j = 0
        · rw [if_pos g, if_neg (by decide), if_pos ⟨decide_eq_true (Or.inr g), c⟩]
          rfl
        · rw [if_neg g, if_pos rfl]
          by_cases g2 : x1 = 0
          · rw [if_pos g2, if_pos ⟨decide_eq_true (Or.inl g2), c⟩]
            rfl
          · rw [if_neg g2, if_neg (fun q => by
              have := of_decide_eq_true q.1
              rcases this with t | t
              · exact g2 t
              · exact g t)]
      · rw [if_pos ((ph_and0 ha hb _).mpr (by simpa using c)), if_neg (fun q => c q.2)]
    · left
      have e : j = n := by omega
      subst e
      refine ⟨_, ?_, rfl⟩
      dsimp only
      rw [if_pos (nI_le (Nat.le_refl _) (by omega))]) 1000 0 (m, 0) (by omega) rfl (by omega)
  rw [h1, h2]
theorem ph_bits (m : Int32) {k : Nat} (hk : k < 12) : (m >>> (nI k &&& 31)) &&& 1 = if bt m k then 1 else 0 := by
  rw [bt_one, bt_shr m hk]
theorem ph_in7 (hn : n ≤ 22) (hf : ∀ w, w < n → a w < 12 ∧ b w < 12 ∧ fi w = nI (a w) ∧ se w = nI (b w)) (NK m : Int32) : dk_loop (bX7_hang_13 NK (nI n) po fi se cu x1) 1000 (m, 0, 0) = some (ph_p a b (ph_alb x1 cu po) n m, if ph_p a b (ph_alb x1 cu po) n m = m then 0 else 1) := by
  have hab : ∀ w, w < n → a w < 12 ∧ b w < 12 := fun w hw => ⟨(hf w hw).1, (hf w hw).2.1⟩
  obtain ⟨r, h1, h2⟩ := pz_fin (body := bX7_hang_13 NK (nI n) po fi se cu x1) (fun j st => st = (ph_p a b (ph_alb x1 cu po) j m, (if ph_p a b (ph_alb x1 cu po) j m = m then 0 else 1), nI j)) (fun r => r = (ph_p a b (ph_alb x1 cu po) n m, if ph_p a b (ph_alb x1 cu po) n m = m then 0 else 1)) n (by
    intro j st hj hI
    subst hI
    unfold bX7_hang_13
    rcases Nat.lt_or_ge j n with h | h
    · right
      obtain ⟨ha, hb, e1, e2⟩ := hf j h
      refine ⟨h, (ph_p a b (ph_alb x1 cu po) (j + 1) m, (if ph_p a b (ph_alb x1 cu po) (j + 1) m = m then 0 else 1), nI (j + 1)), ?_, rfl⟩
      dsimp only
      -- the step itself
      have step : ph_alb x1 cu po j = true → ∀ z : Int32, jX7_hang_35 NK (nI n) po fi se cu x1 (ph_p a b (ph_alb x1 cu po) j m) (if ph_p a b (ph_alb x1 cu po) j m = m then 0 else 1) (nI j) = some (.inr (ph_p a b (ph_alb x1 cu po) (j + 1) m, (if ph_p a b (ph_alb x1 cu po) (j + 1) m = m then 0 else 1), nI (j + 1))) := by
        intro hal _
        unfold jX7_hang_35 jX7_hang_87
        rw [pz_gd (pz_in (by omega) (by decide)), nI_clamp (by omega), e1, e2, ph_bits _ ha, ph_bits _ hb]
        simp only [pz_let, nI_1]
        show (if (if bt (ph_p a b (ph_alb x1 cu po) j m) (a j) then (1 : Int32) else 0) = (if bt (ph_p a b (ph_alb x1 cu po) j m) (b j) then (1 : Int32) else 0) then _ else some (Sum.inr (ph_p a b (ph_alb x1 cu po) j m ||| (pe (a j) ||| pe (b j)), 1, nI (j + 1)))) = _
        have stp : ph_p a b (ph_alb x1 cu po) (j + 1) m = if ph_alb x1 cu po j = true ∧ (bt (ph_p a b (ph_alb x1 cu po) j m) (a j) || bt (ph_p a b (ph_alb x1 cu po) j m) (b j)) = true then ph_p a b (ph_alb x1 cu po) j m ||| (pe (a j) ||| pe (b j)) else ph_p a b (ph_alb x1 cu po) j m := rfl
        -- does the step change it
        cases q1 : bt (ph_p a b (ph_alb x1 cu po) j m) (a j) with
        | true =>
          cases q2 : bt (ph_p a b (ph_alb x1 cu po) j m) (b j) with
          | true =>
            rw [if_pos rfl]
            have : ph_p a b (ph_alb x1 cu po) (j + 1) m = ph_p a b (ph_alb x1 cu po) j m := by
              rw [stp, if_pos ⟨hal, by rw [q1]; rfl⟩]
              apply bt_ext
              intro k _
              rw [ph_bt2 ha hb]
              by_cases g1 : k = a j
              · rw [g1, q1]; rfl
              · by_cases g2 : k = b j
                · rw [g2, q2]; rfl
                · simp [g1, g2]
            rw [this]
          | false =>
            rw [if_neg (by decide), stp, if_pos ⟨hal, by rw [q1]; rfl⟩, if_neg]
            intro q
            have w1 : bt m (b j) = true := by
              rw [← q, ph_bt2 ha hb]
              simp
            rw [ph_mono hab j (by omega) m _ w1] at q2
            exact absurd q2 (by decide)
        | false =>
          cases q2 : bt (ph_p a b (ph_alb x1 cu po) j m) (b j) with
          | true =>
            rw [if_neg (by decide), stp, if_pos ⟨hal, by rw [q2]; simp⟩, if_neg]
            intro q
            have w1 : bt m (a j) = true := by
              rw [← q, ph_bt2 ha hb]
              simp
            rw [ph_mono hab j (by omega) m _ w1] at q1
            exact absurd q1 (by decide)
          | false =>
            have : ph_p a b (ph_alb x1 cu po) (j + 1) m = ph_p a b (ph_alb x1 cu po) j m := by
              rw [stp, if_neg (fun q => by rw [q1, q2] at q; exact absurd q.2 (by decide))]
            rw [if_pos rfl, this]
      rw [if_neg (nI_ge h (by omega))]
      by_cases g2 : x1 = 0
      · rw [if_pos g2]
        exact step (decide_eq_true (Or.inl g2)) 0
      · rw [if_neg g2, ph_pl7 (by omega), pz_bs]
        by_cases g : nI j ≠ po ∧ cu j = 0
        · rw [if_pos g, if_neg (by decide)]
          exact step (decide_eq_true (Or.inr g)) 0
        · rw [if_neg g, if_pos rfl]
          unfold jX7_hang_87
          rw [pz_let, nI_1]
          have : ph_p a b (ph_alb x1 cu po) (j + 1) m = ph_p a b (ph_alb x1 cu po) j m := by
            rw [ph_p, if_neg (fun q => by
              have := of_decide_eq_true q.1
              rcases this with t | t
              · exact g2 t
              · exact g t)]
          rw [this]
    · left
      have e : j = n := by omega
      subst e
      refine ⟨_, ?_, rfl⟩
      dsimp only
      rw [if_pos (nI_le (Nat.le_refl _) (by omega))]) 1000 0 (m, 0, 0) (by omega) (by
        show (m, (0 : Int32), (0 : Int32)) = (m, (if m = m then 0 else 1), nI 0)
        rw [if_pos rfl]
        rfl) (by omega)
  rw [h1, h2]
/-- both say the same; 1 says that all hang together -/
theorem ph_hang (hK : K ≤ 12) (hn : n ≤ 22) (hf : ∀ w, w < n → a w < K ∧ b w < K ∧ fi w = nI (a w) ∧ se w = nI (b w)) :
    ∃ v, fX4_hangsTogether fi se cu (nI K) (nI n) po x1 = some v ∧ fX7_hang (nI K) (nI n) po fi se cu x1 = some v ∧ (v = 0 ∨ (v = 1 ∧ ∀ Q : Nat → Prop, (∀ w, w < n → ph_al x1 cu po w → (Q (a w) ↔ Q (b w))) → ∀ k j, k < K → j < K → Q k → Q j)) := by
  have hf12 : ∀ w, w < n → a w < 12 ∧ b w < 12 ∧ fi w = nI (a w) ∧ se w = nI (b w) := fun w hw => by
    obtain ⟨h1, h2, h3, h4⟩ := hf w hw
    exact ⟨by omega, by omega, h3, h4⟩
  have hab : ∀ w, w < n → a w < K ∧ b w < K := fun w hw => ⟨(hf w hw).1, (hf w hw).2.1⟩
  let al := ph_alb x1 cu po
  -- the class
  have c4 : dk_loop (bX4_hangsTogether_4 fi se cu (nI K) (nI n) po x1) 1000 (1, 0) = some (ph_it a b al n K) := by
    obtain ⟨r, h1, h2⟩ := pz_fin (body := bX4_hangsTogether_4 fi se cu (nI K) (nI n) po x1) (fun j st => st = (ph_it a b al n j, nI j)) (fun r => r = ph_it a b al n K) K (by
      intro j st hj hI
      subst hI
      unfold bX4_hangsTogether_4
      dsimp only
      rcases Nat.lt_or_ge j K with h | h
      · right
        refine ⟨h, (ph_it a b al n (j + 1), nI (j + 1)), ?_, rfl⟩
        rw [if_neg (nI_ge h (by omega)), ph_in4 hn hf12, pz_bs, pz_let, nI_1]
        rfl
      · left
        have e : j = K := by omega
        subst e
        refine ⟨_, ?_, rfl⟩
        rw [if_pos (nI_le (Nat.le_refl _) (by omega))]) 1000 0 (1, 0) (by omega) rfl (by omega)
    rw [h1, h2]
  -- it stays
  have hfix : ph_p a b al n (ph_it a b al n K) = ph_it a b al n K := by
    rcases Nat.eq_zero_or_pos K with h | h
    · have hn0 : n = 0 := by
        rcases Nat.eq_zero_or_pos n with g | g
        · exact g
        · have := (hab 0 g).1
          omega
      subst hn0
      rfl
    · exact ph_fix hab hK h
  have hbeyond : ∀ i, ph_p a b al n (ph_it a b al n i) = ph_it a b al n i → ph_it a b al n i = ph_it a b al n K := by
    intro i hi
    rcases Nat.lt_or_ge i K with g | g
    · have := ph_stay hi (K - i)
      rw [show i + (K - i) = K by omega] at this
      exact this.symm
    · have := ph_stay hfix (i - K)
      rw [show K + (i - K) = i by omega] at this
      exact this
  have c7 : dk_loop (bX7_hang_4 (nI K) (nI n) po fi se cu x1) 1000 (1, 1) = some (ph_it a b al n K) := by
    obtain ⟨r, h1, h2⟩ := pz_fin (body := bX7_hang_4 (nI K) (nI n) po fi se cu x1) (fun j st => st.1 = ph_it a b al n j ∧ ((st.2 = 1 ∧ (j = 0 ∨ (∀ i, i < j → ph_p a b al n (ph_it a b al n i) ≠ ph_it a b al n i))) ∨ (st.2 = 0 ∧ ph_it a b al n j = ph_it a b al n K))) (fun r => r = ph_it a b al n K) (K + 1) (by
      rintro j ⟨s1, s2⟩ hj ⟨h1, h2⟩
      dsimp only at h1 h2
      subst h1
      unfold bX7_hang_4
      dsimp only
      rcases h2 with ⟨e1, h3⟩ | ⟨e1, h3⟩
      · subst e1
        right
        have hjK : j < K + 1 := by
          rcases Nat.lt_or_ge j (K + 1) with g | g
          · exact g
          · rcases h3 with h3 | h3
            · omega
            · exact absurd hfix (h3 K (by omega))
        refine ⟨hjK, (ph_it a b al n (j + 1), if ph_p a b al n (ph_it a b al n j) = ph_it a b al n j then 0 else 1), ?_, rfl, ?_⟩
        · rw [if_neg (by decide), ph_in7 hn hf12, pz_bs]
          rfl
        · dsimp only
          by_cases g : ph_p a b al n (ph_it a b al n j) = ph_it a b al n j
          · right
            rw [if_pos g]
            refine ⟨rfl, ?_⟩
            show ph_p a b al n (ph_it a b al n j) = _
            rw [g]
            exact hbeyond j g
          · left
            rw [if_neg g]
            refine ⟨rfl, Or.inr (fun i hi => ?_)⟩
            by_cases q : i = j
            · rw [q]; exact g
            · rcases h3 with h3 | h3
              · omega
              · exact h3 i (by omega)
      · subst e1
        left
        refine ⟨_, ?_, h3⟩
        rw [if_pos rfl]) 1000 0 (1, 1) (by omega) ⟨rfl, Or.inl ⟨rfl, Or.inl rfl⟩⟩ (by omega)
    rw [h1, h2]
  have u4 : fX4_hangsTogether fi se cu (nI K) (nI n) po x1 = if ph_it a b al n K = pe K - 1 then some 1 else some 0 := by
    unfold fX4_hangsTogether
    rw [c4, pz_bs]
    rfl
  have u7 : fX7_hang (nI K) (nI n) po fi se cu x1 = if ph_it a b al n K = pe K - 1 then some 1 else some 0 := by
    unfold fX7_hang
    rw [c7, pz_bs]
    rfl
  rw [u4, u7]
  by_cases g : ph_it a b al n K = pe K - 1
  · rw [if_pos g]
    refine ⟨1, rfl, rfl, Or.inr ⟨rfl, fun Q hQ => ?_⟩⟩
    have all : ∀ k, k < K → bt (ph_it a b al n K) k = true := fun k hk => by
      rw [g, bt_full K (by omega) k (by omega), decide_eq_true hk]
    have reach : ∀ Q : Nat → Prop, (∀ w, w < n → ph_al x1 cu po w → (Q (a w) ↔ Q (b w))) → Q 0 → ∀ k, k < K → Q k := by
      intro Q hQ h0 k hk
      have it : ∀ i, ∀ k, bt (ph_it a b al n i) k = true → Q k := by
        intro i
        induction i with
        | zero =>
          intro k hk
          rcases Nat.lt_or_ge k 32 with h | h
          · have : ∀ k, k < 32 → bt (1 : Int32) k = true → k = 0 := by decide
            rw [this k h hk]
            exact h0
          · have e : bt (1 : Int32) k = true := hk
            rw [bt_hi _ h] at e
            exact absurd e (by decide)
        | succ i ih =>
          exact ph_in (fun w hw => ⟨(hf12 w hw).1, (hf12 w hw).2.1⟩) Q (fun w hw hal => hQ w hw (of_decide_eq_true (p := x1 = 0 ∨ (nI w ≠ po ∧ cu w = 0)) hal)) n (Nat.le_refl _) _ ih
      exact it K k (all k hk)
    intro k j hk hj hq
    by_cases q0 : Q 0
    · exact reach Q hQ q0 j hj
    · exact absurd hq (reach (fun k => ¬ Q k) (fun w hw hal => not_congr (hQ w hw hal)) q0 k hk)
  · rw [if_neg g]
    exact ⟨0, rfl, rfl, Or.inl rfl⟩
end

/-! ===== PURE 21: the reference's minors ===== -/
section
variable {K n p : Nat} {a b : Nat → Nat} {fi se cu : Nat → Int32}
theorem mn_between (hK : K ≤ 12) (hn : n ≤ 22) (hf : ∀ w, w < n → a w < K ∧ b w < K ∧ a w ≠ b w) (hs : ∀ w, w < n → fi w = nI (a w) ∧ se w = nI (b w)) (hp : p < n) {x y : Nat} (hx : x < K) (hy : y < K) :
    fX7_between (nI n) (nI p) fi se cu (nI x) (nI y) = some (Int32.ofInt (fl_lp n a b (fl_pl p cu) x y)) := by
  obtain ⟨r, l1, l2⟩ := pz_fin (body := bX7_between_5 (nI n) (nI p) fi se cu (nI x) (nI y)) (fun j st => st = (Int32.ofInt (fl_lp j a b (fl_pl p cu) x y), nI j)) (fun r => r = Int32.ofInt (fl_lp n a b (fl_pl p cu) x y)) n (by
    rintro j st hj rfl
    unfold bX7_between_5
    dsimp only
    rcases Nat.lt_or_ge j n with q | q
    · right
      refine ⟨q, _, ?_, rfl⟩
      obtain ⟨ha, hb, hne⟩ := hf j q
      rw [if_neg (nI_ge q (by omega)), ph_pl7 (by omega), pz_bs, fl_lpS]
      have fin : ∀ z : Int32, jX7_between_111 (nI n) (nI p) fi se cu (nI x) (nI y) z (nI j) = some (.inr (z, nI (j + 1))) := fun z => by
        unfold jX7_between_111
        rw [pz_let, nI_1]
      have up : ∀ z : Int, Int32.ofInt z + 1 = Int32.ofInt (z + 1) := fun z => by rw [Int32.ofInt_add]; rfl
      have dn : ∀ z : Int, Int32.ofInt z - 1 = Int32.ofInt (z + -1) := fun z => by rw [← Int.sub_eq_add_neg, Int32.ofInt_sub]; rfl
      have ix : ∀ u v : Nat, u < K → v < K → ((nI u = nI v) ↔ u = v) := fun u v hu hv => nI_eq (by omega) (by omega)
      by_cases c1 : fl_pl p cu j = true
      · rw [if_pos ((fl_pln (by omega) (by omega)).mpr c1), if_neg (by decide), pz_gd (pz_in (show j < 22 by omega) (by decide)), nI_clamp (show j < 2 ^ 31 by omega), (hs j q).1, (hs j q).2]
        unfold jX7_between_48 jX7_between_53 jX7_between_71 jX7_between_108 jX7_between_104 jX7_between_109
        simp only [pz_let, fin, pz_10, pz_00, if_true, if_false]
        rw [pz_gd (pz_in (show j < 22 by omega) (by decide)), nI_clamp (show j < 2 ^ 31 by omega), (hs j q).1, (hs j q).2]
        unfold fl_v
        rw [if_pos c1]
        by_cases g1 : a j = x
        · rw [if_pos ((ix _ _ ha hx).mpr g1), g1, ds_i1, ds_i0 (show x ≠ b j by omega)]
          by_cases g2 : x = y
          · rw [if_pos ((ix _ _ hx hy).mpr g2), ← g2, ds_i1, ds_i0 (show x ≠ b j by omega), up]
            rfl
          · rw [if_neg (fun z => g2 ((ix _ _ hx hy).mp z)), if_neg (fun z => g2 ((ix _ _ hx hy).mp z)), ds_i0 (fun z => g2 z.symm)]
            by_cases g3 : b j = y
            · rw [if_pos ((ix _ _ hb hy).mpr g3), g3, ds_i1, dn]
              rfl
            · rw [if_neg (fun z => g3 ((ix _ _ hb hy).mp z)), ds_i0 (fun z => g3 z.symm), Int32.sub_zero, show ((1 : Int) - 0) * (0 - 0) = 0 from rfl, Int.add_zero]
        · rw [if_neg (fun z => g1 ((ix _ _ ha hx).mp z)), ds_i0 (fun z => g1 z.symm)]
          by_cases g4 : b j = x
          · rw [if_pos ((ix _ _ hb hx).mpr g4), g4, ds_i1]
            by_cases g2 : x = y
            · rw [if_pos ((ix _ _ hx hy).mpr g2), ← g2, ds_i1, ds_i0 (fun z => g1 z.symm), up]
              rfl
            · rw [if_neg (fun z => g2 ((ix _ _ hx hy).mp z)), ds_i0 (show y ≠ x from fun z => g2 z.symm)]
              by_cases g3 : a j = y
              · rw [if_pos ((ix _ _ ha hy).mpr g3), g3, ds_i1, dn]
                rfl
              · rw [if_neg (fun z => g3 ((ix _ _ ha hy).mp z)), if_neg (fun z => g2 ((ix _ _ hx hy).mp z)), ds_i0 (fun z => g3 z.symm), Int32.sub_zero, show ((0 : Int) - 1) * (0 - 0) = 0 from rfl, Int.add_zero]
          · rw [if_neg (fun z => g4 ((ix _ _ hb hx).mp z)), ds_i0 (fun z => g4 z.symm), Int.sub_self, Int.zero_mul, Int.add_zero, Int32.add_zero, Int32.sub_zero, ite_self]
      · rw [if_neg (fun z => c1 ((fl_pln (by omega) (by omega)).mp z)), if_pos rfl, fin]
        unfold fl_v
        rw [if_neg c1, Int.mul_zero, Int.add_zero]
    · left
      have e : j = n := by omega
      subst e
      exact ⟨_, by rw [if_pos (nI_le (Nat.le_refl _) (by omega))], rfl⟩) 1000 0 (0, 0) (by omega) rfl (by omega)
  unfold fX7_between
  rw [l1, l2]
  rfl
/-- how many of the knots below x are left, without G and R -/
def mn_ct (G R x : Nat) : Nat := (if G < x then x - 1 else x) - (if R < x then 1 else 0)
theorem mn_s0 {G R x : Nat} (h : x = G ∨ x = R) (hGR : G ≠ R) : mn_ct G R (x + 1) = mn_ct G R x := by
  unfold mn_ct
  rcases h with h | h
  · subst h
    rw [if_pos (by omega), if_neg (show ¬ x < x by omega)]
    by_cases g : R < x
    · rw [if_pos g, if_pos (by omega)]; omega
    · rw [if_neg g, if_neg (by omega)]; omega
  · subst h
    rw [if_pos (show x < x + 1 by omega), if_neg (show ¬ x < x by omega)]
    by_cases g : G < x
    · rw [if_pos g, if_pos (by omega)]; omega
    · rw [if_neg g, if_neg (by omega)]; omega
theorem mn_s1 {G R x : Nat} (h1 : x ≠ G) (h2 : x ≠ R) (hGR : G ≠ R) : mn_ct G R (x + 1) = mn_ct G R x + 1 := by
  unfold mn_ct
  by_cases g : G < x
  · rw [if_pos g, if_pos (show G < x + 1 by omega)]
    by_cases g2 : R < x
    · rw [if_pos g2, if_pos (show R < x + 1 by omega)]; omega
    · rw [if_neg g2, if_neg (show ¬ R < x + 1 by omega)]; omega
  · rw [if_neg g, if_neg (show ¬ G < x + 1 by omega)]
    by_cases g2 : R < x
    · rw [if_pos g2, if_pos (show R < x + 1 by omega)]; omega
    · rw [if_neg g2, if_neg (show ¬ R < x + 1 by omega)]; omega
theorem mn_le (G R x : Nat) : mn_ct G R x ≤ x := by
  unfold mn_ct
  by_cases g : G < x
  · rw [if_pos g]; omega
  · rw [if_neg g]; omega
theorem mn_mono {G R : Nat} (hGR : G ≠ R) {x y : Nat} (h : x ≤ y) : mn_ct G R x ≤ mn_ct G R y := by
  induction h with
  | refl => exact Nat.le_refl _
  | step h ih =>
    rename_i m
    by_cases g : m = G ∨ m = R
    · rw [mn_s0 g hGR]; exact ih
    · rw [mn_s1 (fun q => g (Or.inl q)) (fun q => g (Or.inr q)) hGR]; omega
theorem mn_row (hK : K ≤ 12) (hn : n ≤ 22) (hf : ∀ w, w < n → a w < K ∧ b w < K ∧ a w ≠ b w) (hs : ∀ w, w < n → fi w = nI (a w) ∧ se w = nI (b w)) (hp : p < n) {x C na : Nat} (hx : x < K) (hna : na < 12) (hGC : b p ≠ C) (x1 x2 : Int32) (h2 : ∀ y, y < K → ((nI y = x2) ↔ y = C)) (M : Nat → Int64) :
    ∃ M', dk_loop (bX7_minor_46 (nI K) (nI n) (nI p) fi se cu x1 x2 (nI (b p)) (nI na) (nI x)) 1000 (0, 0, M) = some M' ∧ (∀ y, y < K → y ≠ b p → y ≠ C → M' (12 * na + mn_ct (b p) C y) = Int64.ofInt (fl_lp n a b (fl_pl p cu) x y)) ∧ ∀ z, (z < 12 * na ∨ 12 * na + 12 ≤ z) → M' z = M z := by
  obtain ⟨r, l1, l2⟩ := pz_fin (body := bX7_minor_46 (nI K) (nI n) (nI p) fi se cu x1 x2 (nI (b p)) (nI na) (nI x)) (fun j st => ∃ f, st = (nI (mn_ct (b p) C j), nI j, f) ∧ (∀ y, y < j → y ≠ b p → y ≠ C → f (12 * na + mn_ct (b p) C y) = Int64.ofInt (fl_lp n a b (fl_pl p cu) x y)) ∧ ∀ z, (z < 12 * na ∨ 12 * na + 12 ≤ z) → f z = M z) (fun f => (∀ y, y < K → y ≠ b p → y ≠ C → f (12 * na + mn_ct (b p) C y) = Int64.ofInt (fl_lp n a b (fl_pl p cu) x y)) ∧ ∀ z, (z < 12 * na ∨ 12 * na + 12 ≤ z) → f z = M z) K (by
    rintro j st hj ⟨f, rfl, f1, f2⟩
    unfold bX7_minor_46 jX7_minor_95
    dsimp only
    have hb := (hf p hp).2.1
    rcases Nat.lt_or_ge j K with q | q
    · right
      refine ⟨q, ?_⟩
      rw [if_neg (nI_ge q (by omega))]
      have skip : j = b p ∨ j = C → ∃ f', (nI (mn_ct (b p) C j), nI (j + 1), f) = (nI (mn_ct (b p) C (j + 1)), nI (j + 1), f') ∧ (∀ y, y < j + 1 → y ≠ b p → y ≠ C → f' (12 * na + mn_ct (b p) C y) = Int64.ofInt (fl_lp n a b (fl_pl p cu) x y)) ∧ ∀ z, (z < 12 * na ∨ 12 * na + 12 ≤ z) → f' z = M z := fun h => ⟨f, by rw [mn_s0 h hGC], fun y hy y1 y2 => f1 y (by omega) y1 y2, f2⟩
      by_cases g1 : j = b p
      · rw [if_pos (by rw [g1]), pz_let, nI_1]
        exact ⟨_, rfl, skip (Or.inl g1)⟩
      · rw [if_neg (pz_nz (by omega) (by omega) g1)]
        by_cases g2 : j = C
        · rw [if_pos ((h2 j q).mpr g2), pz_let, nI_1]
          exact ⟨_, rfl, skip (Or.inr g2)⟩
        · have hc := mn_le (b p) C j
          rw [if_neg (fun z => g2 ((h2 j q).mp z)), mn_between hK hn hf hs hp hx q, pz_bs, pz_12, pz_gd (pz_in (by omega) (by decide)), pz_let, pz_let, pz_let, nI_clamp (by omega), nI_1, nI_1]
          have e32 : (Int32.ofInt (fl_lp n a b (fl_pl p cu) x j)).toInt64 = Int64.ofInt (fl_lp n a b (fl_pl p cu) x j) := by
            have bd := fl_lp_le a b (fl_pl p cu) x j n
            have e1 : Int32.minValue.toInt = -2 ^ 31 := by decide
            have e2 : Int32.maxValue.toInt = 2 ^ 31 - 1 := by decide
            exact Int32.toInt64_ofInt (by omega) (by omega)
          rw [e32]
          refine ⟨_, rfl, _, by rw [mn_s1 g1 g2 hGC], fun y hy y1 y2 => ?_, fun z hz => ?_⟩
          · by_cases e : y = j
            · rw [e, tl_u1]
            · have m1 := mn_mono hGC (show y + 1 ≤ j by omega)
              rw [mn_s1 y1 y2 hGC] at m1
              rw [tl_u2 _ _ (by omega)]
              exact f1 y (by omega) y1 y2
          · rw [tl_u2 _ _ (by omega)]
            exact f2 z hz
    · left
      have e : j = K := by omega
      subst e
      exact ⟨f, by rw [if_pos (nI_le (Nat.le_refl _) (by omega))], f1, f2⟩) 1000 0 (0, 0, M) (by omega) ⟨M, by
        have : mn_ct (b p) C 0 = 0 := Nat.le_zero.mp (mn_le _ _ 0)
        rw [this]
        rfl, fun y hy => absurd hy (by omega), fun _ _ => rfl⟩ (by omega)
  exact ⟨r, l1, l2⟩
theorem mn_fill (hK : K ≤ 12) (hn : n ≤ 22) (hf : ∀ w, w < n → a w < K ∧ b w < K ∧ a w ≠ b w) (hs : ∀ w, w < n → fi w = nI (a w) ∧ se w = nI (b w)) (hp : p < n) {R C : Nat} (hGR : b p ≠ R) (hGC : b p ≠ C) (x1 x2 : Int32) (h1 : ∀ y, y < K → ((nI y = x1) ↔ y = R)) (h2 : ∀ y, y < K → ((nI y = x2) ↔ y = C)) (M : Nat → Int64) :
    ∃ M', dk_loop (bX7_minor_16 (nI K) (nI n) (nI p) fi se cu x1 x2 (nI (b p))) 1000 (0, 0, M) = some (nI (mn_ct (b p) R K), M') ∧ ∀ x y, x < K → y < K → x ≠ b p → x ≠ R → y ≠ b p → y ≠ C → M' (12 * mn_ct (b p) R x + mn_ct (b p) C y) = Int64.ofInt (fl_lp n a b (fl_pl p cu) x y) := by
  have hb := (hf p hp).2.1
  obtain ⟨r, l1, f, l2, l3⟩ := pz_fin (body := bX7_minor_16 (nI K) (nI n) (nI p) fi se cu x1 x2 (nI (b p))) (fun j st => ∃ f, st = (nI (mn_ct (b p) R j), nI j, f) ∧ ∀ x y, x < j → y < K → x ≠ b p → x ≠ R → y ≠ b p → y ≠ C → f (12 * mn_ct (b p) R x + mn_ct (b p) C y) = Int64.ofInt (fl_lp n a b (fl_pl p cu) x y)) (fun r => ∃ f, r = (nI (mn_ct (b p) R K), f) ∧ ∀ x y, x < K → y < K → x ≠ b p → x ≠ R → y ≠ b p → y ≠ C → f (12 * mn_ct (b p) R x + mn_ct (b p) C y) = Int64.ofInt (fl_lp n a b (fl_pl p cu) x y)) K (by
    rintro j st hj ⟨f, rfl, f1⟩
    unfold bX7_minor_16 jX7_minor_104
    dsimp only
    rcases Nat.lt_or_ge j K with q | q
    · right
      refine ⟨q, ?_⟩
      rw [if_neg (nI_ge q (by omega))]
      have skip : j = b p ∨ j = R → ∃ f', (nI (mn_ct (b p) R j), nI (j + 1), f) = (nI (mn_ct (b p) R (j + 1)), nI (j + 1), f') ∧ ∀ x y, x < j + 1 → y < K → x ≠ b p → x ≠ R → y ≠ b p → y ≠ C → f' (12 * mn_ct (b p) R x + mn_ct (b p) C y) = Int64.ofInt (fl_lp n a b (fl_pl p cu) x y) := fun h => ⟨f, by rw [mn_s0 h hGR], fun x y hx hy x1 x2 y1 y2 => f1 x y (by omega) hy x1 x2 y1 y2⟩
      by_cases g1 : j = b p
      · rw [if_pos (by rw [g1]), pz_let, nI_1]
        exact ⟨_, rfl, skip (Or.inl g1)⟩
      · rw [if_neg (pz_nz (by omega) (by omega) g1)]
        by_cases g2 : j = R
        · rw [if_pos ((h1 j q).mpr g2), pz_let, nI_1]
          exact ⟨_, rfl, skip (Or.inr g2)⟩
        · have hc := mn_le (b p) R j
          obtain ⟨M', w1, w2, w3⟩ := mn_row hK hn hf hs hp (C := C) (na := mn_ct (b p) R j) q (by omega) hGC x1 x2 h2 f
          rw [if_neg (fun z => g2 ((h1 j q).mp z)), w1, pz_bs, pz_let, pz_let, nI_1, nI_1]
          refine ⟨_, rfl, M', by rw [mn_s1 g1 g2 hGR], fun x y hx hy x1 x2 y1 y2 => ?_⟩
          by_cases e : x = j
          · rw [e]
            exact w2 y hy y1 y2
          · have m1 := mn_mono hGR (show x + 1 ≤ j by omega)
            rw [mn_s1 x1 x2 hGR] at m1
            have m2 := mn_le (b p) C y
            rw [w3 _ (by omega)]
            exact f1 x y (by omega) hy x1 x2 y1 y2
    · left
      have e : j = K := by omega
      subst e
      exact ⟨_, by rw [if_pos (nI_le (Nat.le_refl _) (by omega))], f, rfl, f1⟩) 1000 0 (0, 0, M) (by omega) ⟨M, by
        have : mn_ct (b p) R 0 = 0 := Nat.le_zero.mp (mn_le _ _ 0)
        rw [this]
        rfl, fun x y hx => absurd hx (by omega)⟩ (by omega)
  exact ⟨f, by rw [l1, l2], l3⟩
/-- no minor of a net is large -/
theorem mn_B (hn : n ≤ 22) {N : Nat} (hN : N ≤ 12) (hf : ∀ w, w < n → a w < K ∧ b w < K ∧ a w ≠ b w) (σ τ : Nat → Nat) (hσ : ∀ r, r < N → σ r < K) (hτ : ∀ r, r < N → τ r < K) (iσ : ∀ x y, x < N → y < N → σ x = σ y → x = y) (iτ : ∀ x y, x < N → y < N → τ x = τ y → x = y) (pl : Nat → Bool) : rd_B N 705432 (fun r c => fl_lp n a b pl (σ r) (τ c)) := by
  intro k ρ γ hk h1 h2 h3 h4
  have inj : ∀ x y, x < k → y < k → σ (ρ x) = σ (ρ y) → x = y := fun x y hx hy e => h3 x y hx hy (iσ _ _ (h1 x hx) (h1 y hy) e)
  have injc : ∀ x y, x < k → y < k → τ (γ x) = τ (γ y) → x = y := fun x y hx hy e => h4 x y hx hy (iτ _ _ (h2 x hx) (h2 y hy) e)
  let a' : Nat → Nat := fun w => Classical.choose (ds_inv k (fun x => σ (ρ x)) inj (a w))
  let b' : Nat → Nat := fun w => Classical.choose (ds_inv k (fun x => σ (ρ x)) inj (b w))
  have ea : ∀ w x, x < k → ds_i (σ (ρ x)) (a w) = ds_i x (a' w) := fun w => Classical.choose_spec (ds_inv k (fun x => σ (ρ x)) inj (a w))
  have eb : ∀ w x, x < k → ds_i (σ (ρ x)) (b w) = ds_i x (b' w) := fun w => Classical.choose_spec (ds_inv k (fun x => σ (ρ x)) inj (b w))
  have e : ds_det k (fun x y => (fun r c => fl_lp n a b pl (σ r) (τ c)) (ρ x) (γ y)) = ds_det k (ds_X n a' b' (fun w y => fl_v a b pl w (τ (γ y))) (fun _ => true) (fun _ _ => 0)) := ds_det_congr k (fun x y hx hy => by
    rw [ds_X_o rfl]
    show fl_lp n a b pl (σ (ρ x)) (τ (γ y)) = _
    unfold fl_lp
    exact ds_congr (fun w _ => by rw [ea w x hx, eb w x hx]))
  rw [e]
  refine Nat.le_trans (ds_wires n k a' b' _ _ _ (fun w hw => ?_) (fun i _ q => absurd q (by decide))) (ds_ch_22 n hn _ (Nat.le_trans (ds_cnt_le _ k) (by omega)))
  refine ds_pm_re (m := K) (x := fl_v a b pl w) (fun y => τ (γ y)) (fun i hi => hτ _ (h2 i hi)) injc ?_
  by_cases g : pl w = true
  · exact ⟨a w, b w, fun c _ => by unfold fl_v; rw [if_pos g]⟩
  · exact ⟨0, 0, fun c _ => by unfold fl_v; rw [if_neg g, Int.sub_self]⟩
theorem mn_minor (hK : K ≤ 12) (hn : n ≤ 22) (hf : ∀ w, w < n → a w < K ∧ b w < K ∧ a w ≠ b w) (hs : ∀ w, w < n → fi w = nI (a w) ∧ se w = nI (b w)) (hp : p < n) {R C N : Nat} (hGR : b p ≠ R) (hGC : b p ≠ C) (x1 x2 : Int32) (h1 : ∀ y, y < K → ((nI y = x1) ↔ y = R)) (h2 : ∀ y, y < K → ((nI y = x2) ↔ y = C)) (M : Nat → Int64)
    (hN : mn_ct (b p) R K = N) (σ τ : Nat → Nat) (hσ : ∀ r, r < N → σ r < K ∧ σ r ≠ b p ∧ σ r ≠ R ∧ mn_ct (b p) R (σ r) = r) (hτ : ∀ r, r < N → τ r < K ∧ τ r ≠ b p ∧ τ r ≠ C ∧ mn_ct (b p) C (τ r) = r) :
    ∃ M', fX7_minor (nI K) (nI n) (nI p) fi se cu M x1 x2 = some (Int64.ofInt (ds_det N (fun r c => fl_lp n a b (fl_pl p cu) (σ r) (τ c))), M') := by
  obtain ⟨M1, w1, w2⟩ := mn_fill hK hn hf hs hp hGR hGC x1 x2 h1 h2 M
  have hN12 : N ≤ 12 := by
    have := mn_le (b p) R K
    omega
  obtain ⟨M2, w3⟩ := rd_det hN12 (mn_B hn hN12 hf σ τ (fun r hr => (hσ r hr).1) (fun r hr => (hτ r hr).1) (fun x y hx hy e => by rw [← (hσ x hx).2.2.2, e]; exact (hσ y hy).2.2.2) (fun x y hx hy e => by rw [← (hτ x hx).2.2.2, e]; exact (hτ y hy).2.2.2) (fl_pl p cu)) M1 (fun r c hr hc => by
    have q := w2 (σ r) (τ c) (hσ r hr).1 (hτ c hc).1 (hσ r hr).2.1 (hσ r hr).2.2.1 (hτ c hc).2.1 (hτ c hc).2.2.1
    rw [(hσ r hr).2.2.2, (hτ c hc).2.2.2] at q
    exact q)
  refine ⟨M2, ?_⟩
  unfold fX7_minor
  rw [pz_gd (pz_in (show p < 22 by omega) (by decide)), nI_clamp (show p < 2 ^ 31 by omega), (hs p hp).2, pz_let, w1, pz_bs]
  dsimp only
  rw [hN, w3, pz_bs]
end

/-! ===== PURE 20: the reference's determinant ===== -/
theorem pz_12 (k i : Nat) : 12 * nI k + nI i = nI (12 * k + i) := by
  have e : (12 : Int32) = nI 12 := rfl
  rw [e, pk_mul, nI_add]
def rd_B (N B : Nat) (T0 : Nat → Nat → Int) : Prop := ∀ (k : Nat) (ρ γ : Nat → Nat), k ≤ N → (∀ x, x < k → ρ x < N) → (∀ x, x < k → γ x < N) → (∀ a b, a < k → b < k → ρ a = ρ b → a = b) → (∀ a b, a < k → b < k → γ a = γ b → a = b) → (ds_det k (fun x y => T0 (ρ x) (γ y))).natAbs ≤ B
section
variable {N : Nat} {T0 P V : Nat → Nat → Int} {i : Nat} {g : Nat → Int64}
theorem rd_D (h : ba_inv N T0 i P V) (hB : rd_B N 705432 T0) (hi : i ≤ N) : (ds_det i P).natAbs ≤ 705432 := by
  obtain ⟨_, ⟨π, p1, p2, p3⟩, _⟩ := h
  have e : ds_det i P = ds_det i (fun x y => T0 (π x) y) := ds_det_congr i (fun x y _ _ => p3 x y)
  rw [e]
  exact hB i π (fun y => y) hi (fun x hx => p1 x (by omega)) (fun x hx => by omega) (fun a b ha hb => p2 a b (by omega) (by omega)) (fun a b _ _ q => q)
theorem rd_z {x : Int} (h : x.natAbs ≤ 705432) : (lg_cmp (Int64.ofInt x) 0 = 0) ↔ x = 0 := by
  rw [lg_cmp_eq]
  constructor
  · intro q
    exact Classical.byContradiction (fun z => el_nz z (by omega) q)
  · intro q
    rw [q]
    rfl
theorem rd_seek (hN : N ≤ 12) (h : ba_inv N T0 i P V) (hB : rd_B N 705432 T0) (hi : i < N) (hg : ∀ r c, i ≤ r → r < N → i ≤ c → c < N → g (12 * r + c) = Int64.ofInt (V r c)) (z1 : Int64) (z2 : Int32) :
    ∃ b, i ≤ b ∧ b ≤ N ∧ dk_loop (bX7_determinant_18 g (nI N) z1 z2 (nI i)) 1000 (nI i) = some (nI b) ∧ (∀ r, i ≤ r → r < b → V r i = 0) ∧ (b < N → V b i ≠ 0) := by
  obtain ⟨r, h1, b, h2, h3, h4, h5, h6⟩ := pz_fin (body := bX7_determinant_18 g (nI N) z1 z2 (nI i)) (fun j st => st = nI (i + j) ∧ ∀ r, i ≤ r → r < i + j → V r i = 0) (fun r => ∃ b, i ≤ b ∧ b ≤ N ∧ r = nI b ∧ (∀ r, i ≤ r → r < b → V r i = 0) ∧ (b < N → V b i ≠ 0)) (N - i) (by
    rintro j st hj ⟨rfl, hz⟩
    unfold bX7_determinant_18
    rcases Nat.lt_or_ge (i + j) N with q | q
    · rw [if_neg (nI_ge q (by omega)), pz_12, pz_gd (pz_in (by omega) (by decide)), nI_clamp (by omega), hg (i + j) i (by omega) q (Nat.le_refl _) hi]
      have hb := ba_bound h hB (show i ≤ i + j by omega) q (Nat.le_refl _) hi
      by_cases e : V (i + j) i = 0
      · right
        refine ⟨by omega, nI (i + j) + 1, by rw [if_pos ((rd_z hb).mpr e), pz_let], nI_1 (i + j), fun r r1 r2 => ?_⟩
        by_cases e2 : r = i + j
        · rw [e2]; exact e
        · exact hz r r1 (by omega)
      · left
        exact ⟨_, by rw [if_neg (fun z => e ((rd_z hb).mp z))], i + j, by omega, by omega, rfl, hz, fun _ => e⟩
    · left
      exact ⟨_, by rw [if_pos (nI_le q (by omega))], i + j, by omega, by omega, rfl, hz, fun z => by omega⟩) 1000 0 (nI i) (by omega) ⟨rfl, fun r r1 r2 => by omega⟩ (by omega)
  exact ⟨b, h2, h3, by rw [h1, h4], h5, h6⟩
theorem rd_swap (hN : N ≤ 12) {b : Nat} (hi : i < N) (hb : b < N) (z1 : Int64) (z2 : Int32) :
    ∃ g', dk_loop (bX7_determinant_71 (nI N) z1 z2 (nI i) (nI b)) 1000 (0, g) = some g' ∧ ∀ r c, r < N → c < N → g' (12 * r + c) = if r = i then g (12 * b + c) else if r = b then g (12 * i + c) else g (12 * r + c) := by
  obtain ⟨r, h1, h2⟩ := pz_fin (body := bX7_determinant_71 (nI N) z1 z2 (nI i) (nI b)) (fun j st => ∃ f, st = (nI j, f) ∧ (∀ r c, r < N → c < N → c < j → f (12 * r + c) = if r = i then g (12 * b + c) else if r = b then g (12 * i + c) else g (12 * r + c)) ∧ ∀ r c, r < N → c < N → j ≤ c → f (12 * r + c) = g (12 * r + c)) (fun f => ∀ r c, r < N → c < N → f (12 * r + c) = if r = i then g (12 * b + c) else if r = b then g (12 * i + c) else g (12 * r + c)) N (by
    rintro j st hj ⟨f, rfl, f1, f2⟩
    unfold bX7_determinant_71
    dsimp only
    rcases Nat.lt_or_ge j N with q | q
    · right
      refine ⟨q, (nI (j + 1), vp_updL (vp_updL f (12 * b + j) (f (12 * i + j))) (12 * i + j) (f (12 * b + j))), ?_, _, rfl, ?_, ?_⟩
      · simp only [pz_12, pz_let]
        rw [if_neg (nI_ge q (by omega)), pz_gd (pz_in (by omega) (by decide)), pz_gd (pz_in (by omega) (by decide)), nI_clamp (by omega), nI_clamp (by omega), nI_1]
      · intro r c hr hc hcj
        by_cases e : c = j
        · subst e
          by_cases e1 : r = i
          · rw [if_pos e1, e1, tl_u1]
            exact f2 b c hb hc (Nat.le_refl _)
          · rw [if_neg e1, tl_u2 _ _ (by omega)]
            by_cases e2 : r = b
            · rw [if_pos e2, e2, tl_u1]
              exact f2 i c hi hc (Nat.le_refl _)
            · rw [if_neg e2, tl_u2 _ _ (by omega)]
              exact f2 r c hr hc (Nat.le_refl _)
        · rw [tl_u2 _ _ (by omega), tl_u2 _ _ (by omega)]
          exact f1 r c hr hc (by omega)
      · intro r c hr hc hcj
        rw [tl_u2 _ _ (by omega), tl_u2 _ _ (by omega)]
        exact f2 r c hr hc (by omega)
    · left
      have e : j = N := by omega
      subst e
      exact ⟨f, by rw [if_pos (nI_le (Nat.le_refl _) (by omega))], fun r c hr hc => f1 r c hr hc hc⟩) 1000 0 (0, g) (by omega) ⟨g, rfl, fun r c _ _ hc => absurd hc (by omega), fun r c _ _ _ => rfl⟩ (by omega)
  exact ⟨r, h1, h2⟩
/-- one row below -/
theorem rd_row (hN : N ≤ 12) (h : ba_inv N T0 i P V) (hB : rd_B N 705432 T0) (hi : i < N) {V' : Nat → Nat → Int} (h' : ba_inv N T0 (i + 1) P V') (hV : ∀ r c, i < r → r < N → i < c → c < N → ds_det i P * V' r c = V r c * V i i - V r i * V i c) {r : Nat} (hr : i < r) (hrN : r < N) (hg1 : ∀ c, i ≤ c → c < N → g (12 * r + c) = Int64.ofInt (V r c)) (hg2 : ∀ c, i ≤ c → c < N → g (12 * i + c) = Int64.ofInt (V i c)) (z2 : Int32) :
    ∃ g', dk_loop (bX7_determinant_156 (nI N) (Int64.ofInt (ds_det i P)) z2 (nI i) (nI r)) 1000 (nI N - 1, g) = some g' ∧ (∀ c, i < c → c < N → g' (12 * r + c) = Int64.ofInt (V' r c)) ∧ ∀ x, (x < 12 * r ∨ 12 * r + 12 ≤ x) → g' x = g x := by
  have hD := rd_D h hB (by omega)
  have hD0 : ds_det i P ≠ 0 := h.1
  have hnz : dk_nz (Int64.ofInt (ds_det i P)) = true := decide_eq_true (el_nz hD0 (by omega))
  obtain ⟨r', l1, l2⟩ := pz_fin (body := bX7_determinant_156 (nI N) (Int64.ofInt (ds_det i P)) z2 (nI i) (nI r)) (fun j st => ∃ f, st = (nI N - nI (j + 1), f) ∧ (∀ c, i < c → c < N → N ≤ c + j → f (12 * r + c) = Int64.ofInt (V' r c)) ∧ (∀ c, i ≤ c → c + j < N → f (12 * r + c) = Int64.ofInt (V r c)) ∧ ∀ x, (x < 12 * r ∨ 12 * r + 12 ≤ x) → f x = g x) (fun f => (∀ c, i < c → c < N → f (12 * r + c) = Int64.ofInt (V' r c)) ∧ ∀ x, (x < 12 * r ∨ 12 * r + 12 ≤ x) → f x = g x) (N - i) (by
    rintro j st hj ⟨f, rfl, f1, f2, f3⟩
    unfold bX7_determinant_156
    dsimp only
    have cond : (nI N - nI (j + 1) < nI i) ↔ N ≤ i + j := by
      rw [Int32.lt_iff_toInt_lt, pk_sub_toInt (by omega) (by omega), nI_toInt (by omega)]
      omega
    rcases Nat.lt_or_ge (i + j) N with q | q
    · right
      have k0 : nI N - nI (j + 1) = nI (N - 1 - j) := by
        rw [pz_sub (by omega) (by omega)]
        congr 1
        omega
      have k1 : nI (N - 1 - j) + -1 = nI N - nI (j + 1 + 1) := by
        apply Int32.toInt_inj.mp
        rw [pk_sub_toInt (by omega) (by omega), show (nI (N - 1 - j) + -1 : Int32) = nI (N - 1 - j) - nI 1 from by rw [Int32.sub_eq_add_neg]; rfl, pk_sub_toInt (by omega) (by omega)]
        omega
      rw [if_neg (fun z => by have := cond.mp z; omega), k0]
      simp only [pz_12, pz_let]
      rw [pz_gd (pz_in (by omega) (by decide)), pz_gd (pz_in (by omega) (by decide)), pz_gd (pz_in (by omega) (by decide)), pz_gd (pz_in (by omega) (by decide)), pz_gd hnz, nI_clamp (by omega), nI_clamp (by omega), nI_clamp (by omega), nI_clamp (by omega), k1, f2 (N - 1 - j) (by omega) (by omega), f2 i (Nat.le_refl _) (by omega), f3 (12 * i + i) (by omega), f3 (12 * i + (N - 1 - j)) (by omega), hg2 i (Nat.le_refl _) hi, hg2 (N - 1 - j) (by omega) (by omega), ← Int64.ofInt_mul, ← Int64.ofInt_mul, ← Int64.ofInt_sub]
      refine ⟨by omega, _, rfl, _, rfl, ?_, ?_, ?_⟩
      · intro c hc1 hc2 hc3
        by_cases e : c = N - 1 - j
        · subst e
          rw [tl_u1, ← hV r (N - 1 - j) hr hrN hc1 hc2, el_div hD0 ?_ (by omega)]
          rw [Int.natAbs_mul]
          exact Nat.lt_of_le_of_lt (Nat.mul_le_mul hD (ba_bound h' hB (by omega) hrN (by omega) hc2)) (by decide)
        · rw [tl_u2 _ _ (by omega)]
          exact f1 c hc1 hc2 (by omega)
      · intro c hc1 hc2
        rw [tl_u2 _ _ (by omega)]
        exact f2 c hc1 (by omega)
      · intro x hx
        rw [tl_u2 _ _ (by omega)]
        exact f3 x hx
    · left
      exact ⟨f, by rw [if_pos (cond.mpr q)], fun c hc1 hc2 => f1 c hc1 hc2 (by omega), f3⟩) 1000 0 (nI N - 1, g) (by omega) ⟨g, rfl, fun c _ _ _ => by omega, fun c hc1 hc2 => hg1 c hc1 (by omega), fun _ _ => rfl⟩ (by omega)
  exact ⟨r', l1, l2⟩
theorem rd_rows (hN : N ≤ 12) (h : ba_inv N T0 i P V) (hB : rd_B N 705432 T0) (hi : i < N) {V' : Nat → Nat → Int} (h' : ba_inv N T0 (i + 1) P V') (hV : ∀ r c, i < r → r < N → i < c → c < N → ds_det i P * V' r c = V r c * V i i - V r i * V i c) (hg : ∀ r c, i ≤ r → r < N → i ≤ c → c < N → g (12 * r + c) = Int64.ofInt (V r c)) (z2 : Int32) :
    ∃ g', dk_loop (bX7_determinant_145 (nI N) (Int64.ofInt (ds_det i P)) z2 (nI i)) 1000 (nI (i + 1), g) = some g' ∧ (∀ r c, i < r → r < N → i < c → c < N → g' (12 * r + c) = Int64.ofInt (V' r c)) ∧ g' (12 * i + i) = g (12 * i + i) := by
  obtain ⟨r', l1, l2⟩ := pz_fin (body := bX7_determinant_145 (nI N) (Int64.ofInt (ds_det i P)) z2 (nI i)) (fun j st => ∃ f, st = (nI (i + 1 + j), f) ∧ (∀ r c, i < r → r < i + 1 + j → r < N → i < c → c < N → f (12 * r + c) = Int64.ofInt (V' r c)) ∧ (∀ r c, i + 1 + j ≤ r → r < N → i ≤ c → c < N → f (12 * r + c) = Int64.ofInt (V r c)) ∧ ∀ c, c < 12 → f (12 * i + c) = g (12 * i + c)) (fun f => (∀ r c, i < r → r < N → i < c → c < N → f (12 * r + c) = Int64.ofInt (V' r c)) ∧ f (12 * i + i) = g (12 * i + i)) (N - (i + 1)) (by
    rintro j st hj ⟨f, rfl, f1, f2, f3⟩
    unfold bX7_determinant_145
    dsimp only
    rcases Nat.lt_or_ge (i + 1 + j) N with q | q
    · right
      obtain ⟨g', w1, w2, w3⟩ := rd_row hN h hB hi h' hV (r := i + 1 + j) (by omega) q (fun c hc1 hc2 => f2 _ c (Nat.le_refl _) q hc1 hc2) (fun c hc1 hc2 => by rw [f3 c (by omega)]; exact hg i c (Nat.le_refl _) hi hc1 hc2) z2
      refine ⟨by omega, (nI (i + 1 + (j + 1)), g'), ?_, g', rfl, ?_, ?_, ?_⟩
      · rw [if_neg (nI_ge q (by omega)), pz_let, w1, pz_bs, pz_let, nI_1]
        rfl
      · intro r c r1 r2 r3 c1 c2
        by_cases e : r = i + 1 + j
        · rw [e]; exact w2 c c1 c2
        · rw [w3 _ (by omega)]
          exact f1 r c r1 (by omega) r3 c1 c2
      · intro r c r1 r2 c1 c2
        rw [w3 _ (by omega)]
        exact f2 r c (by omega) r2 c1 c2
      · intro c hc
        rw [w3 _ (by omega)]
        exact f3 c hc
    · left
      exact ⟨f, by rw [if_pos (nI_le q (by omega))], fun r c r1 r2 => f1 r c r1 (by omega) r2, f3 i (by omega)⟩) 1000 0 (nI (i + 1), g) (by omega) ⟨g, rfl, fun r c _ _ => by omega, fun r c r1 r2 c1 c2 => hg r c (by omega) r2 c1 c2, fun _ _ => rfl⟩ (by omega)
  exact ⟨r', l1, l2⟩
theorem rd_det (hN : N ≤ 12) (hB : rd_B N 705432 T0) (M : Nat → Int64) (hM : ∀ r c, r < N → c < N → M (12 * r + c) = Int64.ofInt (T0 r c)) : ∃ M', fX7_determinant M (nI N) = some (Int64.ofInt (ds_det N T0), M') := by
  obtain ⟨r, l1, l2⟩ := pz_fin (body := bX7_determinant_8 (nI N)) (fun i st => ∃ P V s f, st = (Int64.ofInt (ds_det i P), s, nI i, f) ∧ ba_inv N T0 i P V ∧ (∀ r c, i ≤ r → r < N → i ≤ c → c < N → f (12 * r + c) = Int64.ofInt (V r c)) ∧ ((s = 1 ∧ ds_det N T0 = ds_det N P) ∨ (s = -1 ∧ ds_det N T0 = - ds_det N P))) (fun r => dk_sum r (fun z => z.1 = Int64.ofInt (ds_det N T0)) (fun z => z.2.1.toInt64 * z.1 = Int64.ofInt (ds_det N T0))) N (by
    rintro i st hj ⟨P, V, s, f, rfl, hI, hf, hs⟩
    unfold bX7_determinant_8
    dsimp only
    rcases Nat.lt_or_ge i N with q | q
    · obtain ⟨b, b1, b2, b3, b4, b5⟩ := rd_seek hN hI hB q hf (Int64.ofInt (ds_det i P)) s
      rw [if_neg (nI_ge q (by omega)), b3, pz_bs]
      unfold jX7_determinant_48
      by_cases e : b = N
      · left
        subst e
        rw [if_pos rfl]
        refine ⟨_, rfl, ?_⟩
        have z := ba_none hI q (fun r r1 r2 => b4 r r1 r2)
        show (0 : Int64) = Int64.ofInt (ds_det b T0)
        rcases hs with ⟨_, hs⟩ | ⟨_, hs⟩
        · rw [hs, z]; rfl
        · rw [hs, z]; rfl
      · right
        have hbN : b < N := by omega
        have hI2 := ba_swap hI b1 hbN
        have hV0 : ds_sw V i b i i ≠ 0 := by
          unfold ds_sw
          rw [if_pos rfl]
          exact b5 hbN
        obtain ⟨V', s1, s2⟩ := ba_step hI2 q hV0
        have eD : ds_det i (ds_sw P i b) = ds_det i P := ds_det_congr i (fun r c hr _ => by
          unfold ds_sw
          rw [if_neg (by omega), if_neg (by omega)])
        have fin : ∀ s' : Int32, ((s' = 1 ∧ ds_det N T0 = ds_det N (ds_sw P i b)) ∨ (s' = -1 ∧ ds_det N T0 = - ds_det N (ds_sw P i b))) → (i < N ∧ ∃ t, jX7_determinant_68 f (nI N) (Int64.ofInt (ds_det i P)) s' (nI i) (nI b) = some (.inr t) ∧ ∃ P V s f, t = (Int64.ofInt (ds_det (i + 1) P), s, nI (i + 1), f) ∧ ba_inv N T0 (i + 1) P V ∧ (∀ r c, i + 1 ≤ r → r < N → i + 1 ≤ c → c < N → f (12 * r + c) = Int64.ofInt (V r c)) ∧ ((s = 1 ∧ ds_det N T0 = ds_det N P) ∨ (s = -1 ∧ ds_det N T0 = - ds_det N P))) := by
          intro s' hs'
          obtain ⟨g1, w1, w2⟩ := rd_swap (g := f) hN q hbN (Int64.ofInt (ds_det i P)) s'
          have hg1 : ∀ r c, i ≤ r → r < N → i ≤ c → c < N → g1 (12 * r + c) = Int64.ofInt (ds_sw V i b r c) := by
            intro r c r1 r2 c1 c2
            rw [w2 r c r2 c2]
            unfold ds_sw
            by_cases e1 : r = i
            · rw [if_pos e1, if_pos e1]
              exact hf b c b1 hbN c1 c2
            · rw [if_neg e1, if_neg e1]
              by_cases e2 : r = b
              · rw [if_pos e2, if_pos e2]
                exact hf i c (Nat.le_refl _) q c1 c2
              · rw [if_neg e2, if_neg e2]
                exact hf r c r1 r2 c1 c2
          rw [← eD] at w1 ⊢
          obtain ⟨g2, y1, y2, y3⟩ := rd_rows hN hI2 hB q s1 s2 hg1 s'
          refine ⟨q, (Int64.ofInt (ds_det (i + 1) (ds_sw P i b)), s', nI (i + 1), g2), ?_, ds_sw P i b, V', s', g2, rfl, s1, fun r c r1 r2 c1 c2 => y2 r c r1 r2 c1 c2, hs'⟩
          unfold jX7_determinant_68
          simp only [w1, pz_bs, pz_let, nI_1, y1, pz_12]
          rw [pz_gd (pz_in (by omega) (by decide)), nI_clamp (by omega), y3, hg1 i i (Nat.le_refl _) q (Nat.le_refl _) q, ba_piv hI2 q]
        rw [if_neg (pz_nz (by omega) (by omega) e)]
        have sd := ba_swdet (P := P) b1 hbN
        by_cases e2 : b = i
        · rw [if_pos (by rw [e2])]
          refine fin s ?_
          rw [if_pos e2] at sd
          rw [sd]
          exact hs
        · rw [if_neg (pz_nz (by omega) (by omega) e2), pz_let]
          refine fin (-s) ?_
          rw [if_neg e2] at sd
          rw [sd, Int.neg_neg]
          rcases hs with ⟨hs1, hs2⟩ | ⟨hs1, hs2⟩
          · right; exact ⟨by rw [hs1], hs2⟩
          · left; exact ⟨by rw [hs1]; rfl, hs2⟩
    · left
      have e : i = N := by omega
      subst e
      refine ⟨_, by rw [if_pos (nI_le (Nat.le_refl _) (by omega))], ?_⟩
      show s.toInt64 * Int64.ofInt (ds_det i P) = Int64.ofInt (ds_det i T0)
      rcases hs with ⟨hs1, hs2⟩ | ⟨hs1, hs2⟩
      · rw [hs1, hs2, show (1 : Int32).toInt64 = Int64.ofInt 1 from by decide, ← Int64.ofInt_mul, Int.one_mul]
      · rw [hs1, hs2, show (-1 : Int32).toInt64 = Int64.ofInt (-1) from by decide, ← Int64.ofInt_mul, Int.neg_one_mul]) 1000 0 (1, 1, 0, M) (by omega) ⟨T0, T0, 1, M, rfl, ba_0 N T0, fun r c _ r2 _ c2 => hM r c r2 c2, Or.inl ⟨rfl, rfl⟩⟩ (by omega)
  unfold fX7_determinant
  rw [l1, pz_bs]
  cases r with
  | inl z =>
    have e : z.1 = Int64.ofInt (ds_det N T0) := l2
    refine ⟨z.2, ?_⟩
    rw [← e]
    rfl
  | inr z =>
    have e : z.2.1.toInt64 * z.1 = Int64.ofInt (ds_det N T0) := l2
    refine ⟨z.2.2, ?_⟩
    rw [← e]
    rfl
end

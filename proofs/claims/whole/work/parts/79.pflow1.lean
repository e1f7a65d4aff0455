/-! ===== PURE 19: the class's flow: rows and elimination ===== -/
theorem tl_u1 (f : Nat → Int64) (i : Nat) (v : Int64) : vp_updL f i v i = v := by unfold vp_updL; rw [if_pos rfl]
theorem tl_u2 (f : Nat → Int64) {i j : Nat} (v : Int64) (h : j ≠ i) : vp_updL f i v j = f j := by unfold vp_updL; rw [if_neg h]
theorem pz_13 (k i : Nat) : nI k * 13 + nI i = nI (13 * k + i) := by
  have e : (13 : Int32) = nI 13 := rfl
  rw [e, pk_mul, nI_add, Nat.mul_comm]
def fl_pl (p : Nat) (cu : Nat → Int32) (w : Nat) : Bool := decide (w ≠ p ∧ cu w = 0)
theorem fl_pln {p w : Nat} {cu : Nat → Int32} (hp : p < 2 ^ 31) (hw : w < 2 ^ 31) : (nI w ≠ nI p ∧ cu w = 0) ↔ fl_pl p cu w = true := by
  unfold fl_pl
  rw [decide_eq_true_iff]
  constructor
  · intro h
    exact ⟨fun e => h.1 (by rw [e]), h.2⟩
  · intro h
    exact ⟨fun e => h.1 (pz_inj hw hp e), h.2⟩
section
variable {K n p : Nat} {a b : Nat → Nat} {fi se cu : Nat → Int32}
theorem wr_wire {x y : Nat} (hx : x < 12) (hy : y < 12) (hxy : x ≠ y) (R : Nat → Int64) (m : Nat) (ha : a m = x) (hb : b m = y) (pl : Nat → Bool) (hpl : pl m = true) (hR : ∀ i c, i < 12 → c < 13 → R (13 * i + c) = Int64.ofInt (fl_lp m a b pl i c)) : ∃ R', fX1_writeWire R (nI x) (nI y) = some R' ∧ ∀ i c, i < 12 → c < 13 → R' (13 * i + c) = Int64.ofInt (fl_lp (m + 1) a b pl i c) := by
  unfold fX1_writeWire
  simp only [pz_13, pz_let]
  rw [pz_gd (pz_in (by omega) (by decide)), pz_gd (pz_in (by omega) (by decide)), pz_gd (pz_in (by omega) (by decide)), pz_gd (pz_in (by omega) (by decide)), nI_clamp (by omega), nI_clamp (by omega), nI_clamp (by omega), nI_clamp (by omega)]
  refine ⟨_, rfl, fun i c hi hc => ?_⟩
  have e1 : ∀ z : Int, Int64.ofInt z + 1 = Int64.ofInt (z + 1) := fun z => by rw [Int64.ofInt_add]; rfl
  have e2 : ∀ z : Int, Int64.ofInt z - 1 = Int64.ofInt (z - 1) := fun z => by rw [Int64.ofInt_sub]; rfl
  rw [fl_lpS]
  unfold fl_v
  rw [if_pos hpl, ha, hb]
  have ne : ∀ {u v u' v' : Nat}, v < 13 → v' < 13 → (u ≠ u' ∨ v ≠ v') → 13 * u + v ≠ 13 * u' + v' := by omega
  by_cases g1 : i = x
  · subst g1
    rw [ds_i1, ds_i0 hxy]
    by_cases g2 : c = i
    · subst g2
      rw [tl_u2 _ _ (ne (by omega) (by omega) (Or.inl hxy)), tl_u2 _ _ (ne (by omega) (by omega) (Or.inr hxy)), tl_u2 _ _ (ne (by omega) (by omega) (Or.inl hxy)), tl_u1, hR _ _ hx (by omega), e1, ds_i1, ds_i0 hxy]
      congr 1
    · by_cases g3 : c = y
      · subst g3
        rw [tl_u2 _ _ (ne (by omega) (by omega) (Or.inl hxy)), tl_u1, tl_u2 _ _ (ne (by omega) (by omega) (Or.inl hxy)), tl_u2 _ _ (ne (by omega) (by omega) (Or.inr g2)), hR _ _ hx (by omega), e2, ds_i1, ds_i0 g2]
        congr 1
      · rw [tl_u2 _ _ (ne (by omega) (by omega) (Or.inl hxy)), tl_u2 _ _ (ne (by omega) (by omega) (Or.inr g3)), tl_u2 _ _ (ne (by omega) (by omega) (Or.inl hxy)), tl_u2 _ _ (ne (by omega) (by omega) (Or.inr g2)), hR _ _ hx hc, ds_i0 g2, ds_i0 g3]
        congr 1
        omega
  · by_cases g4 : i = y
    · subst g4
      rw [ds_i1, ds_i0 g1]
      by_cases g2 : c = i
      · subst g2
        rw [tl_u2 _ _ (ne (by omega) (by omega) (Or.inr g1)), tl_u2 _ _ (ne (by omega) (by omega) (Or.inl g1)), tl_u1, tl_u2 _ _ (ne (by omega) (by omega) (Or.inl g1)), hR _ _ hi hc, e1, ds_i1, ds_i0 g1]
        congr 1
      · by_cases g3 : c = x
        · subst g3
          rw [tl_u1, tl_u2 _ _ (ne (by omega) (by omega) (Or.inl g1)), tl_u2 _ _ (ne (by omega) (by omega) (Or.inr g2)), tl_u2 _ _ (ne (by omega) (by omega) (Or.inl g1)), hR _ _ hi hc, e2, ds_i1, ds_i0 g2]
          congr 1
        · rw [tl_u2 _ _ (ne (by omega) (by omega) (Or.inr g3)), tl_u2 _ _ (ne (by omega) (by omega) (Or.inl g1)), tl_u2 _ _ (ne (by omega) (by omega) (Or.inr g2)), tl_u2 _ _ (ne (by omega) (by omega) (Or.inl g1)), hR _ _ hi hc, ds_i0 g2, ds_i0 g3]
          congr 1
          omega
    · rw [tl_u2 _ _ (ne (by omega) (by omega) (Or.inl g4)), tl_u2 _ _ (ne (by omega) (by omega) (Or.inl g1)), tl_u2 _ _ (ne (by omega) (by omega) (Or.inl g4)), tl_u2 _ _ (ne (by omega) (by omega) (Or.inl g1)), hR _ _ hi hc, ds_i0 g1, ds_i0 g4]
      congr 1
      omega
theorem wr_rows (hK : K ≤ 12) (hn : n ≤ 22) (hf : ∀ w, w < n → a w < K ∧ b w < K ∧ a w ≠ b w) (hs : ∀ w, w < n → fi w = nI (a w) ∧ se w = nI (b w)) (hp : p < n) (W0 : Nat → Int64) :
    ∃ r, fX1_writeRows W0 fi se cu (nI K) (nI n) (nI p) = some r ∧ ∀ i c, i < K → c ≤ K → r (13 * i + c) = Int64.ofInt (fl_A K n (b p) (a p) a b (fl_pl p cu) i c) := by
  obtain ⟨r1, h1, h2⟩ := pz_fin (body := bX1_writeRows_2 fi se cu (nI K) (nI n) (nI p)) (fun j st => ∃ g, st = (nI j, g) ∧ ∀ d, d < j → g d = Int64.ofInt 0) (fun r => ∀ d, d < 156 → r d = Int64.ofInt 0) 156 (by
    rintro j st hj ⟨g, rfl, hg⟩
    unfold bX1_writeRows_2
    dsimp only
    rcases Nat.lt_or_ge j 156 with q | q
    · right
      refine ⟨q, (nI (j + 1), vp_updL g j 0), ?_, _, rfl, ?_⟩
      · rw [if_neg (show ¬ (156 : Int32) ≤ nI j from nI_ge (b := 156) q (by omega)), pz_gd (pz_in q (by decide)), pz_let, pz_let, nI_clamp (by omega), nI_1]
      · intro d hd
        by_cases e : d = j
        · rw [e, tl_u1]; rfl
        · rw [tl_u2 g _ e]; exact hg d (by omega)
    · left
      have e : j = 156 := by omega
      subst e
      exact ⟨g, by rw [if_pos (show (156 : Int32) ≤ nI 156 by decide)], hg⟩) 1000 0 (nI 0, W0) (by omega) ⟨W0, rfl, fun d hd => absurd hd (by omega)⟩ (by omega)
  obtain ⟨r2, h3, h4⟩ := pz_fin (body := bX1_writeRows_24 fi se cu (nI K) (nI n) (nI p)) (fun j st => ∃ g, st = (nI j, g) ∧ ∀ i c, i < 12 → c < 13 → g (13 * i + c) = Int64.ofInt (fl_lp j a b (fl_pl p cu) i c)) (fun r => ∀ i c, i < 12 → c < 13 → r (13 * i + c) = Int64.ofInt (fl_lp n a b (fl_pl p cu) i c)) n (by
    rintro j st hj ⟨g, rfl, hg⟩
    unfold bX1_writeRows_24 jX1_writeRows_56
    dsimp only
    rcases Nat.lt_or_ge j n with q | q
    · right
      refine ⟨q, ?_⟩
      rw [if_neg (nI_ge q (by omega)), ph_pl4 (by omega), pz_bs]
      by_cases c1 : fl_pl p cu j = true
      · obtain ⟨R', w1, w2⟩ := wr_wire (by have := (hf j q).1; omega) (by have := (hf j q).2.1; omega) (hf j q).2.2 g j rfl rfl (fl_pl p cu) c1 hg
        rw [if_pos ((fl_pln (by omega) (by omega)).mpr c1), if_neg (by decide), pz_gd (pz_in (show j < 22 by omega) (by decide)), nI_clamp (by omega), (hs j q).1, (hs j q).2, w1, pz_bs, pz_let, nI_1]
        exact ⟨_, rfl, _, rfl, w2⟩
      · rw [if_neg (fun z => c1 ((fl_pln (by omega) (by omega)).mp z)), if_pos rfl, pz_let, nI_1]
        refine ⟨_, rfl, _, rfl, fun i c hi hc => ?_⟩
        rw [hg i c hi hc, fl_lpS]
        unfold fl_v
        rw [if_neg c1, Int.mul_zero, Int.add_zero]
    · left
      have e : j = n := by omega
      subst e
      exact ⟨g, by rw [if_pos (nI_le (Nat.le_refl _) (by omega))], hg⟩) 1000 0 (nI 0, r1) (by omega) ⟨r1, rfl, fun i c hi hc => h2 _ (by omega)⟩ (by omega)
  obtain ⟨ha, hb, hne⟩ := hf p hp
  have hcol : ∀ i, fl_lp n a b (fl_pl p cu) i K = 0 := fun i => fl_lp_out (fun w hw => ⟨(hf w hw).1, (hf w hw).2.1⟩) i (Nat.le_refl _) n (Nat.le_refl _)
  obtain ⟨r3, h5, h6⟩ := pz_fin (body := bX1_writeRows_74 fi se cu (nI K) (nI n) (nI p) (nI (b p))) (fun j st => ∃ g, st = (nI j, g) ∧ ∀ i c, i < K → c ≤ K → g (13 * i + c) = Int64.ofInt (if (i = b p ∧ c < j) ∨ (c = b p ∧ i < j) then 0 else fl_lp n a b (fl_pl p cu) i c)) (fun r => ∀ i c, i < K → c ≤ K → r (13 * i + c) = Int64.ofInt (if (i = b p ∧ c < K) ∨ (c = b p ∧ i < K) then 0 else fl_lp n a b (fl_pl p cu) i c)) K (by
    rintro j st hj ⟨g, rfl, hg⟩
    unfold bX1_writeRows_74
    dsimp only
    rcases Nat.lt_or_ge j K with q | q
    · right
      refine ⟨q, (nI (j + 1), vp_updL (vp_updL g (13 * b p + j) 0) (13 * j + b p) 0), ?_, _, rfl, ?_⟩
      · simp only [pz_13, pz_let]
        rw [if_neg (nI_ge q (by omega)), pz_gd (pz_in (by omega) (by decide)), pz_gd (pz_in (by omega) (by decide)), nI_clamp (by omega), nI_clamp (by omega), nI_1]
      · intro i c hi hc
        by_cases e1 : 13 * i + c = 13 * j + b p
        · rw [e1, tl_u1, if_pos (Or.inr ⟨by omega, by omega⟩)]
          rfl
        · rw [tl_u2 _ _ e1]
          by_cases e2 : 13 * i + c = 13 * b p + j
          · rw [e2, tl_u1, if_pos (Or.inl ⟨by omega, by omega⟩)]
            rfl
          · rw [tl_u2 _ _ e2, hg i c hi hc]
            by_cases e3 : (i = b p ∧ c < j) ∨ (c = b p ∧ i < j)
            · rw [if_pos e3, if_pos (by omega)]
            · rw [if_neg e3, if_neg (by omega)]
    · left
      have e : j = K := by omega
      subst e
      exact ⟨g, by rw [if_pos (nI_le (Nat.le_refl _) (by omega))], hg⟩) 1000 0 (nI 0, r2) (by omega) ⟨r2, rfl, fun i c hi hc => by
        rw [h4 i c (by omega) (by omega), if_neg (by omega)]⟩ (by omega)
  refine ⟨vp_updL (vp_updL r3 (13 * b p + b p) 1) (13 * a p + K) 1, ?_, ?_⟩
  · unfold fX1_writeRows
    rw [show (0 : Int32) = nI 0 from rfl, h1, pz_bs, h3, pz_bs, pz_gd (pz_in (show p < 22 by omega) (by decide)), nI_clamp (show p < 2 ^ 31 by omega), (hs p hp).1, (hs p hp).2, pz_let, h5, pz_bs]
    simp only [pz_13, pz_let]
    rw [pz_gd (pz_in (by omega) (by decide)), pz_gd (pz_in (show p < 22 by omega) (by decide)), pz_gd (pz_in (by omega) (by decide)), nI_clamp (by omega), nI_clamp (by omega)]
  · intro i c hi hc
    unfold fl_A
    by_cases e1 : 13 * i + c = 13 * a p + K
    · rw [e1, tl_u1, if_pos (by omega)]
      unfold ds_e
      rw [if_pos (by omega)]
      rfl
    · rw [tl_u2 _ _ e1]
      by_cases e2 : 13 * i + c = 13 * b p + b p
      · rw [e2, tl_u1, if_neg (by omega), if_pos (Or.inl (by omega))]
        rw [show i = c by omega, ds_i1]
        rfl
      · rw [tl_u2 _ _ e2, h6 i c hi hc]
        by_cases e3 : c = K
        · rw [if_pos e3]
          unfold ds_e
          rw [if_neg (by omega), if_neg (by omega), e3, hcol]
        · rw [if_neg e3]
          by_cases e4 : i = b p ∨ c = b p
          · rw [if_pos (by omega), if_pos e4, ds_i0 (by omega)]
          · rw [if_neg (by omega), if_neg e4]
theorem el_div {D x : Int} (hD : D ≠ 0) (h1 : (D * x).natAbs < 2 ^ 62) (h2 : D.natAbs < 2 ^ 62) : Int64.ofInt (D * x) / Int64.ofInt D = Int64.ofInt x := by
  rw [pg_div h1 h2, Int.mul_tdiv_cancel_left x hD]
theorem el_nz {D : Int} (hD : D ≠ 0) (h : D.natAbs < 2 ^ 62) : ¬ Int64.ofInt D = 0 := by
  intro e
  have e2 : (Int64.ofInt D).toInt = (0 : Int64).toInt := by rw [e]
  rw [pg_toInt h] at e2
  exact hD e2
/-- one row -/
theorem el_row {A : Nat → Nat → Int} (hK : K ≤ 12) (hinj : el_inj A K) (hR : ∀ p r c, p ≤ K → (el_R A p r c).natAbs ≤ 2 ^ 36) (hD : ∀ p, p ≤ K → (ds_det p A).natAbs ≤ 2 ^ 20) {p r : Nat} (hp : p < K) (hr : r < K) (hrp : r ≠ p) (W : Nat → Int64) (h1 : ∀ c, c ≤ K → W (13 * p + c) = Int64.ofInt (el_R A p p c)) (h2 : ∀ c, c ≤ K → W (13 * r + c) = Int64.ofInt (el_R A p r c)) :
    ∃ W', fX1_reduceRow W (nI r) (nI p) (nI K) (Int64.ofInt (ds_det p A)) = some W' ∧ (∀ c, c ≤ K → W' (13 * r + c) = Int64.ofInt (el_R A (p + 1) r c)) ∧ ∀ x, (x < 13 * r ∨ 13 * r + 13 ≤ x) → W' x = W x := by
  have hDp := hD p (by omega)
  have hD0 := el_D hinj p (by omega)
  obtain ⟨r', l1, l2⟩ := pz_fin (body := bX1_reduceRow_37 (nI r) (nI p) (nI K) (Int64.ofInt (ds_det p A)) (Int64.ofInt (el_R A p p p)) (Int64.ofInt (el_R A p r p))) (fun j st => ∃ g, st = (nI j, g) ∧ (∀ c, c < j → g (13 * r + c) = Int64.ofInt (el_R A (p + 1) r c)) ∧ (∀ c, j ≤ c → c ≤ K → g (13 * r + c) = Int64.ofInt (el_R A p r c)) ∧ ∀ x, (x < 13 * r ∨ 13 * r + 13 ≤ x) → g x = W x) (fun g => (∀ c, c ≤ K → g (13 * r + c) = Int64.ofInt (el_R A (p + 1) r c)) ∧ ∀ x, (x < 13 * r ∨ 13 * r + 13 ≤ x) → g x = W x) (K + 1) (by
    rintro j st hj ⟨g, rfl, g1, g2, g3⟩
    unfold bX1_reduceRow_37
    dsimp only
    rcases Nat.lt_or_ge K j with q | q
    · left
      refine ⟨g, by rw [if_pos ((nI_ltI (by omega) (by omega)).mpr q)], fun c hc => g1 c (by omega), g3⟩
    · right
      have st := (el_step hinj hp j).2 r hrp
      refine ⟨by omega, (nI (j + 1), vp_updL g (13 * r + j) (Int64.ofInt (el_R A (p + 1) r j))), ?_, _, rfl, ?_, ?_, ?_⟩
      · simp only [pz_13, pz_let]
        rw [if_neg (fun z => by have := (nI_ltI (by omega) (by omega)).mp z; omega), pz_gd (pz_in (by omega) (by decide)), pz_gd (pz_in (by omega) (by decide)), pz_gd (show dk_nz (Int64.ofInt (ds_det p A)) = true from decide_eq_true (el_nz hD0 (by omega))), nI_clamp (by omega), nI_clamp (by omega), g2 j (Nat.le_refl _) q, g3 (13 * p + j) (by omega), h1 j q, ← Int64.ofInt_mul, ← Int64.ofInt_mul, ← Int64.ofInt_sub, ← st, el_div hD0 ?_ (by omega), nI_1]
        rw [Int.natAbs_mul]
        exact Nat.lt_of_le_of_lt (Nat.mul_le_mul hDp (hR (p + 1) r j (by omega))) (by decide)
      · intro c hc
        by_cases e : c = j
        · rw [e, tl_u1]
        · rw [tl_u2 _ _ (by omega)]
          exact g1 c (by omega)
      · intro c hc1 hc2
        rw [tl_u2 _ _ (by omega)]
        exact g2 c (by omega) hc2
      · intro x hx
        rw [tl_u2 _ _ (by omega)]
        exact g3 x hx) 1000 0 (nI 0, W) (by omega) ⟨W, rfl, fun c hc => absurd hc (by omega), fun c _ hc => h2 c hc, fun _ _ => rfl⟩ (by omega)
  refine ⟨r', ?_, l2⟩
  unfold fX1_reduceRow
  simp only [pz_13, pz_let]
  rw [if_neg (fun z => el_nz hD0 (by omega) ((lg_cmp_eq _ _).mp z)), pz_gd (pz_in (by omega) (by decide)), pz_gd (pz_in (by omega) (by decide)), nI_clamp (by omega), nI_clamp (by omega), h1 p (by omega), h2 p (by omega), show (0 : Int32) = nI 0 from rfl, l1, pz_bs]
theorem el_all {A : Nat → Nat → Int} (hK : K ≤ 12) (hinj : el_inj A K) (hR : ∀ p r c, p ≤ K → (el_R A p r c).natAbs ≤ 2 ^ 36) (hD : ∀ p, p ≤ K → (ds_det p A).natAbs ≤ 2 ^ 20) (W : Nat → Int64) (T : Int64) (hW : ∀ i c, i < K → c ≤ K → W (13 * i + c) = Int64.ofInt (A i c)) :
    ∃ W', fX1_eliminate W T (nI K) = some (W', Int64.ofInt (ds_det K A)) ∧ ∀ i c, i < K → c ≤ K → W' (13 * i + c) = Int64.ofInt (el_R A K i c) := by
  obtain ⟨r, l1, l2, l3⟩ := pz_fin (body := bX1_eliminate_5 T (nI K)) (fun p st => ∃ g, st = (Int64.ofInt (ds_det p A), nI p, g) ∧ ∀ i c, i < K → c ≤ K → g (13 * i + c) = Int64.ofInt (el_R A p i c)) (fun r => r.1 = Int64.ofInt (ds_det K A) ∧ ∀ i c, i < K → c ≤ K → r.2 (13 * i + c) = Int64.ofInt (el_R A K i c)) K (by
    rintro p st hj ⟨g, rfl, hg⟩
    unfold bX1_eliminate_5
    dsimp only
    rcases Nat.lt_or_ge p K with q | q
    · right
      obtain ⟨r, m1, m2⟩ := pz_fin (body := bX1_eliminate_29 T (nI K) (Int64.ofInt (ds_det p A)) (nI p) (Int64.ofInt (el_R A p p p))) (fun j st => ∃ g, st = (nI j, g) ∧ (∀ i c, i < j → c ≤ K → g (13 * i + c) = Int64.ofInt (el_R A (p + 1) i c)) ∧ (∀ i c, j ≤ i → i < K → c ≤ K → g (13 * i + c) = Int64.ofInt (el_R A p i c))) (fun g => ∀ i c, i < K → c ≤ K → g (13 * i + c) = Int64.ofInt (el_R A (p + 1) i c)) K (by
        rintro j st hj ⟨g, rfl, g1, g2⟩
        unfold bX1_eliminate_29 jX1_eliminate_52
        dsimp only
        rcases Nat.lt_or_ge j K with q2 | q2
        · right
          refine ⟨q2, ?_⟩
          rw [if_neg (nI_ge q2 (by omega))]
          by_cases e : j = p
          · rw [if_pos (by rw [e]), pz_let, nI_1]
            refine ⟨_, rfl, g, rfl, fun i c hi hc => ?_, fun i c hi1 hi2 hc => g2 i c (by omega) hi2 hc⟩
            by_cases e2 : i = j
            · subst e2 e
              rw [(el_step hinj q c).1]
              exact g2 i c (Nat.le_refl _) q2 hc
            · exact g1 i c (by omega) hc
          · have hp' : ∀ c, c ≤ K → g (13 * p + c) = Int64.ofInt (el_R A p p c) := fun c hc => by
              rcases Nat.lt_or_ge p j with z | z
              · rw [← (el_step hinj q c).1]
                exact g1 p c z hc
              · exact g2 p c z q hc
            obtain ⟨W', w1, w2, w3⟩ := el_row hK hinj hR hD q q2 e g hp' (fun c hc => g2 j c (Nat.le_refl _) q2 hc)
            rw [if_neg (pz_nz (by omega) (by omega) e), w1, pz_bs, pz_let, nI_1]
            refine ⟨_, rfl, W', rfl, fun i c hi hc => ?_, fun i c hi1 hi2 hc => ?_⟩
            · by_cases e2 : i = j
              · rw [e2]; exact w2 c hc
              · rw [w3 _ (by omega)]; exact g1 i c (by omega) hc
            · rw [w3 _ (by omega)]; exact g2 i c (by omega) hi2 hc
        · left
          have e : j = K := by omega
          subst e
          exact ⟨g, by rw [if_pos (nI_le (Nat.le_refl _) (by omega))], g1⟩) 1000 0 (nI 0, g) (by omega) ⟨g, rfl, fun i c hi => absurd hi (by omega), fun i c _ hi hc => hg i c hi hc⟩ (by omega)
      refine ⟨q, (Int64.ofInt (ds_det (p + 1) A), nI (p + 1), r), ?_, r, rfl, m2⟩
      simp only [pz_13, pz_let]
      rw [if_neg (nI_ge q (by omega)), pz_gd (pz_in (by omega) (by decide)), nI_clamp (by omega), hg p p q (by omega), show (0 : Int32) = nI 0 from rfl, m1, pz_bs, nI_1, el_piv hinj q]
    · left
      have e : p = K := by omega
      subst e
      exact ⟨(Int64.ofInt (ds_det p A), g), by rw [if_pos (nI_le (Nat.le_refl _) (by omega))], rfl, hg⟩) 1000 0 (1, nI 0, W) (by omega) ⟨W, rfl, fun i c hi hc => by rw [el_R0]; exact hW i c hi hc⟩ (by omega)
  refine ⟨r.2, ?_, l3⟩
  unfold fX1_eliminate
  rw [show (0 : Int32) = nI 0 from rfl, l1, pz_bs, l2]
end

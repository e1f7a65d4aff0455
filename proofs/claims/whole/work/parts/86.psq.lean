/-! ===== PURE 26: squares, as class and reference hold them ===== -/
theorem pi_toInt {x : Int} (h : x.natAbs < 2 ^ 30) : (Int32.ofInt x).toInt = x := Int32.toInt_ofInt_of_le (by omega) (by omega)
theorem pi_le {x y : Int} (hx : x.natAbs < 2 ^ 30) (hy : y.natAbs < 2 ^ 30) : (Int32.ofInt x ≤ Int32.ofInt y) ↔ x ≤ y := by
  rw [Int32.le_iff_toInt_le, pi_toInt hx, pi_toInt hy]
theorem pi_lt {x y : Int} (hx : x.natAbs < 2 ^ 30) (hy : y.natAbs < 2 ^ 30) : (Int32.ofInt x < Int32.ofInt y) ↔ x < y := by
  rw [Int32.lt_iff_toInt_lt, pi_toInt hx, pi_toInt hy]
theorem pi_eq {x y : Int} (hx : x.natAbs < 2 ^ 30) (hy : y.natAbs < 2 ^ 30) : (Int32.ofInt x = Int32.ofInt y) ↔ x = y := by
  constructor
  · intro e
    have : (Int32.ofInt x).toInt = (Int32.ofInt y).toInt := by rw [e]
    rw [pi_toInt hx, pi_toInt hy] at this
    exact this
  · intro e
    rw [e]
theorem en_lt {O : Nat → Bool} {w : Nat} (hw : O w = true) : ∀ {v : Nat}, w < v → ds_cnt w O < ds_cnt v O := by
  intro v hv
  have m : ∀ d, ds_cnt (w + 1) O ≤ ds_cnt (w + 1 + d) O := by
    intro d
    induction d with
    | zero => exact Nat.le_refl _
    | succ d ih => exact Nat.le_trans ih (Nat.le_add_right _ _)
  have := m (v - (w + 1))
  rw [show w + 1 + (v - (w + 1)) = v by omega, ds_cnt, if_pos hw] at this
  omega
theorem en_le {O : Nat → Bool} {w v : Nat} (h : w ≤ v) : ds_cnt w O ≤ ds_cnt v O := by
  have m : ∀ d, ds_cnt w O ≤ ds_cnt (w + d) O := by
    intro d
    induction d with
    | zero => exact Nat.le_refl _
    | succ d ih => exact Nat.le_trans ih (Nat.le_add_right _ _)
  have := m (v - w)
  rw [show w + (v - w) = v by omega] at this
  exact this
theorem en_inj {O : Nat → Bool} {w v : Nat} (hw : O w = true) (hv : O v = true) (h : ds_cnt w O = ds_cnt v O) : w = v := by
  rcases Nat.lt_trichotomy w v with g | g | g
  · have := en_lt hw g; omega
  · exact g
  · have := en_lt hv g; omega
theorem en_ex (O : Nat → Bool) : ∀ n, ∃ wv : Nat → Nat, ∀ s, s < ds_cnt n O → wv s < n ∧ O (wv s) = true ∧ ds_cnt (wv s) O = s
  | 0 => ⟨fun _ => 0, fun s hs => absurd hs (Nat.not_lt_zero _)⟩
  | n + 1 => by
    obtain ⟨wv, h⟩ := en_ex O n
    by_cases g : O n = true
    · refine ⟨fun s => if s = ds_cnt n O then n else wv s, fun s hs => ?_⟩
      rw [ds_cnt, if_pos g] at hs
      dsimp only
      by_cases q : s = ds_cnt n O
      · rw [if_pos q]; exact ⟨by omega, g, q.symm⟩
      · rw [if_neg q]
        obtain ⟨h1, h2, h3⟩ := h s (by omega)
        exact ⟨by omega, h2, h3⟩
    · refine ⟨wv, fun s hs => ?_⟩
      rw [ds_cnt, if_neg g] at hs
      obtain ⟨h1, h2, h3⟩ := h s (by omega)
      exact ⟨by omega, h2, h3⟩
/-- class and reference hold the same flow -/
def ly_Ok (K n F bt : Nat) (a b fc : Nat → Nat) (fi se cu : Nat → Int32) (h c p : Nat → Int) (hC cC plC fC hM cM pm fM : Nat → Int32) : Prop :=
  K ≤ 12 ∧ n ≤ 22 ∧ F ≤ 22 ∧ bt < n ∧ (∀ w, w < n → a w < K ∧ b w < K ∧ fi w = nI (a w) ∧ se w = nI (b w)) ∧ (∀ d, d < 2 * n → fc d < F ∧ fC d = nI (fc d) ∧ fM d = nI (fc d)) ∧ fo_Ok K n F bt a b fc cu h c p ∧
  (∀ k, k < K → hC k = Int32.ofInt (h k) ∧ hM k = Int32.ofInt (h k)) ∧ (∀ w, w < n → cC w = Int32.ofInt (c w) ∧ cM w = Int32.ofInt (c w)) ∧ (∀ f, f < F → plC f = Int32.ofInt (p f) ∧ pm f = Int32.ofInt (p f))
section
variable {K n F bt : Nat} {a b fc : Nat → Nat} {fi se cu : Nat → Int32} {h c p : Nat → Int} {hC cC plC fC hM cM pm fM : Nat → Int32}
theorem ly_b (H : ly_Ok K n F bt a b fc fi se cu h c p hC cC plC fC hM cM pm fM) {w : Nat} (hw : w < n) : (c w).natAbs ≤ 2 * 705432 ∧ (sq_l fc p w).natAbs ≤ 22 * 2 ^ 22 ∧ (sq_y a b h w).natAbs ≤ 705432 ∧ (sq_s c w).natAbs ≤ 2 * 705432 := by
  obtain ⟨hK, hn, hF, hb, hf, hfc, hfo, hh, hcc, hp⟩ := H
  have h1 := hfo.2.2.1 _ (hf w hw).1
  have h2 := hfo.2.2.1 _ (hf w hw).2.1
  have e := hfo.1 w hw
  have bc : (c w).natAbs ≤ 2 * 705432 := by
    rw [e]
    by_cases g : fl_pl bt cu w = true
    · rw [if_pos g]; omega
    · rw [if_neg g]; decide
  refine ⟨bc, ?_, ?_, ?_⟩
  · unfold sq_l
    have p1 := hfo.2.2.2.1 _ (hfc (2 * w) (by omega)).1
    have p2 := hfo.2.2.2.1 _ (hfc (2 * w + 1) (by omega)).1
    by_cases g : p (fc (2 * w + 1)) ≤ p (fc (2 * w))
    · rw [if_pos g]; exact p2
    · rw [if_neg g]; exact p1
  · unfold sq_y
    by_cases g : h (b w) ≤ h (a w)
    · rw [if_pos g]; exact h2
    · rw [if_neg g]; exact h1
  · unfold sq_s
    omega
theorem ly_sqv (w : Nat) : (if sq_b bt cu c w = true then (1 : Int32) else 0) = 0 ↔ ¬ sq_b bt cu c w = true := by
  by_cases g : sq_b bt cu c w = true
  · rw [if_pos g]
    exact ⟨fun q => absurd q (by decide), fun q => absurd g q⟩
  · rw [if_neg g]
    exact ⟨fun _ => g, fun _ => rfl⟩
theorem ly_isq (H : ly_Ok K n F bt a b fc fi se cu h c p hC cC plC fC hM cM pm fM) {w : Nat} (hw : w < n) : fX7_isSquare (nI bt) cu cM (nI w) = some (if sq_b bt cu c w = true then 1 else 0) := by
  obtain ⟨b1, _⟩ := ly_b H hw
  obtain ⟨hK, hn, hF, hb, hf, hfc, hfo, hh, hcc, hp⟩ := H
  unfold fX7_isSquare
  rw [ph_pl7 (by omega), pz_bs]
  unfold sq_b
  by_cases g : fl_pl bt cu w = true
  · rw [if_pos ((fl_pln (by omega) (by omega)).mpr g), if_neg (by decide), pz_gd (pz_in (show w < 22 by omega) (by decide)), nI_clamp (by omega), (hcc w hw).2, g]
    have z : (Int32.ofInt (c w) = 0) ↔ c w = 0 := pi_eq (y := 0) (by omega) (by decide)
    by_cases q : c w = 0
    · rw [if_pos (z.mpr q), if_neg (by rw [Bool.true_and, decide_eq_true_iff]; exact fun k => k q)]
    · rw [if_neg (fun k => q (z.mp k)), if_pos (by rw [Bool.true_and, decide_eq_true_iff]; exact q)]
  · rw [if_neg (fun z => g ((fl_pln (by omega) (by omega)).mp z)), if_pos rfl, if_neg (by rw [Bool.and_eq_true]; exact fun k => g k.1)]
theorem ly_abs {x : Int} (hx : x.natAbs < 2 ^ 30) : (if 0 ≤ Int32.ofInt x then some (Int32.ofInt x) else some (- Int32.ofInt x)) = some (Int32.ofInt (x.natAbs : Int)) := by
  have z : (0 ≤ Int32.ofInt x) ↔ 0 ≤ x := pi_le (x := 0) (by decide) hx
  by_cases g : 0 ≤ x
  · rw [if_pos (z.mpr g)]
    congr 2
    omega
  · rw [if_neg (fun k => g (z.mp k)), ← Int32.ofInt_neg]
    congr 2
    omega
theorem ly_side (H : ly_Ok K n F bt a b fc fi se cu h c p hC cC plC fC hM cM pm fM) {w : Nat} (hw : w < n) : fX7_sideOf cM (nI w) = some (Int32.ofInt (sq_s c w)) := by
  obtain ⟨b1, _⟩ := ly_b H hw
  obtain ⟨hK, hn, hF, hb, hf, hfc, hfo, hh, hcc, hp⟩ := H
  unfold fX7_sideOf
  rw [pz_gd (pz_in (show w < 22 by omega) (by decide)), nI_clamp (by omega), (hcc w hw).2]
  exact ly_abs (by omega)
theorem ly_left (H : ly_Ok K n F bt a b fc fi se cu h c p hC cC plC fC hM cM pm fM) {w : Nat} (hw : w < n) : fX7_leftOf fM pm (nI w) = some (Int32.ofInt (sq_l fc p w)) := by
  obtain ⟨hK, hn, hF, hb, hf, hfc, hfo, hh, hcc, hp⟩ := H
  obtain ⟨R1, R2, R3⟩ := hfc (2 * w) (by omega)
  obtain ⟨L1, L2, L3⟩ := hfc (2 * w + 1) (by omega)
  have p1 := hfo.2.2.2.1 _ R1
  have p2 := hfo.2.2.2.1 _ L1
  unfold fX7_leftOf sq_l
  rw [show (2 : Int32) * nI w = nI (2 * w) from pk_mul 2 w, nI_1, pz_gd (pz_in (by omega) (by decide)), nI_clamp (show 2 * w < 2 ^ 31 by omega), R3, pz_gd (pz_in (by omega) (by decide)), nI_clamp (show fc (2 * w) < 2 ^ 31 by omega), pz_let, pz_gd (pz_in (by omega) (by decide)), nI_clamp (show 2 * w + 1 < 2 ^ 31 by omega), L3, pz_gd (pz_in (by omega) (by decide)), nI_clamp (show fc (2 * w + 1) < 2 ^ 31 by omega), pz_let, (hp _ R1).2, (hp _ L1).2]
  have z := pi_le (x := p (fc (2 * w + 1))) (y := p (fc (2 * w))) (by omega) (by omega)
  by_cases g : p (fc (2 * w + 1)) ≤ p (fc (2 * w))
  · rw [if_pos (z.mpr g), if_pos g]
  · rw [if_neg (fun k => g (z.mp k)), if_neg g]
theorem ly_low (H : ly_Ok K n F bt a b fc fi se cu h c p hC cC plC fC hM cM pm fM) {w : Nat} (hw : w < n) : fX7_lowOf fi se hM (nI w) = some (Int32.ofInt (sq_y a b h w)) := by
  obtain ⟨hK, hn, hF, hb, hf, hfc, hfo, hh, hcc, hp⟩ := H
  obtain ⟨ha, hb', ea, eb⟩ := hf w hw
  have p1 := hfo.2.2.1 _ ha
  have p2 := hfo.2.2.1 _ hb'
  unfold fX7_lowOf sq_y
  rw [pz_gd (pz_in (show w < 22 by omega) (by decide)), nI_clamp (show w < 2 ^ 31 by omega), ea, eb, pz_gd (pz_in (show a w < 12 by omega) (by decide)), nI_clamp (show a w < 2 ^ 31 by omega), pz_let, pz_gd (pz_in (show b w < 12 by omega) (by decide)), nI_clamp (show b w < 2 ^ 31 by omega), pz_let, (hh _ ha).2, (hh _ hb').2]
  have z := pi_le (x := h (b w)) (y := h (a w)) (by omega) (by omega)
  by_cases g : h (b w) ≤ h (a w)
  · rw [if_pos (z.mpr g), if_pos g]
  · rw [if_neg (fun k => g (z.mp k)), if_neg g]
theorem ly_N (H : ly_Ok K n F bt a b fc fi se cu h c p hC cC plC fC hM cM pm fM) : ds_cnt n (sq_b bt cu c) ≤ 21 := by
  obtain ⟨hK, hn, hF, hb, hf, hfc, hfo, hh, hcc, hp⟩ := H
  have e := ds_cnt_not (sq_b bt cu c) n
  have e2 := ds_cnt_off (fun i => !sq_b bt cu c i) bt (by
    show (!sq_b bt cu c bt) = true
    have : sq_b bt cu c bt = false := by
      unfold sq_b fl_pl
      rw [decide_eq_false (fun q => q.1 rfl), Bool.false_and]
    rw [this]
    rfl) n hb
  omega
/-- the class's rows of squares -/
def bl_Ok (n N bt : Nat) (a b fc : Nat → Nat) (cu : Nat → Int32) (h c p : Nat → Int) (wv : Nat → Nat) (Y QL QY QS : Nat → Int32) : Prop :=
  N ≤ 21 ∧ N = ds_cnt n (sq_b bt cu c) ∧ (∀ s, s < N → wv s < n ∧ sq_b bt cu c (wv s) = true ∧ ds_cnt (wv s) (sq_b bt cu c) = s ∧ Y s = nI (wv s) ∧ QL s = Int32.ofInt (sq_l fc p (wv s)) ∧ QY s = Int32.ofInt (sq_y a b h (wv s)) ∧ QS s = Int32.ofInt (sq_s c (wv s)))
theorem bl_build (H : ly_Ok K n F bt a b fc fi se cu h c p hC cC plC fC hM cM pm fM) (Y0 QL0 QY0 QS0 : Nat → Int32) (z1 z2 : Int32) :
    ∃ N wv Y QL QY QS id, fX2_build Y0 z1 QL0 QY0 QS0 z2 fi se cu (nI n) (nI bt) fC hC cC plC = some (Y, id, QL, QY, QS, nI N) ∧ bl_Ok n N bt a b fc cu h c p wv Y QL QY QS ∧ ((id = 0 ∧ ∀ w, w < n → fl_pl bt cu w = true → c w ≠ 0) ∨ (id = 1 ∧ ∃ w, w < n ∧ fl_pl bt cu w = true ∧ c w = 0)) := by
  obtain ⟨hK, hn, hF, hb, hf, hfc, hfo, hh, hcc, hp⟩ := id H
  let O := sq_b bt cu c
  have hN : ds_cnt n O ≤ 21 := ly_N H
  obtain ⟨r, l1, Y, id, QL, QY, QS, l2, l3, l4⟩ := pz_fin (body := bX2_build_16 fi se cu (nI n) (nI bt) fC hC cC plC) (fun j st => ∃ Y id QL QY QS, st = (nI j, Y, id, QL, QY, QS, nI (ds_cnt j O)) ∧ (∀ w, w < j → O w = true → Y (ds_cnt w O) = nI w ∧ QL (ds_cnt w O) = Int32.ofInt (sq_l fc p w) ∧ QY (ds_cnt w O) = Int32.ofInt (sq_y a b h w) ∧ QS (ds_cnt w O) = Int32.ofInt (sq_s c w)) ∧ ((id = 0 ∧ ∀ w, w < j → fl_pl bt cu w = true → c w ≠ 0) ∨ (id = 1 ∧ ∃ w, w < j ∧ fl_pl bt cu w = true ∧ c w = 0))) (fun r => ∃ Y id QL QY QS, r = (Y, id, QL, QY, QS, nI (ds_cnt n O)) ∧ (∀ w, w < n → O w = true → Y (ds_cnt w O) = nI w ∧ QL (ds_cnt w O) = Int32.ofInt (sq_l fc p w) ∧ QY (ds_cnt w O) = Int32.ofInt (sq_y a b h w) ∧ QS (ds_cnt w O) = Int32.ofInt (sq_s c w)) ∧ ((id = 0 ∧ ∀ w, w < n → fl_pl bt cu w = true → c w ≠ 0) ∨ (id = 1 ∧ ∃ w, w < n ∧ fl_pl bt cu w = true ∧ c w = 0))) n (by
    rintro j st hj ⟨Y, id, QL, QY, QS, rfl, f1, f2⟩
    unfold bX2_build_16
    dsimp only
    rcases Nat.lt_or_ge j n with q | q
    · right
      refine ⟨q, ?_⟩
      obtain ⟨b1, b2, b3, b4⟩ := ly_b H q
      have hcj : ds_cnt j O ≤ 21 := Nat.le_trans (en_le (by omega)) hN
      have skip : ∀ id' : Int32, O j = false → ((id' = 0 ∧ ∀ w, w < j + 1 → fl_pl bt cu w = true → c w ≠ 0) ∨ (id' = 1 ∧ ∃ w, w < j + 1 ∧ fl_pl bt cu w = true ∧ c w = 0)) → ∃ s', jX2_build_156 Y id' QL QY QS (nI (ds_cnt j O)) fi se cu (nI n) (nI bt) fC hC cC plC (nI j) = some (.inr s') ∧ ∃ Y id QL QY QS, s' = (nI (j + 1), Y, id, QL, QY, QS, nI (ds_cnt (j + 1) O)) ∧ (∀ w, w < j + 1 → O w = true → Y (ds_cnt w O) = nI w ∧ QL (ds_cnt w O) = Int32.ofInt (sq_l fc p w) ∧ QY (ds_cnt w O) = Int32.ofInt (sq_y a b h w) ∧ QS (ds_cnt w O) = Int32.ofInt (sq_s c w)) ∧ ((id = 0 ∧ ∀ w, w < j + 1 → fl_pl bt cu w = true → c w ≠ 0) ∨ (id = 1 ∧ ∃ w, w < j + 1 ∧ fl_pl bt cu w = true ∧ c w = 0)) := by
        intro id' hO hid
        unfold jX2_build_156
        rw [pz_let, nI_1]
        refine ⟨_, rfl, Y, id', QL, QY, QS, ?_, fun w hw hOw => ?_, hid⟩
        · rw [ds_cnt, hO]
          rfl
        · by_cases e : w = j
          · rw [e, hO] at hOw
            exact absurd hOw (by decide)
          · exact f1 w (by omega) hOw
      rw [if_neg (nI_ge q (by omega)), ph_pl4 (by omega), pz_bs]
      by_cases g : fl_pl bt cu j = true
      · rw [if_pos ((fl_pln (by omega) (by omega)).mpr g), if_neg (by decide), pz_gd (pz_in (show j < 22 by omega) (by decide)), nI_clamp (show j < 2 ^ 31 by omega), (hcc j q).1]
        have z : (Int32.ofInt (c j) = 0) ↔ c j = 0 := pi_eq (y := 0) (by omega) (by decide)
        by_cases gc : c j = 0
        · rw [if_pos (z.mpr gc)]
          refine skip 1 ?_ (Or.inr ⟨rfl, j, by omega, g, gc⟩)
          show (fl_pl bt cu j && decide (c j ≠ 0)) = false
          rw [decide_eq_false (fun k => k gc), Bool.and_false]
        · rw [if_neg (fun k => gc (z.mp k))]
          have hOj : O j = true := by
            show (fl_pl bt cu j && decide (c j ≠ 0)) = true
            rw [g, decide_eq_true gc]
            rfl
          have hlt : ds_cnt j O < ds_cnt n O := en_lt hOj q
          unfold jX2_build_52
          rw [ph_pl4 (by omega), pz_bs, if_pos ((fl_pln (by omega) (by omega)).mpr g), if_neg (by decide), if_neg (show ¬ (21 : Int32) ≤ nI (ds_cnt j O) from nI_ge (b := 21) (by omega) (by omega)), pz_gd (pz_in (show ds_cnt j O < 21 by omega) (by decide)), pz_let]
          obtain ⟨R1, R2, R3⟩ := hfc (2 * j) (by omega)
          obtain ⟨L1, L2, L3⟩ := hfc (2 * j + 1) (by omega)
          have e2 : (2 : Int32) * nI j = nI (2 * j) := pk_mul 2 j
          have eR : fX0_rightOf fC (nI j) = some (nI (fc (2 * j))) := by
            unfold fX0_rightOf
            rw [e2, pz_gd (pz_in (by omega) (by decide)), nI_clamp (by omega), R2]
          have eL : fX0_leftOf fC (nI j) = some (nI (fc (2 * j + 1))) := by
            unfold fX0_leftOf
            rw [e2, nI_1, pz_gd (pz_in (by omega) (by decide)), nI_clamp (by omega), L2]
          obtain ⟨ha, hb', ea, eb⟩ := hf j q
          rw [eL, pz_bs, pz_gd (pz_in (show fc (2 * j + 1) < 44 by omega) (by decide)), eR, pz_bs, pz_gd (pz_in (show fc (2 * j) < 44 by omega) (by decide)), pz_gd (pz_in (show j < 22 by omega) (by decide)), nI_clamp (show j < 2 ^ 31 by omega), ea, eb, pz_gd (pz_in (show a j < 12 by omega) (by decide)), pz_gd (pz_in (show b j < 12 by omega) (by decide)), nI_clamp (show fc (2 * j + 1) < 2 ^ 31 by omega), nI_clamp (show fc (2 * j) < 2 ^ 31 by omega), nI_clamp (show a j < 2 ^ 31 by omega), nI_clamp (show b j < 2 ^ 31 by omega), (hp _ R1).1, (hp _ L1).1, (hh _ ha).1, (hh _ hb').1, (hcc j q).1]
          have p1 := hfo.2.2.2.1 _ R1
          have p2 := hfo.2.2.2.1 _ L1
          have q1 := hfo.2.2.1 _ ha
          have q2 := hfo.2.2.1 _ hb'
          have v1 : (if Int32.ofInt (p (fc (2 * j))) < Int32.ofInt (p (fc (2 * j + 1))) then Int32.ofInt (p (fc (2 * j))) else Int32.ofInt (p (fc (2 * j + 1)))) = Int32.ofInt (sq_l fc p j) := by
            have z := pi_lt (x := p (fc (2 * j))) (y := p (fc (2 * j + 1))) (by omega) (by omega)
            unfold sq_l
            by_cases k : p (fc (2 * j)) < p (fc (2 * j + 1))
            · rw [if_pos (z.mpr k), if_neg (by omega)]
            · rw [if_neg (fun m => k (z.mp m)), if_pos (by omega)]
          have v2 : (if Int32.ofInt (h (b j)) < Int32.ofInt (h (a j)) then Int32.ofInt (h (b j)) else Int32.ofInt (h (a j))) = Int32.ofInt (sq_y a b h j) := by
            have z := pi_lt (x := h (b j)) (y := h (a j)) (by omega) (by omega)
            unfold sq_y
            by_cases k : h (b j) < h (a j)
            · rw [if_pos (z.mpr k), if_pos (by omega)]
            · rw [if_neg (fun m => k (z.mp m))]
              by_cases k2 : h (b j) ≤ h (a j)
              · rw [if_pos k2]; congr 1; omega
              · rw [if_neg k2]
          have v3 : (if 0 ≤ Int32.ofInt (c j) then Int32.ofInt (c j) else 0 - Int32.ofInt (c j)) = Int32.ofInt (sq_s c j) := by
            have z : (0 ≤ Int32.ofInt (c j)) ↔ 0 ≤ c j := pi_le (x := 0) (by decide) (by omega)
            unfold sq_s
            by_cases k : 0 ≤ c j
            · rw [if_pos (z.mpr k)]; congr 1; omega
            · rw [if_neg (fun m => k (z.mp m)), show (0 : Int32) = Int32.ofInt 0 from rfl, ← Int32.ofInt_sub]; congr 1; omega
          rw [v1, v2, v3]
          unfold fX5_add jX2_build_156
          simp only [pz_let]
          rw [if_neg (show ¬ (21 : Int32) ≤ nI (ds_cnt j O) from nI_ge (b := 21) (by omega) (by omega)), pz_gd (pz_in (show ds_cnt j O < 21 by omega) (by decide)), pz_bs, nI_clamp (show ds_cnt j O < 2 ^ 31 by omega), nI_1, nI_1]
          refine ⟨_, rfl, upd Y (ds_cnt j O) (nI j), id, upd QL (ds_cnt j O) (Int32.ofInt (sq_l fc p j)), upd QY (ds_cnt j O) (Int32.ofInt (sq_y a b h j)), upd QS (ds_cnt j O) (Int32.ofInt (sq_s c j)), ?_, fun w hw hOw => ?_, ?_⟩
          · rw [show ds_cnt (j + 1) O = ds_cnt j O + 1 from by rw [ds_cnt, if_pos hOj]]
          · by_cases e : w = j
            · rw [e, tr_u1, tr_u1, tr_u1, tr_u1]
              exact ⟨rfl, rfl, rfl, rfl⟩
            · have ne : ds_cnt w O ≠ ds_cnt j O := fun k => e (en_inj hOw hOj k)
              rw [tr_u2 _ _ ne, tr_u2 _ _ ne, tr_u2 _ _ ne, tr_u2 _ _ ne]
              exact f1 w (by omega) hOw
          · rcases f2 with ⟨m1, m2⟩ | ⟨m1, w, m2, m3, m4⟩
            · refine Or.inl ⟨m1, fun w hw hpw => ?_⟩
              by_cases e : w = j
              · rw [e]; exact gc
              · exact m2 w (by omega) hpw
            · exact Or.inr ⟨m1, w, by omega, m3, m4⟩
      · rw [if_neg (fun k => g ((fl_pln (by omega) (by omega)).mp k)), if_pos rfl]
        unfold jX2_build_52
        rw [ph_pl4 (by omega), pz_bs, if_neg (fun k => g ((fl_pln (by omega) (by omega)).mp k)), if_pos rfl]
        refine skip id ?_ ?_
        · show (fl_pl bt cu j && decide (c j ≠ 0)) = false
          have : fl_pl bt cu j = false := by simpa using g
          rw [this, Bool.false_and]
        · rcases f2 with ⟨m1, m2⟩ | ⟨m1, w, m2, m3, m4⟩
          · refine Or.inl ⟨m1, fun w hw hpw => ?_⟩
            by_cases e : w = j
            · rw [e] at hpw; exact absurd hpw g
            · exact m2 w (by omega) hpw
          · exact Or.inr ⟨m1, w, by omega, m3, m4⟩
    · left
      have e : j = n := by omega
      subst e
      exact ⟨_, by rw [if_pos (nI_le (Nat.le_refl _) (by omega))], Y, id, QL, QY, QS, rfl, f1, f2⟩) 1000 0 (0, Y0, 0, QL0, QY0, QS0, 0) (by omega) ⟨Y0, 0, QL0, QY0, QS0, rfl, fun w hw => absurd hw (by omega), Or.inl ⟨rfl, fun w hw => absurd hw (by omega)⟩⟩ (by omega)
  obtain ⟨wv, hwv⟩ := en_ex O n
  refine ⟨ds_cnt n O, wv, Y, QL, QY, QS, id, ?_, ⟨hN, rfl, fun s hs => ?_⟩, l4⟩
  · unfold fX2_build
    rw [l1, pz_bs, l2]
  · obtain ⟨w1, w2, w3⟩ := hwv s hs
    obtain ⟨m1, m2, m3, m4⟩ := l3 _ w1 w2
    rw [w3] at m1 m2 m3 m4
    exact ⟨w1, w2, w3, m1, m2, m3, m4⟩
end

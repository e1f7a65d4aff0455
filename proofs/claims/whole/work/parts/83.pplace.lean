/-! ===== PURE 23: places ===== -/
def pp_S (F n bt : Nat) (fc : Nat → Nat) (c : Nat → Int) (m : Nat) (o tw : Nat → Nat) (p : Nat → Int) : Prop :=
  1 ≤ m ∧ (∀ i, i < m → o i < F) ∧ (∀ i j, i < m → j < m → o i = o j → i = j) ∧ o 0 = fc (2 * bt + 1) ∧ p (o 0) = 0 ∧
  (∀ j, 1 ≤ j → j < m → tw j < n ∧ tw j ≠ bt ∧ (∃ i, i < j ∧ ((fc (2 * tw j) = o i ∧ fc (2 * tw j + 1) = o j) ∨ (fc (2 * tw j) = o j ∧ fc (2 * tw j + 1) = o i))) ∧ p (fc (2 * tw j + 1)) - p (fc (2 * tw j)) = c (tw j)) ∧
  (∀ i, i < m → (p (o i)).natAbs ≤ i * 2 ^ 22)
def pp_P (m : Nat) (o : Nat → Nat) (f : Nat) : Prop := ∃ i, i < m ∧ o i = f
def pp_R (F m : Nat) (o : Nat → Nat) (p : Nat → Int) (pl ip pm : Nat → Int32) : Prop := ∀ f, f < F → (pp_P m o f → ip f = 1 ∧ pl f = Int32.ofInt (p f) ∧ pm f = Int32.ofInt (p f)) ∧ (¬ pp_P m o f → ip f = 0 ∧ pm f = -2000000000)
def pp_u {α : Type} (f : Nat → α) (i : Nat) (v : α) : Nat → α := fun j => if j = i then v else f j
theorem pp_u1 {α : Type} (f : Nat → α) (i : Nat) (v : α) : pp_u f i v i = v := if_pos rfl
theorem pp_u2 {α : Type} (f : Nat → α) {i j : Nat} (v : α) (h : j ≠ i) : pp_u f i v j = f j := if_neg h
section
variable {F n bt : Nat} {fc : Nat → Nat} {c : Nat → Int} {m : Nat} {o tw : Nat → Nat} {p : Nat → Int} {pl ip pm : Nat → Int32}
theorem pp_le (h : pp_S F n bt fc c m o tw p) : m ≤ F := pz_pigeon F m o h.2.1 h.2.2.1
theorem pp_Padd {x f : Nat} : pp_P (m + 1) (pp_u o m x) f ↔ (f = x ∨ pp_P m o f) := by
  constructor
  · rintro ⟨i, hi, e⟩
    by_cases g : i = m
    · rw [g, pp_u1] at e
      exact Or.inl e.symm
    · rw [pp_u2 o x g] at e
      exact Or.inr ⟨i, by omega, e⟩
  · rintro (h | ⟨i, hi, e⟩)
    · exact ⟨m, by omega, by rw [pp_u1, h]⟩
    · exact ⟨i, by omega, by rw [pp_u2 o x (by omega)]; exact e⟩
theorem pp_add (h : pp_S F n bt fc c m o tw p) (hc : ∀ w, w < n → (c w).natAbs ≤ 2 ^ 21) {x y w : Nat} {v : Int} (hx : x < F) (hnx : ¬ pp_P m o x) (hy : pp_P m o y) (hw : w < n) (hwb : w ≠ bt) (hv : (fc (2 * w) = y ∧ fc (2 * w + 1) = x ∧ v = p y + c w) ∨ (fc (2 * w) = x ∧ fc (2 * w + 1) = y ∧ v = p y - c w)) :
    pp_S F n bt fc c (m + 1) (pp_u o m x) (pp_u tw m w) (pp_u p x v) := by
  obtain ⟨h1, h2, h3, h4, h5, h6, h7⟩ := id h
  obtain ⟨i0, hi0, ei0⟩ := hy
  have nx : ∀ i, i < m → o i ≠ x := fun i hi e => hnx ⟨i, hi, e⟩
  have px : ∀ i, i < m → pp_u p x v (o i) = p (o i) := fun i hi => pp_u2 p v (nx i hi)
  have pw : ∀ j, 1 ≤ j → j < m → fc (2 * tw j) ≠ x ∧ fc (2 * tw j + 1) ≠ x := fun j j1 j2 => by
    obtain ⟨_, _, ⟨i, i1, d⟩, _⟩ := h6 j j1 j2
    rcases d with ⟨d1, d2⟩ | ⟨d1, d2⟩
    · rw [d1, d2]; exact ⟨nx i (by omega), nx j j2⟩
    · rw [d1, d2]; exact ⟨nx j j2, nx i (by omega)⟩
  have mF := pp_le h
  refine ⟨by omega, fun i hi => ?_, fun i j hi hj e => ?_, ?_, ?_, fun j j1 j2 => ?_, fun i hi => ?_⟩
  · by_cases g : i = m
    · rw [g, pp_u1]; exact hx
    · rw [pp_u2 o x g]; exact h2 i (by omega)
  · by_cases g : i = m
    · by_cases g2 : j = m
      · omega
      · rw [g, pp_u1, pp_u2 o x g2] at e
        exact absurd e.symm (nx j (by omega))
    · by_cases g2 : j = m
      · rw [g2, pp_u1, pp_u2 o x g] at e
        exact absurd e (nx i (by omega))
      · rw [pp_u2 o x g, pp_u2 o x g2] at e
        exact h3 i j (by omega) (by omega) e
  · rw [pp_u2 o x (by omega)]; exact h4
  · rw [pp_u2 o x (by omega), px 0 (by omega)]; exact h5
  · by_cases g : j = m
    · subst g
      rw [pp_u1, pp_u1]
      refine ⟨hw, hwb, ⟨i0, hi0, ?_⟩, ?_⟩
      · rw [pp_u2 o x (by omega), ei0]
        rcases hv with ⟨d1, d2, _⟩ | ⟨d1, d2, _⟩
        · exact Or.inl ⟨d1, d2⟩
        · exact Or.inr ⟨d1, d2⟩
      · have ye : pp_u p x v y = p y := by rw [← ei0]; exact px i0 hi0
        rcases hv with ⟨d1, d2, d3⟩ | ⟨d1, d2, d3⟩
        · rw [d1, d2, pp_u1, ye, d3]; omega
        · rw [d1, d2, pp_u1, ye, d3]; omega
    · obtain ⟨t1, t2, ⟨i, i1, d⟩, t4⟩ := h6 j j1 (by omega)
      rw [pp_u2 tw w g]
      refine ⟨t1, t2, ⟨i, i1, ?_⟩, ?_⟩
      · rw [pp_u2 o x g, pp_u2 o x (by omega)]; exact d
      · obtain ⟨q1, q2⟩ := pw j j1 (by omega)
        rw [pp_u2 p v q1, pp_u2 p v q2]; exact t4
  · by_cases g : i = m
    · subst g
      rw [pp_u1, pp_u1]
      have b1 := h7 i0 hi0
      have b2 := hc w hw
      rw [ei0] at b1
      rcases hv with ⟨_, _, d3⟩ | ⟨_, _, d3⟩
      · rw [d3]; omega
      · rw [d3]; omega
    · rw [pp_u2 o x g, px i (by omega)]
      exact h7 i (by omega)
theorem pp_no {x : Int} (h : x.natAbs ≤ 22 * 2 ^ 22) : Int32.ofInt x ≠ -2000000000 := by
  intro e
  have e2 : (Int32.ofInt x).toInt = (-2000000000 : Int32).toInt := by rw [e]
  rw [Int32.toInt_ofInt_of_le (by omega) (by omega)] at e2
  have : (-2000000000 : Int32).toInt = -2000000000 := by decide
  omega
theorem pp_pno (h : pp_S F n bt fc c m o tw p) (hF : F ≤ 22) (hR : pp_R F m o p pl ip pm) {f : Nat} (hf : f < F) : (pm f = -2000000000 ↔ ¬ pp_P m o f) ∧ (ip f = 0 ↔ ¬ pp_P m o f) := by
  obtain ⟨h1, h2⟩ := hR f hf
  by_cases g : pp_P m o f
  · obtain ⟨a1, a2, a3⟩ := h1 g
    obtain ⟨i, hi, e⟩ := g
    have b := h.2.2.2.2.2.2 i hi
    have mF := pp_le h
    rw [e] at b
    have nn : Int32.ofInt (p f) ≠ -2000000000 := pp_no (Nat.le_trans b (Nat.mul_le_mul_right _ (by omega)))
    refine ⟨⟨fun q => absurd (by rw [← a3]; exact q) nn, fun q => absurd ⟨i, hi, e⟩ q⟩, ⟨fun q => ?_, fun q => absurd ⟨i, hi, e⟩ q⟩⟩
    rw [a1] at q
    exact absurd q (by decide)
  · obtain ⟨a1, a2⟩ := h2 g
    exact ⟨⟨fun _ => g, fun _ => a2⟩, ⟨fun _ => g, fun _ => a1⟩⟩
theorem pp_Radd (hR : pp_R F m o p pl ip pm) {x : Nat} {v : Int} (hnx : ¬ pp_P m o x) : pp_R F (m + 1) (pp_u o m x) (pp_u p x v) (upd pl x (Int32.ofInt v)) (upd ip x 1) (upd pm x (Int32.ofInt v)) := by
  intro f hf
  obtain ⟨h1, h2⟩ := hR f hf
  by_cases g : f = x
  · subst g
    refine ⟨fun _ => ⟨tr_u1 _ _ _, by rw [tr_u1, pp_u1], by rw [tr_u1, pp_u1]⟩, fun q => absurd (pp_Padd.mpr (Or.inl rfl)) q⟩
  · refine ⟨fun q => ?_, fun q => ?_⟩
    · have := (pp_Padd.mp q).resolve_left g
      rw [tr_u2 ip _ g, tr_u2 pl _ g, tr_u2 pm _ g, pp_u2 p v g]
      exact h1 this
    · rw [tr_u2 ip _ g, tr_u2 pm _ g]
      exact h2 (fun z => q (pp_Padd.mpr (Or.inr z)))
def pp_Cl (n bt : Nat) (fc : Nat → Nat) (m : Nat) (o : Nat → Nat) (j : Nat) : Prop := ∀ w, w < j → w ≠ bt → (pp_P m o (fc (2 * w)) ↔ pp_P m o (fc (2 * w + 1)))
variable {cC cM fC fM : Nat → Int32}
theorem pp_pass (hn : n ≤ 22) (hF : F ≤ 22) (hbt : bt < n) (hfc : ∀ d, d < 2 * n → fc d < F ∧ fC d = nI (fc d) ∧ fM d = nI (fc d)) (hcc : ∀ w, w < n → cC w = Int32.ofInt (c w) ∧ cM w = Int32.ofInt (c w)) (hc : ∀ w, w < n → (c w).natAbs ≤ 2 ^ 21) (hS : pp_S F n bt fc c m o tw p) (hR : pp_R F m o p pl ip pm) (z1 z2 : Int32) :
    ∃ r1 r2, dk_loop (bX1_placeFaces_64 cC (nI n) (nI bt) fC z1 z2) 1000 (0, pl, ip) = some r1 ∧ dk_loop (bX7_placed_51 (nI n) (nI bt) fM cM) 1000 (0, 0, pm) = some r2 ∧ ∃ m' o' tw' p', pp_S F n bt fc c m' o' tw' p' ∧ pp_R F m' o' p' r1.1 r1.2 r2.2 ∧ ((r2.1 = 0 ∧ m' = m ∧ pp_Cl n bt fc m' o' n) ∨ (r2.1 = 1 ∧ m < m')) := by
  refine pz_sim (b1 := bX1_placeFaces_64 cC (nI n) (nI bt) fC z1 z2) (b2 := bX7_placed_51 (nI n) (nI bt) fM cM) (fun j s1 s2 => ∃ m' o' tw' p' pl ip pm mo, s1 = (nI j, pl, ip) ∧ s2 = (mo, nI j, pm) ∧ pp_S F n bt fc c m' o' tw' p' ∧ pp_R F m' o' p' pl ip pm ∧ ((mo = 0 ∧ m' = m ∧ pp_Cl n bt fc m' o' j) ∨ (mo = 1 ∧ m < m'))) (fun r1 r2 => ∃ m' o' tw' p', pp_S F n bt fc c m' o' tw' p' ∧ pp_R F m' o' p' r1.1 r1.2 r2.2 ∧ ((r2.1 = 0 ∧ m' = m ∧ pp_Cl n bt fc m' o' n) ∨ (r2.1 = 1 ∧ m < m'))) n ?_ 1000 0 _ _ (by omega) ⟨m, o, tw, p, pl, ip, pm, 0, rfl, rfl, hS, hR, Or.inl ⟨rfl, rfl, fun w hw => absurd hw (by omega)⟩⟩ (by omega)
  rintro j s1 s2 hj ⟨m', o', tw', p', pl, ip, pm, mo, rfl, rfl, hS, hR, hmo⟩
  unfold bX1_placeFaces_64 bX7_placed_51 jX1_placeFaces_105
  dsimp only
  rcases Nat.lt_or_ge j n with q | q
  · right
    refine ⟨q, ?_⟩
    rw [if_neg (nI_ge q (by omega)), if_neg (nI_ge q (by omega))]
    by_cases g : j = bt
    · subst g
      rw [if_pos rfl, if_pos rfl]
      unfold jX7_placed_187
      rw [pz_let, pz_let, nI_1]
      refine ⟨_, _, rfl, rfl, m', o', tw', p', pl, ip, pm, mo, rfl, rfl, hS, hR, ?_⟩
      rcases hmo with ⟨a1, a2, a3⟩ | a
      · exact Or.inl ⟨a1, a2, fun w hw hwb => a3 w (by omega) hwb⟩
      · exact Or.inr a
    · rw [if_neg (pz_nz (by omega) (by omega) g), if_neg (pz_nz (by omega) (by omega) g)]
      have nR := hfc (2 * j) (by omega)
      have nL := hfc (2 * j + 1) (by omega)
      obtain ⟨R1, R2, R3⟩ := nR
      obtain ⟨L1, L2, L3⟩ := nL
      have e2 : (2 : Int32) * nI j = nI (2 * j) := pk_mul 2 j
      have eR : fX0_rightOf fC (nI j) = some (nI (fc (2 * j))) := by
        unfold fX0_rightOf
        rw [e2, pz_gd (pz_in (by omega) (by decide)), nI_clamp (by omega), R2]
      have eL : fX0_leftOf fC (nI j) = some (nI (fc (2 * j + 1))) := by
        unfold fX0_leftOf
        rw [e2, nI_1, pz_gd (pz_in (by omega) (by decide)), nI_clamp (by omega), L2]
      have i22 : dk_in (nI j) 22 = true := pz_in (by omega) (by decide)
      have iR44 : dk_in (nI (fc (2 * j))) 44 = true := pz_in (by omega) (by decide)
      have iL44 : dk_in (nI (fc (2 * j + 1))) 44 = true := pz_in (by omega) (by decide)
      have iR24 : dk_in (nI (fc (2 * j))) 24 = true := pz_in (by omega) (by decide)
      have iL24 : dk_in (nI (fc (2 * j + 1))) 24 = true := pz_in (by omega) (by decide)
      have kR : (nI (fc (2 * j))).toNatClampNeg = fc (2 * j) := nI_clamp (by omega)
      have kL : (nI (fc (2 * j + 1))).toNatClampNeg = fc (2 * j + 1) := nI_clamp (by omega)
      have kj : (nI j).toNatClampNeg = j := nI_clamp (by omega)
      obtain ⟨sR1, sR2⟩ := pp_pno hS hF hR R1
      obtain ⟨sL1, sL2⟩ := pp_pno hS hF hR L1
      have b44 : dk_in (nI (2 * j)) 44 = true := pz_in (by omega) (by decide)
      have b45 : dk_in (nI (2 * j + 1)) 44 = true := pz_in (by omega) (by decide)
      rw [eR, eL, pz_bs, pz_bs, pz_gd i22, kj, (hcc j q).1, e2, nI_1 (2 * j), pz_gd b44, pz_let, pz_gd b45, pz_let, nI_clamp (show 2 * j < 2 ^ 31 by omega), nI_clamp (show 2 * j + 1 < 2 ^ 31 by omega), R3, L3, pz_gd iR24, kR]
      unfold fX1_placeAcross jX1_placeAcross_42 jX7_placed_107 jX7_placed_124 jX7_placed_185 jX7_placed_187
      simp only [pz_gd iR44, pz_gd iL44, pz_gd iL24, pz_gd iR24, kR, kL, pz_gd i22, kj, pz_let, nI_1, (hcc j q).2]
      have nar : vp_nar .boolean 1 = (1 : Int32) := rfl
      have keepC : (pp_P m' o' (fc (2 * j)) ↔ pp_P m' o' (fc (2 * j + 1))) → ((mo = 0 ∧ m' = m ∧ pp_Cl n bt fc m' o' (j + 1)) ∨ (mo = 1 ∧ m < m')) := fun hcl => by
        rcases hmo with ⟨a1, a2, a3⟩ | a
        · refine Or.inl ⟨a1, a2, fun w hw hwb => ?_⟩
          by_cases e : w = j
          · rw [e]; exact hcl
          · exact a3 w (by omega) hwb
        · exact Or.inr a
      have hmm : m ≤ m' := by
        rcases hmo with ⟨_, a2, _⟩ | a
        · omega
        · omega
      by_cases cR : pp_P m' o' (fc (2 * j))
      · by_cases cL : pp_P m' o' (fc (2 * j + 1))
        · rw [if_neg (fun z => (sR2.mp z) cR), if_neg (fun z => (sL2.mp z) cL), if_neg (fun z => (sL2.mp z) cL), if_neg (fun z => (sR2.mp z) cR), pz_bs, if_neg (fun z => (sR1.mp z) cR), if_neg (fun z => (sL1.mp z) cL), if_pos trivial]
          exact ⟨_, _, rfl, rfl, m', o', tw', p', pl, ip, pm, mo, rfl, rfl, hS, hR, keepC ⟨fun _ => cL, fun _ => cR⟩⟩
        · rw [if_neg (fun z => (sR2.mp z) cR), if_pos (sL2.mpr cL), pz_bs, if_neg (fun z => (sR1.mp z) cR), if_pos (sL1.mpr cL), if_neg (by decide), if_pos (sL1.mpr cL), nar, ((hR _ R1).1 cR).2.1, ((hR _ R1).1 cR).2.2, ← Int32.ofInt_add]
          exact ⟨_, _, rfl, rfl, m' + 1, _, _, _, _, _, _, 1, rfl, rfl, pp_add hS hc L1 cL cR q g (Or.inl ⟨rfl, rfl, rfl⟩), pp_Radd hR cL, Or.inr ⟨rfl, by omega⟩⟩
      · by_cases cL : pp_P m' o' (fc (2 * j + 1))
        · rw [if_pos (sR2.mpr cR), if_neg (fun z => (sL2.mp z) cL), if_pos (sR2.mpr cR), pz_bs, if_pos (sR1.mpr cR), if_neg (fun z => (sL1.mp z) cL), if_neg (by decide), if_neg (fun z => (sL1.mp z) cL), nar, ((hR _ L1).1 cL).2.1, ((hR _ L1).1 cL).2.2, ← Int32.ofInt_sub]
          exact ⟨_, _, rfl, rfl, m' + 1, _, _, _, _, _, _, 1, rfl, rfl, pp_add hS hc R1 cR cL q g (Or.inr ⟨rfl, rfl, rfl⟩), pp_Radd hR cR, Or.inr ⟨rfl, by omega⟩⟩
        · rw [if_pos (sR2.mpr cR), if_pos (sL2.mpr cL), pz_bs, if_pos (sR1.mpr cR), if_pos (sL1.mpr cL), if_pos trivial]
          exact ⟨_, _, rfl, rfl, m', o', tw', p', pl, ip, pm, mo, rfl, rfl, hS, hR, keepC ⟨fun z => absurd z cR, fun z => absurd z cL⟩⟩
  · have e : j = n := by omega
    subst e
    left
    rw [if_pos (nI_le (Nat.le_refl _) (by omega)), if_pos (nI_le (Nat.le_refl _) (by omega))]
    exact ⟨_, _, rfl, rfl, m', o', tw', p', hS, hR, hmo⟩
theorem pp_idle (hn : n ≤ 22) (hF : F ≤ 22) (hfc : ∀ d, d < 2 * n → fc d < F ∧ fC d = nI (fc d)) (hbt : bt < n) (hS : pp_S F n bt fc c m o tw p) (hR : pp_R F m o p pl ip pm) (hcl : pp_Cl n bt fc m o n) (z1 z2 : Int32) :
    dk_loop (bX1_placeFaces_64 cC (nI n) (nI bt) fC z1 z2) 1000 (0, pl, ip) = some (pl, ip) := by
  obtain ⟨r, h1, h2⟩ := pz_fin (body := bX1_placeFaces_64 cC (nI n) (nI bt) fC z1 z2) (fun j st => st = (nI j, pl, ip)) (fun r => r = (pl, ip)) n (by
    rintro j st hj rfl
    unfold bX1_placeFaces_64 jX1_placeFaces_105
    dsimp only
    rcases Nat.lt_or_ge j n with q | q
    · right
      refine ⟨q, _, ?_, rfl⟩
      rw [if_neg (nI_ge q (by omega))]
      by_cases g : j = bt
      · subst g
        rw [if_pos rfl, pz_let, nI_1]
      · rw [if_neg (pz_nz (by omega) (by omega) g)]
        obtain ⟨R1, R2⟩ := hfc (2 * j) (by omega)
        obtain ⟨L1, L2⟩ := hfc (2 * j + 1) (by omega)
        have e2 : (2 : Int32) * nI j = nI (2 * j) := pk_mul 2 j
        have eR : fX0_rightOf fC (nI j) = some (nI (fc (2 * j))) := by
          unfold fX0_rightOf
          rw [e2, pz_gd (pz_in (by omega) (by decide)), nI_clamp (by omega), R2]
        have eL : fX0_leftOf fC (nI j) = some (nI (fc (2 * j + 1))) := by
          unfold fX0_leftOf
          rw [e2, nI_1, pz_gd (pz_in (by omega) (by decide)), nI_clamp (by omega), L2]
        have i22 : dk_in (nI j) 22 = true := pz_in (by omega) (by decide)
        have iR44 : dk_in (nI (fc (2 * j))) 44 = true := pz_in (by omega) (by decide)
        have iL44 : dk_in (nI (fc (2 * j + 1))) 44 = true := pz_in (by omega) (by decide)
        have kR : (nI (fc (2 * j))).toNatClampNeg = fc (2 * j) := nI_clamp (by omega)
        have kL : (nI (fc (2 * j + 1))).toNatClampNeg = fc (2 * j + 1) := nI_clamp (by omega)
        obtain ⟨_, sR2⟩ := pp_pno hS hF hR R1
        obtain ⟨_, sL2⟩ := pp_pno hS hF hR L1
        rw [eR, eL, pz_bs, pz_bs, pz_gd i22]
        unfold fX1_placeAcross jX1_placeAcross_42
        simp only [pz_gd iR44, pz_gd iL44, kR, kL]
        have cl := hcl j q g
        by_cases cR : pp_P m o (fc (2 * j))
        · have cL := cl.mp cR
          rw [if_neg (fun z => (sR2.mp z) cR), if_neg (fun z => (sL2.mp z) cL), if_neg (fun z => (sL2.mp z) cL), if_neg (fun z => (sR2.mp z) cR), pz_bs, pz_let, nI_1]
        · have cL : ¬ pp_P m o (fc (2 * j + 1)) := fun z => cR (cl.mpr z)
          rw [if_pos (sR2.mpr cR), if_pos (sL2.mpr cL), pz_bs, pz_let, nI_1]
    · left
      have e : j = n := by omega
      subst e
      exact ⟨_, by rw [if_pos (nI_le (Nat.le_refl _) (by omega))], rfl⟩) 1000 0 (0, pl, ip) (by omega) rfl (by omega)
  rw [h1, h2]
theorem pp_rest (hn : n ≤ 22) (hF : F ≤ 22) (hfc : ∀ d, d < 2 * n → fc d < F ∧ fC d = nI (fc d)) (hbt : bt < n) (hS : pp_S F n bt fc c m o tw p) (hR : pp_R F m o p pl ip pm) (hcl : pp_Cl n bt fc m o n) : ∀ d fuel, d < fuel → d ≤ F → dk_loop (bX1_placeFaces_53 cC (nI n) (nI bt) fC (nI F)) fuel (nI (F - d), pl, ip) = some (pl, ip) := by
  intro d
  induction d with
  | zero =>
    intro fuel h1 _
    obtain ⟨k, rfl⟩ : ∃ k, fuel = k + 1 := ⟨fuel - 1, by omega⟩
    have e : bX1_placeFaces_53 cC (nI n) (nI bt) fC (nI F) (nI (F - 0), pl, ip) = some (.inl (pl, ip)) := by
      unfold bX1_placeFaces_53
      dsimp only
      rw [if_pos (nI_le (by omega) (by omega))]
    rw [dk_loop, e]
  | succ d ih =>
    intro fuel h1 h2
    obtain ⟨k, rfl⟩ : ∃ k, fuel = k + 1 := ⟨fuel - 1, by omega⟩
    have e : bX1_placeFaces_53 cC (nI n) (nI bt) fC (nI F) (nI (F - (d + 1)), pl, ip) = some (.inr (nI (F - d), pl, ip)) := by
      unfold bX1_placeFaces_53
      dsimp only
      rw [if_neg (nI_ge (by omega) (by omega)), pp_idle hn hF hfc hbt hS hR hcl, pz_bs, pz_let, nI_1, show F - (d + 1) + 1 = F - d by omega]
    rw [dk_loop, e]
    exact ih k (by omega) (by omega)
theorem pp_run (hn : n ≤ 22) (hF : F ≤ 22) (hbt : bt < n) (hfc : ∀ d, d < 2 * n → fc d < F ∧ fC d = nI (fc d) ∧ fM d = nI (fc d)) (hcc : ∀ w, w < n → cC w = Int32.ofInt (c w) ∧ cM w = Int32.ofInt (c w)) (hc : ∀ w, w < n → (c w).natAbs ≤ 2 ^ 21) : ∀ d (m : Nat) (o tw : Nat → Nat) (p : Nat → Int) (pl ip pm : Nat → Int32) (f1 f2 : Nat), d < f1 → d + 1 < f2 → d ≤ F → F + 1 ≤ m + d → pp_S F n bt fc c m o tw p → pp_R F m o p pl ip pm →
    ∃ r1 r2, dk_loop (bX1_placeFaces_53 cC (nI n) (nI bt) fC (nI F)) f1 (nI (F - d), pl, ip) = some r1 ∧ dk_loop (bX7_placed_43 (nI n) (nI bt) fM cM) f2 (1, pm) = some r2 ∧ ∃ m o tw p, pp_S F n bt fc c m o tw p ∧ pp_R F m o p r1.1 r1.2 r2 ∧ pp_Cl n bt fc m o n := by
  intro d
  induction d with
  | zero =>
    intro m o tw p pl ip pm f1 f2 _ _ _ h hS _
    have := pp_le hS
    omega
  | succ d ih =>
    intro m o tw p pl ip pm f1 f2 h1 h2 h3 h4 hS hR
    obtain ⟨k1, rfl⟩ : ∃ k, f1 = k + 1 := ⟨f1 - 1, by omega⟩
    obtain ⟨k2, rfl⟩ : ∃ k, f2 = k + 1 := ⟨f2 - 1, by omega⟩
    obtain ⟨r1, r2, p1, p2, m', o', tw', p', hS', hR', hd⟩ := pp_pass hn hF hbt hfc hcc hc hS hR (nI F) (nI (F - (d + 1)))
    have e1 : bX1_placeFaces_53 cC (nI n) (nI bt) fC (nI F) (nI (F - (d + 1)), pl, ip) = some (.inr (nI (F - d), r1.1, r1.2)) := by
      unfold bX1_placeFaces_53
      dsimp only
      rw [if_neg (nI_ge (by omega) (by omega)), p1, pz_bs, pz_let, nI_1, show F - (d + 1) + 1 = F - d by omega]
    have e2 : bX7_placed_43 (nI n) (nI bt) fM cM (1, pm) = some (.inr (r2.1, r2.2)) := by
      unfold bX7_placed_43
      dsimp only
      rw [if_neg (by decide), p2, pz_bs]
    rw [dk_loop, e1, dk_loop, e2]
    rcases hd with ⟨a1, a2, a3⟩ | ⟨a1, a2⟩
    · obtain ⟨k3, rfl⟩ : ∃ k, k2 = k + 1 := ⟨k2 - 1, by omega⟩
      have e3 : bX7_placed_43 (nI n) (nI bt) fM cM (r2.1, r2.2) = some (.inl r2.2) := by
        unfold bX7_placed_43
        dsimp only
        rw [if_pos a1]
      refine ⟨(r1.1, r1.2), r2.2, ?_, ?_, m', o', tw', p', hS', hR', a3⟩
      · exact pp_rest hn hF (fun d hd => ⟨(hfc d hd).1, (hfc d hd).2.1⟩) hbt hS' hR' a3 d k1 (by omega) (by omega)
      · show dk_loop _ (k3 + 1) (r2.1, r2.2) = _
        rw [dk_loop, e3]
    · have := ih m' o' tw' p' r1.1 r1.2 r2.2 k1 k2 (by omega) (by omega) (by omega) (by omega) hS' hR'
      rw [a1]
      exact this
end

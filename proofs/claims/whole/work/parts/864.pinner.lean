/-! ===== PURE 28: inner rectangles, as numbers ===== -/
def ri_ap (fc a b : Nat → Nat) (h c p : Nat → Int) (w : Nat) (X Y R T : Int) : Prop := sq_l fc p w + sq_s c w ≤ X ∨ R ≤ sq_l fc p w ∨ sq_y a b h w + sq_s c w ≤ Y ∨ T ≤ sq_y a b h w
def ri_in (fc a b : Nat → Nat) (h c p : Nat → Int) (w : Nat) (X Y R T : Int) : Prop := X ≤ sq_l fc p w ∧ sq_l fc p w + sq_s c w ≤ R ∧ Y ≤ sq_y a b h w ∧ sq_y a b h w + sq_s c w ≤ T
def ri_b (be : Nat) (cu : Nat → Int32) (fc a b : Nat → Nat) (h c p : Nat → Int) (X Y R T : Int) (w : Nat) : Bool := sq_b be cu c w && decide (X ≤ sq_l fc p w ∧ sq_l fc p w + sq_s c w ≤ R ∧ Y ≤ sq_y a b h w ∧ sq_y a b h w + sq_s c w ≤ T)
def ri_gd (n be : Nat) (cu : Nat → Int32) (fc a b : Nat → Nat) (h c p : Nat → Int) (X Y R T : Int) : Prop := ∀ w, w < n → sq_b be cu c w = true → ri_ap fc a b h c p w X Y R T ∨ ri_in fc a b h c p w X Y R T
def ri_ct (n be : Nat) (cu : Nat → Int32) (fc a b : Nat → Nat) (h c p : Nat → Int) (X Y R T : Int) : Nat := ds_cnt n (ri_b be cu fc a b h c p X Y R T)
def ri_cand (n be : Nat) (cu : Nat → Int32) (fc a b : Nat → Nat) (h c p : Nat → Int) (X Y R T : Int) : Prop := X < R ∧ Y < T ∧ ri_gd n be cu fc a b h c p X Y R T ∧ 2 ≤ ri_ct n be cu fc a b h c p X Y R T ∧ ri_ct n be cu fc a b h c p X Y R T ≠ ds_cnt n (sq_b be cu c)
def ri_le (k X Y R k' X' Y' R' : Int) : Prop := k < k' ∨ (k = k' ∧ (X < X' ∨ (X = X' ∧ (Y < Y' ∨ (Y = Y' ∧ R ≤ R')))))
theorem ri_tr {k X Y R k' X' Y' R' k2 X2 Y2 R2 : Int} (h1 : ri_le k X Y R k' X' Y' R') (h2 : ri_le k' X' Y' R' k2 X2 Y2 R2) : ri_le k X Y R k2 X2 Y2 R2 := by
  unfold ri_le at *
  omega
section
variable {K n F be : Nat} {a b t : Nat → Nat} {u : Nat → Nat → Nat} {fc : Nat → Nat} {cu : Nat → Int32} {po : Int32} {h c p : Nat → Int}
/-- a rectangle of squares has one in its lower left corner, one in its upper right -/
theorem ri_corner (hrd : rd_Ok K n F be a b t u fc cu po) (hfo : fo_Ok K n F be a b fc cu h c p) {X Y R T : Int} (hX : 0 ≤ X) (hY : 0 ≤ Y) (hR : R ≤ p (fc (2 * be))) (hT : T ≤ h (a be)) (hXR : X < R) (hYT : Y < T) (hg : ri_gd n be cu fc a b h c p X Y R T) :
    (∃ w, w < n ∧ sq_b be cu c w = true ∧ sq_l fc p w = X ∧ sq_y a b h w = Y) ∧ (∃ w, w < n ∧ sq_b be cu c w = true ∧ sq_l fc p w + sq_s c w = R ∧ sq_y a b h w + sq_s c w = T) := by
  constructor
  · obtain ⟨w, w1, w2⟩ := tl_ex hrd hfo (x := X) (y := Y) hX (by omega) hY (by omega)
    unfold sq_c at w2
    obtain ⟨v1, v2, v3, v4, v5⟩ := of_decide_eq_true w2
    refine ⟨w, w1, v1, ?_⟩
    rcases hg w w1 v1 with g | g
    · unfold ri_ap at g
      omega
    · unfold ri_in at g
      omega
  · obtain ⟨w, w1, w2⟩ := tl_ex hrd hfo (x := R - 1) (y := T - 1) (by omega) (by omega) (by omega) (by omega)
    unfold sq_c at w2
    obtain ⟨v1, v2, v3, v4, v5⟩ := of_decide_eq_true w2
    refine ⟨w, w1, v1, ?_⟩
    rcases hg w w1 v1 with g | g
    · unfold ri_ap at g
      omega
    · unfold ri_in at g
      omega
/-- a higher one holds more -/
theorem ri_more (hrd : rd_Ok K n F be a b t u fc cu po) (hfo : fo_Ok K n F be a b fc cu h c p) {X Y R T T' : Int} (hX : 0 ≤ X) (hY : 0 ≤ Y) (hR : R ≤ p (fc (2 * be))) (hT' : T' ≤ h (a be)) (hXR : X < R) (hYT : Y < T) (hTT : T < T') (hg' : ri_gd n be cu fc a b h c p X Y R T') : ri_ct n be cu fc a b h c p X Y R T < ri_ct n be cu fc a b h c p X Y R T' := by
  refine ph_cnt_lt n (fun w hw hb => ?_) ?_
  · unfold ri_b at hb ⊢
    rw [Bool.and_eq_true] at hb ⊢
    refine ⟨hb.1, decide_eq_true ?_⟩
    have := of_decide_eq_true hb.2
    omega
  · obtain ⟨w, w1, w2⟩ := tl_ex hrd hfo (x := X) (y := T) hX (by omega) (by omega) (by omega)
    unfold sq_c at w2
    obtain ⟨v1, v2, v3, v4, v5⟩ := of_decide_eq_true w2
    refine ⟨w, w1, ?_, ?_⟩
    · unfold ri_b
      rw [decide_eq_false (by omega), Bool.and_false]
    · unfold ri_b
      rw [v1, Bool.true_and]
      apply decide_eq_true
      rcases hg' w w1 v1 with g | g
      · unfold ri_ap at g
        omega
      · exact g
end
/-! the reference's set -/
section
variable {K n F be : Nat} {a b fc : Nat → Nat} {fi se cu : Nat → Int32} {h c p : Nat → Int} {hC cC plC fC hM cM pm fM : Nat → Int32}
theorem ri_sum {x y : Int} : Int32.ofInt x + Int32.ofInt y = Int32.ofInt (x + y) := (Int32.ofInt_add x y).symm
theorem ri_inside (H : ly_Ok K n F be a b fc fi se cu h c p hC cC plC fC hM cM pm fM) {X Y R T : Int} (bX : X.natAbs < 2 ^ 28) (bY : Y.natAbs < 2 ^ 28) (bR : R.natAbs < 2 ^ 28) (bT : T.natAbs < 2 ^ 28) (hXR : X < R) (hYT : Y < T) :
    ∃ m, fX7_inside (nI n) (nI be) fi se cu fM hM cM pm (Int32.ofInt X) (Int32.ofInt Y) (Int32.ofInt R) (Int32.ofInt T) = some m ∧ ((ri_gd n be cu fc a b h c p X Y R T ∧ ∀ k, bt m k = (decide (k < n) && ri_b be cu fc a b h c p X Y R T k)) ∨ (¬ ri_gd n be cu fc a b h c p X Y R T ∧ m = 0)) := by
  have hn := H.2.1
  have hfo := H.2.2.2.2.2.2.1
  obtain ⟨r, l1, l2⟩ := pz_fin (body := bX7_inside_6 (nI n) (nI be) fi se cu fM hM cM pm (Int32.ofInt X) (Int32.ofInt Y) (Int32.ofInt R) (Int32.ofInt T)) (fun j st => ∃ m, st = (m, nI j) ∧ (∀ w, w < j → sq_b be cu c w = true → ri_ap fc a b h c p w X Y R T ∨ ri_in fc a b h c p w X Y R T) ∧ ∀ k, bt m k = (decide (k < j) && ri_b be cu fc a b h c p X Y R T k)) (fun r => (∃ m, r = .inr m ∧ ri_gd n be cu fc a b h c p X Y R T ∧ ∀ k, bt m k = (decide (k < n) && ri_b be cu fc a b h c p X Y R T k)) ∨ (r = .inl 0 ∧ ¬ ri_gd n be cu fc a b h c p X Y R T)) n (by
    rintro j st hj ⟨m, rfl, hz, hm⟩
    unfold bX7_inside_6 jX7_inside_127
    dsimp only
    rcases Nat.lt_or_ge j n with q | q
    · obtain ⟨_, b2, b3, b4⟩ := ly_b H q
      simp only [ly_isq H q, ly_left H q, ly_low H q, ly_side H q, pz_bs, pz_let, nI_1, ri_sum]
      rw [if_neg (nI_ge q (by omega))]
      have same : (sq_b be cu c j = true → ri_ap fc a b h c p j X Y R T ∧ ¬ ri_in fc a b h c p j X Y R T) → (j < n ∧ ∃ s', (some (.inr (m, nI (j + 1))) : Option (((Int32) ⊕ (Int32)) ⊕ (Int32 × Int32))) = some (.inr s') ∧ ∃ m, s' = (m, nI (j + 1)) ∧ (∀ w, w < j + 1 → sq_b be cu c w = true → ri_ap fc a b h c p w X Y R T ∨ ri_in fc a b h c p w X Y R T) ∧ ∀ k, bt m k = (decide (k < j + 1) && ri_b be cu fc a b h c p X Y R T k)) := fun hs => by
        refine ⟨q, _, rfl, m, rfl, fun w hw hO => ?_, fun k => ?_⟩
        · by_cases e : w = j
          · rw [e] at hO ⊢; exact Or.inl (hs hO).1
          · exact hz w (by omega) hO
        · rw [hm k]
          by_cases e : k = j
          · have nb : ri_b be cu fc a b h c p X Y R T j = false := by
              unfold ri_b
              by_cases g : sq_b be cu c j = true
              · have nn : ¬ (X ≤ sq_l fc p j ∧ sq_l fc p j + sq_s c j ≤ R ∧ Y ≤ sq_y a b h j ∧ sq_y a b h j + sq_s c j ≤ T) := (hs g).2
                rw [decide_eq_false nn, Bool.and_false]
              · have : sq_b be cu c j = false := by simpa using g
                rw [this, Bool.false_and]
            rw [e, nb, Bool.and_false, Bool.and_false]
          · by_cases g : k < j
            · rw [decide_eq_true g, decide_eq_true (show k < j + 1 by omega)]
            · rw [decide_eq_false g, decide_eq_false (show ¬ k < j + 1 by omega)]
      by_cases g : sq_b be cu c j = true
      · have s1 : 1 ≤ sq_s c j := by
          have := (tl_sq hfo q g).2.2.2
          unfold sq_s
          omega
        rw [if_neg (fun z => (ly_sqv j).mp z g)]
        have i1 := pi_le (x := R) (y := sq_l fc p j) (by omega) (by omega)
        have i2 := pi_le (x := T) (y := sq_y a b h j) (by omega) (by omega)
        have i3 := pi_le (x := sq_l fc p j + sq_s c j) (y := X) (by omega) (by omega)
        have i4 := pi_lt (x := Y) (y := sq_y a b h j + sq_s c j) (by omega) (by omega)
        have i5 := pi_lt (x := sq_l fc p j) (y := X) (by omega) (by omega)
        have i6 := pi_lt (x := sq_y a b h j) (y := Y) (by omega) (by omega)
        have i7 := pi_lt (x := R) (y := sq_l fc p j + sq_s c j) (by omega) (by omega)
        have i8 := pi_le (x := sq_y a b h j + sq_s c j) (y := T) (by omega) (by omega)
        have bad : ¬ ri_ap fc a b h c p j X Y R T → ¬ ri_in fc a b h c p j X Y R T → ¬ ri_gd n be cu fc a b h c p X Y R T := fun n1 n2 z => (z j q g).elim n1 n2
        unfold ri_ap ri_in at same bad
        by_cases c1 : R ≤ sq_l fc p j
        · rw [if_pos (i1.mpr c1)]; exact Or.inr (same (fun _ => ⟨by omega, by omega⟩))
        rw [if_neg (fun z => c1 (i1.mp z))]
        by_cases c2 : T ≤ sq_y a b h j
        · rw [if_pos (i2.mpr c2)]; exact Or.inr (same (fun _ => ⟨by omega, by omega⟩))
        rw [if_neg (fun z => c2 (i2.mp z))]
        by_cases c3 : sq_l fc p j + sq_s c j ≤ X
        · rw [if_pos (i3.mpr c3)]; exact Or.inr (same (fun _ => ⟨by omega, by omega⟩))
        rw [if_neg (fun z => c3 (i3.mp z))]
        by_cases c4 : Y < sq_y a b h j + sq_s c j
        · rw [if_pos (i4.mpr c4)]
          by_cases c5 : sq_l fc p j < X
          · rw [if_pos (i5.mpr c5)]; exact Or.inl ⟨_, rfl, Or.inr ⟨rfl, bad (by omega) (by omega)⟩⟩
          rw [if_neg (fun z => c5 (i5.mp z))]
          by_cases c6 : sq_y a b h j < Y
          · rw [if_pos (i6.mpr c6)]; exact Or.inl ⟨_, rfl, Or.inr ⟨rfl, bad (by omega) (by omega)⟩⟩
          rw [if_neg (fun z => c6 (i6.mp z))]
          by_cases c7 : R < sq_l fc p j + sq_s c j
          · rw [if_pos (i7.mpr c7)]; exact Or.inl ⟨_, rfl, Or.inr ⟨rfl, bad (by omega) (by omega)⟩⟩
          rw [if_neg (fun z => c7 (i7.mp z))]
          by_cases c8 : sq_y a b h j + sq_s c j ≤ T
          · rw [if_pos (i8.mpr c8)]
            refine Or.inr ⟨q, _, rfl, m ||| pe j, rfl, fun w hw hO => ?_, fun k => ?_⟩
            · by_cases e : w = j
              · rw [e]
                right
                unfold ri_in
                omega
              · exact hz w (by omega) hO
            · rw [bt_or, hm k, bt_pe3 (by omega)]
              by_cases e : k = j
              · have yb : ri_b be cu fc a b h c p X Y R T j = true := by
                  unfold ri_b
                  rw [g, Bool.true_and]
                  exact decide_eq_true (by omega)
                rw [e, yb, decide_eq_true rfl, decide_eq_true (show j < j + 1 by omega), Bool.or_true]
                rfl
              · rw [decide_eq_false e, Bool.or_false]
                by_cases g3 : k < j
                · rw [decide_eq_true g3, decide_eq_true (show k < j + 1 by omega)]
                · rw [decide_eq_false g3, decide_eq_false (show ¬ k < j + 1 by omega)]
          · rw [if_neg (fun z => c8 (i8.mp z))]; exact Or.inl ⟨_, rfl, Or.inr ⟨rfl, bad (by omega) (by omega)⟩⟩
        · rw [if_neg (fun z => c4 (i4.mp z))]; exact Or.inr (same (fun _ => ⟨by omega, by omega⟩))
      · rw [if_pos ((ly_sqv j).mpr g)]
        exact Or.inr (same (fun z => absurd z g))
    · left
      have e : j = n := by omega
      subst e
      exact ⟨_, by rw [if_pos (nI_le (Nat.le_refl _) (by omega))], Or.inl ⟨m, rfl, hz, hm⟩⟩) 1000 0 (0, 0) (by omega) ⟨0, rfl, fun w hw => absurd hw (by omega), fun k => by rw [bt_0, decide_eq_false (by omega), Bool.false_and]⟩ (by omega)
  unfold fX7_inside
  rw [l1, pz_bs]
  rcases l2 with ⟨m, rfl, g1, g2⟩ | ⟨rfl, g1⟩
  · exact ⟨m, rfl, Or.inl ⟨g1, g2⟩⟩
  · exact ⟨0, rfl, Or.inr ⟨g1, rfl⟩⟩
theorem ri_squares (H : ly_Ok K n F be a b fc fi se cu h c p hC cC plC fC hM cM pm fM) : fX7_squares (nI n) (nI be) cu cM = some (nI (ds_cnt n (sq_b be cu c))) := by
  have hn := H.2.1
  obtain ⟨r, l1, l2⟩ := pz_fin (body := bX7_squares_4 (nI n) (nI be) cu cM) (fun j st => st = (nI (ds_cnt j (sq_b be cu c)), nI j)) (fun r => r = nI (ds_cnt n (sq_b be cu c))) n (by
    rintro j st hj rfl
    unfold bX7_squares_4 jX7_squares_26
    dsimp only
    rcases Nat.lt_or_ge j n with q | q
    · right
      refine ⟨q, _, ?_, rfl⟩
      rw [if_neg (nI_ge q (by omega)), ly_isq H q, pz_bs]
      simp only [pz_let, nI_1]
      by_cases g : sq_b be cu c j = true
      · rw [if_neg (fun z => (ly_sqv j).mp z g), show ds_cnt (j + 1) (sq_b be cu c) = ds_cnt j (sq_b be cu c) + 1 from by rw [ds_cnt, if_pos g]]
      · rw [if_pos ((ly_sqv j).mpr g), show ds_cnt (j + 1) (sq_b be cu c) = ds_cnt j (sq_b be cu c) from by rw [ds_cnt, if_neg g]; rfl, Int32.add_zero]
    · left
      have e : j = n := by omega
      subst e
      exact ⟨_, by rw [if_pos (nI_le (Nat.le_refl _) (by omega))], rfl⟩) 1000 0 (0, 0) (by omega) rfl (by omega)
  unfold fX7_squares
  rw [l1, l2]
  rfl
end

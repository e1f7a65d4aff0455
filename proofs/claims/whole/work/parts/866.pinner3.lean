/-! ===== PURE 28c: the best of them ===== -/
def rb_R {σ : Type} (CD : Int → Int → Int → Int → Prop) (CT : Int → Int → Int → Int → Nat) (E : Int → Int → Int → Int → σ → Prop) (Z : σ → Prop) (S : Int → Int → Int → Int → Prop) (st : σ) : Prop :=
  (Z st ∧ ∀ X Y R T, S X Y R T → ¬ CD X Y R T) ∨ (∃ X Y R T, S X Y R T ∧ CD X Y R T ∧ E X Y R T st ∧ ∀ X' Y' R' T', S X' Y' R' T' → CD X' Y' R' T' → ri_le (CT X Y R T) X Y R (CT X' Y' R' T') X' Y' R')
def rb_1 (S : Int → Int → Int → Int → Prop) (X Y R T : Int) : Int → Int → Int → Int → Prop := fun X' Y' R' T' => S X' Y' R' T' ∨ (X' = X ∧ Y' = Y ∧ R' = R ∧ T' = T)
section
variable {σ : Type} {CD : Int → Int → Int → Int → Prop} {CT : Int → Int → Int → Int → Nat} {E : Int → Int → Int → Int → σ → Prop} {Z : σ → Prop} {S S' : Int → Int → Int → Int → Prop} {st st' : σ} {X Y R T : Int}
theorem rb_ext (h : ∀ X Y R T, S X Y R T ↔ S' X Y R T) (hR : rb_R CD CT E Z S st) : rb_R CD CT E Z S' st := by
  rcases hR with ⟨h1, h2⟩ | ⟨X, Y, R, T, h1, h2, h3, h4⟩
  · exact Or.inl ⟨h1, fun X Y R T hs => h2 X Y R T ((h X Y R T).mpr hs)⟩
  · exact Or.inr ⟨X, Y, R, T, (h X Y R T).mp h1, h2, h3, fun X' Y' R' T' hs => h4 X' Y' R' T' ((h _ _ _ _).mpr hs)⟩
theorem rb_no (hR : rb_R CD CT E Z S st) (hn : ¬ CD X Y R T) : rb_R CD CT E Z (rb_1 S X Y R T) st := by
  rcases hR with ⟨h1, h2⟩ | ⟨X0, Y0, R0, T0, h1, h2, h3, h4⟩
  · refine Or.inl ⟨h1, fun X' Y' R' T' hs => ?_⟩
    rcases hs with hs | ⟨rfl, rfl, rfl, rfl⟩
    · exact h2 _ _ _ _ hs
    · exact hn
  · refine Or.inr ⟨X0, Y0, R0, T0, Or.inl h1, h2, h3, fun X' Y' R' T' hs hc => ?_⟩
    rcases hs with hs | ⟨rfl, rfl, rfl, rfl⟩
    · exact h4 _ _ _ _ hs hc
    · exact absurd hc hn
theorem rb_keep {X0 Y0 R0 T0 : Int} (h1 : S X0 Y0 R0 T0) (h2 : CD X0 Y0 R0 T0) (h3 : E X0 Y0 R0 T0 st) (h4 : ∀ X' Y' R' T', S X' Y' R' T' → CD X' Y' R' T' → ri_le (CT X0 Y0 R0 T0) X0 Y0 R0 (CT X' Y' R' T') X' Y' R') (hl : ri_le (CT X0 Y0 R0 T0) X0 Y0 R0 (CT X Y R T) X Y R) : rb_R CD CT E Z (rb_1 S X Y R T) st := by
  refine Or.inr ⟨X0, Y0, R0, T0, Or.inl h1, h2, h3, fun X' Y' R' T' hs hc => ?_⟩
  rcases hs with hs | ⟨rfl, rfl, rfl, rfl⟩
  · exact h4 _ _ _ _ hs hc
  · exact hl
theorem rb_new (hd : CD X Y R T) (he : E X Y R T st') (ho : ∀ X' Y' R' T', S X' Y' R' T' → CD X' Y' R' T' → ri_le (CT X Y R T) X Y R (CT X' Y' R' T') X' Y' R') : rb_R CD CT E Z (rb_1 S X Y R T) st' := by
  refine Or.inr ⟨X, Y, R, T, Or.inr ⟨rfl, rfl, rfl, rfl⟩, hd, he, fun X' Y' R' T' hs hc => ?_⟩
  rcases hs with hs | ⟨rfl, rfl, rfl, rfl⟩
  · exact ho _ _ _ _ hs hc
  · exact Or.inr ⟨rfl, Or.inr ⟨rfl, Or.inr ⟨rfl, Int.le_refl _⟩⟩⟩
end
section
variable {K n F be N : Nat} {a b fc : Nat → Nat} {fi se cu : Nat → Int32} {h c p : Nat → Int} {hC cC plC fC hM cM pm fM : Nat → Int32} {wv : Nat → Nat} {Y' QL QY QS : Nat → Int32}
/-- what the reference holds of a rectangle -/
def rb_E7 (n be : Nat) (cu : Nat → Int32) (fc a b : Nat → Nat) (h c p : Nat → Int) (X Y R T : Int) (st : Int32 × Int32 × Int32 × Int32) : Prop := (∀ k, bt st.1 k = (decide (k < n) && ri_b be cu fc a b h c p X Y R T k)) ∧ st.2.1 = Int32.ofInt X ∧ st.2.2.1 = Int32.ofInt Y ∧ st.2.2.2 = Int32.ofInt R ∧ X.natAbs < 2 ^ 28 ∧ Y.natAbs < 2 ^ 28 ∧ R.natAbs < 2 ^ 28
def rb_E4 (N be : Nat) (cu : Nat → Int32) (fc a b wv : Nat → Nat) (h c p : Nat → Int) (CT : Int → Int → Int → Int → Nat) (X Y R T : Int) (st : Int32 × Int32 × Int32 × Int32 × Int32) : Prop := (∀ k, bt st.1 k = (decide (k < N) && ri_b be cu fc a b h c p X Y R T (wv k))) ∧ st.2.1 = nI (CT X Y R T) ∧ st.2.2.1 = Int32.ofInt X ∧ st.2.2.2.1 = Int32.ofInt Y ∧ st.2.2.2.2 = Int32.ofInt (R - X) ∧ X.natAbs < 2 ^ 28 ∧ Y.natAbs < 2 ^ 28 ∧ R.natAbs < 2 ^ 28
theorem rb_cong {m : Int32} {O : Nat → Bool} (hm : ∀ k, bt m k = (decide (k < n) && O k)) : ds_cnt n (bt m) = ds_cnt n O := ds_cnt_congr n (fun i hi => by rw [hm i, decide_eq_true hi, Bool.true_and])
theorem rb_ne0 {m : Int32} (h : ds_cnt n (bt m) ≠ 0) : m ≠ 0 := by
  intro e
  subst e
  obtain ⟨i, _, hi⟩ := ds_cnt_1 _ n h
  rw [bt_0] at hi
  exact absurd hi (by decide)
theorem rb_step7 (H : ly_Ok K n F be a b fc fi se cu h c p hC cC plC fC hM cM pm fM) {S : Int → Int → Int → Int → Prop} {wa wb wc wd : Nat} (ha : wa < n) (hb : wb < n) (hc : wc < n) (hd : wd < n) (oc : sq_b be cu c wc = true) (od : sq_b be cu c wd = true) (st : Int32 × Int32 × Int32 × Int32)
    (hst : rb_R (ri_cand n be cu fc a b h c p) (ri_ct n be cu fc a b h c p) (rb_E7 n be cu fc a b h c p) (fun st => st.1 = 0) S st) :
    ∃ st', bX7_inner_72 (nI n) (nI be) fi se cu fM hM cM pm (nI (ds_cnt n (sq_b be cu c))) (nI wa) (nI wb) (nI wc) (st.1, st.2.1, st.2.2.1, st.2.2.2, nI wd) = some (.inr (st'.1, st'.2.1, st'.2.2.1, st'.2.2.2, nI (wd + 1))) ∧ rb_R (ri_cand n be cu fc a b h c p) (ri_ct n be cu fc a b h c p) (rb_E7 n be cu fc a b h c p) (fun st => st.1 = 0) (rb_1 S (sq_l fc p wa) (sq_y a b h wb) (sq_l fc p wc + sq_s c wc) (sq_y a b h wd + sq_s c wd)) st' := by
  have hn := H.2.1
  have hN := ly_N H
  obtain ⟨_, x2, _, _⟩ := ly_b H ha
  obtain ⟨_, _, x3, _⟩ := ly_b H hb
  obtain ⟨_, c2, _, c4⟩ := ly_b H hc
  obtain ⟨_, _, d3, d4⟩ := ly_b H hd
  generalize hX : sq_l fc p wa = X at *
  generalize hY : sq_y a b h wb = Y at *
  generalize hR : sq_l fc p wc + sq_s c wc = R at *
  generalize hT : sq_y a b h wd + sq_s c wd = T at *
  have bX : X.natAbs < 2 ^ 28 := by omega
  have bY : Y.natAbs < 2 ^ 28 := by omega
  have bR : R.natAbs < 2 ^ 28 := by omega
  have bT : T.natAbs < 2 ^ 28 := by omega
  unfold bX7_inner_72 jX7_inner_260 jX7_inner_264 jX7_inner_265 jX7_inner_289
  dsimp only
  simp only [ly_isq H hc, ly_isq H hd, ly_left H ha, ly_low H hb, ly_left H hc, ly_side H hc, ly_low H hd, ly_side H hd, pz_bs, pz_let, nI_1, ri_sum, oc, od, if_true, pz_10, pz_00, if_false, hX, hY, hR, hT]
  rw [if_neg (nI_ge hd (by omega))]
  have i1 := pi_le (x := R) (y := X) (by omega) (by omega)
  have i2 := pi_lt (x := Y) (y := T) (by omega) (by omega)
  have skip : ¬ ri_cand n be cu fc a b h c p X Y R T → ∃ st' : Int32 × Int32 × Int32 × Int32, (some (.inr (st.1, st.2.1, st.2.2.1, st.2.2.2, nI (wd + 1))) : Option ((Int32 × Int32 × Int32 × Int32) ⊕ (Int32 × Int32 × Int32 × Int32 × Int32))) = some (.inr (st'.1, st'.2.1, st'.2.2.1, st'.2.2.2, nI (wd + 1))) ∧ rb_R (ri_cand n be cu fc a b h c p) (ri_ct n be cu fc a b h c p) (rb_E7 n be cu fc a b h c p) (fun st => st.1 = 0) (rb_1 S X Y R T) st' := fun nc => ⟨st, rfl, rb_no hst nc⟩
  by_cases g1 : R ≤ X
  · rw [if_pos (i1.mpr g1)]
    exact skip (fun z => by have := z.1; omega)
  rw [if_neg (fun z => g1 (i1.mp z))]
  by_cases g2 : Y < T
  · rw [if_pos (i2.mpr g2)]
    obtain ⟨m, m1, m2⟩ := ri_inside H bX bY bR bT (by omega) g2
    rw [m1, pz_bs, bc_ones hn, pz_bs]
    rcases m2 with ⟨gd, hm⟩ | ⟨gd, rfl⟩
    · have ect : ds_cnt n (bt m) = ri_ct n be cu fc a b h c p X Y R T := rb_cong hm
      have ctl : ri_ct n be cu fc a b h c p X Y R T ≤ 22 := Nat.le_trans (ds_cnt_le _ n) hn
      rw [ect]
      by_cases g3 : ri_ct n be cu fc a b h c p X Y R T < 2
      · rw [if_pos (show nI _ < (2 : Int32) from (nI_ltI (b := 2) (by omega) (by decide)).mpr g3)]
        exact skip (fun z => by have := z.2.2.2.1; omega)
      rw [if_neg (show ¬ nI _ < (2 : Int32) from fun z => g3 ((nI_ltI (b := 2) (by omega) (by decide)).mp z))]
      by_cases g4 : ri_ct n be cu fc a b h c p X Y R T = ds_cnt n (sq_b be cu c)
      · rw [if_pos (by rw [g4])]
        exact skip (fun z => z.2.2.2.2 g4)
      rw [if_neg (pz_nz (by omega) (by omega) g4), bc_ones hn, pz_bs]
      have cd : ri_cand n be cu fc a b h c p X Y R T := ⟨by omega, g2, gd, by omega, g4⟩
      have take : (∀ X' Y' R' T', S X' Y' R' T' → ri_cand n be cu fc a b h c p X' Y' R' T' → ri_le (ri_ct n be cu fc a b h c p X Y R T) X Y R (ri_ct n be cu fc a b h c p X' Y' R' T') X' Y' R') → ∃ st' : Int32 × Int32 × Int32 × Int32, (some (.inr (m, Int32.ofInt X, Int32.ofInt Y, Int32.ofInt R, nI (wd + 1))) : Option ((Int32 × Int32 × Int32 × Int32) ⊕ (Int32 × Int32 × Int32 × Int32 × Int32))) = some (.inr (st'.1, st'.2.1, st'.2.2.1, st'.2.2.2, nI (wd + 1))) ∧ rb_R (ri_cand n be cu fc a b h c p) (ri_ct n be cu fc a b h c p) (rb_E7 n be cu fc a b h c p) (fun st => st.1 = 0) (rb_1 S X Y R T) st' := fun ho => ⟨(m, Int32.ofInt X, Int32.ofInt Y, Int32.ofInt R), rfl, rb_new cd ⟨hm, rfl, rfl, rfl, bX, bY, bR⟩ ho⟩
      rcases hst with ⟨z0, hno⟩ | ⟨X0, Y0, R0, T0, s1, s2, s3, s4⟩
      · rw [if_pos z0]
        exact take (fun X' Y' R' T' hs hc' => absurd hc' (hno _ _ _ _ hs))
      · obtain ⟨e1, e2, e3, e4, e5, e6, e7⟩ := s3
        have ect0 : ds_cnt n (bt st.1) = ri_ct n be cu fc a b h c p X0 Y0 R0 T0 := rb_cong e1
        have ctl0 : ri_ct n be cu fc a b h c p X0 Y0 R0 T0 ≤ 22 := Nat.le_trans (ds_cnt_le _ n) hn
        have n0 : st.1 ≠ 0 := rb_ne0 (n := n) (by rw [ect0]; have := s2.2.2.2.1; omega)
        have keep : ri_le (ri_ct n be cu fc a b h c p X0 Y0 R0 T0) X0 Y0 R0 (ri_ct n be cu fc a b h c p X Y R T) X Y R → ∃ st' : Int32 × Int32 × Int32 × Int32, (some (.inr (st.1, st.2.1, st.2.2.1, st.2.2.2, nI (wd + 1))) : Option ((Int32 × Int32 × Int32 × Int32) ⊕ (Int32 × Int32 × Int32 × Int32 × Int32))) = some (.inr (st'.1, st'.2.1, st'.2.2.1, st'.2.2.2, nI (wd + 1))) ∧ rb_R (ri_cand n be cu fc a b h c p) (ri_ct n be cu fc a b h c p) (rb_E7 n be cu fc a b h c p) (fun st => st.1 = 0) (rb_1 S X Y R T) st' := fun hl => ⟨st, rfl, rb_keep s1 s2 ⟨e1, e2, e3, e4, e5, e6, e7⟩ s4 hl⟩
        have take2 : ri_le (ri_ct n be cu fc a b h c p X Y R T) X Y R (ri_ct n be cu fc a b h c p X0 Y0 R0 T0) X0 Y0 R0 → _ := fun hl => take (fun X' Y' R' T' hs hc' => ri_tr hl (s4 X' Y' R' T' hs hc'))
        rw [if_neg n0, ect0]
        have j1 := nI_ltI (a := ri_ct n be cu fc a b h c p X Y R T) (b := ri_ct n be cu fc a b h c p X0 Y0 R0 T0) (by omega) (by omega)
        have j2 := nI_eq (a := ri_ct n be cu fc a b h c p X Y R T) (b := ri_ct n be cu fc a b h c p X0 Y0 R0 T0) (by omega) (by omega)
        rw [e2, e3, e4]
        rw [e2, e3, e4] at keep
        have k1 := pi_lt (x := X) (y := X0) (by omega) (by omega)
        have k2 := pi_eq (x := X) (y := X0) (by omega) (by omega)
        have k3 := pi_lt (x := Y) (y := Y0) (by omega) (by omega)
        have k4 := pi_eq (x := Y) (y := Y0) (by omega) (by omega)
        have k5 := pi_le (x := R0) (y := R) (by omega) (by omega)
        unfold ri_le at keep take2
        by_cases q1 : ri_ct n be cu fc a b h c p X Y R T < ri_ct n be cu fc a b h c p X0 Y0 R0 T0
        · rw [if_pos (j1.mpr q1)]; exact take2 (by omega)
        rw [if_neg (fun z => q1 (j1.mp z))]
        by_cases q2 : ri_ct n be cu fc a b h c p X Y R T = ri_ct n be cu fc a b h c p X0 Y0 R0 T0
        · rw [if_pos (j2.mpr q2)]
          by_cases q3 : X < X0
          · rw [if_pos (k1.mpr q3)]; exact take2 (by omega)
          rw [if_neg (fun z => q3 (k1.mp z))]
          by_cases q4 : X = X0
          · rw [if_pos (k2.mpr q4)]
            by_cases q5 : Y < Y0
            · rw [if_pos (k3.mpr q5)]; exact take2 (by omega)
            rw [if_neg (fun z => q5 (k3.mp z))]
            by_cases q6 : Y = Y0
            · rw [if_pos (k4.mpr q6)]
              by_cases q7 : R0 ≤ R
              · rw [if_pos (k5.mpr q7)]; exact keep (by omega)
              · rw [if_neg (fun z => q7 (k5.mp z))]; exact take2 (by omega)
            · rw [if_neg (fun z => q6 (k4.mp z))]; exact keep (by omega)
          · rw [if_neg (fun z => q4 (k2.mp z))]; exact keep (by omega)
        · rw [if_neg (fun z => q2 (j2.mp z))]; exact keep (by omega)
    · have z : ds_cnt n (bt 0) = 0 := by
        refine Eq.trans (ds_cnt_congr n (P := fun _ => false) (fun i _ => bt_0 i)) ?_
        have : ∀ k, ds_cnt k (fun _ => false) = 0 := by
          intro k
          induction k with
          | zero => rfl
          | succ k ih => rw [ds_cnt, ih]; rfl
        exact this n
      rw [z, if_pos (show nI 0 < (2 : Int32) by decide)]
      exact skip (fun zz => gd zz.2.2.1)
  · rw [if_neg (fun z => g2 (i2.mp z))]
    exact skip (fun z => g2 z.2.1)
end

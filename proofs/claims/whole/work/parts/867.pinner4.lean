/-! ===== PURE 28d: both searches ===== -/
theorem rb_lp {σ τ ρ : Type} (RB : (Int → Int → Int → Int → Prop) → σ → Prop) (emb : σ → Int32 → τ) (out : σ → ρ) (body : τ → Option (ρ ⊕ τ)) (n : Nat) (hn : n < 900) (Sj : Nat → Int → Int → Int → Int → Prop)
    (hstep : ∀ j, j < n → ∀ st, RB (Sj j) st → ∃ st', body (emb st (nI j)) = some (.inr (emb st' (nI (j + 1)))) ∧ RB (Sj (j + 1)) st') (hend : ∀ st, body (emb st (nI n)) = some (.inl (out st))) : ∀ st, RB (Sj 0) st → ∃ st', dk_loop body 1000 (emb st (nI 0)) = some (out st') ∧ RB (Sj n) st' := by
  intro st h0
  obtain ⟨r, l1, st', l2, l3⟩ := pz_fin (body := body) (fun j s => ∃ st, s = emb st (nI j) ∧ RB (Sj j) st) (fun r => ∃ st', r = out st' ∧ RB (Sj n) st') n (by
    rintro j s hj ⟨st, rfl, hR⟩
    rcases Nat.lt_or_ge j n with q | q
    · right
      obtain ⟨st', e1, e2⟩ := hstep j q st hR
      exact ⟨q, _, e1, st', rfl, e2⟩
    · left
      have e : j = n := by omega
      subst e
      exact ⟨_, hend st, st, rfl, hR⟩) 1000 0 _ (by omega) ⟨st, rfl, h0⟩ (by omega)
  exact ⟨st', by rw [l1, l2], l3⟩
section
variable {K n F be N : Nat} {a b fc : Nat → Nat} {fi se cu : Nat → Int32} {h c p : Nat → Int} {hC cC plC fC hM cM pm fM : Nat → Int32} {wv : Nat → Nat} {Y' QL QY QS : Nat → Int32}
def rb_P (fc a b : Nat → Nat) (h c p : Nat → Int) (wa wb wc wd : Nat) (X Y R T : Int) : Prop := X = sq_l fc p wa ∧ Y = sq_y a b h wb ∧ R = sq_l fc p wc + sq_s c wc ∧ T = sq_y a b h wd + sq_s c wd
def rb_7 (n be : Nat) (cu : Nat → Int32) (fc a b : Nat → Nat) (h c p : Nat → Int) (S : Int → Int → Int → Int → Prop) (st : Int32 × Int32 × Int32 × Int32) : Prop := rb_R (ri_cand n be cu fc a b h c p) (ri_ct n be cu fc a b h c p) (rb_E7 n be cu fc a b h c p) (fun st => st.1 = 0) S st
def rb_4 (n N be : Nat) (cu : Nat → Int32) (fc a b wv : Nat → Nat) (h c p : Nat → Int) (S : Int → Int → Int → Int → Prop) (st : Int32 × Int32 × Int32 × Int32 × Int32) : Prop := rb_R (ri_cand n be cu fc a b h c p) (ri_ct n be cu fc a b h c p) (rb_E4 N be cu fc a b wv h c p (ri_ct n be cu fc a b h c p)) (fun st => st.1 = 0 ∧ st.2.1 = 0) S st
theorem rb_d (H : ly_Ok K n F be a b fc fi se cu h c p hC cC plC fC hM cM pm fM) {S : Int → Int → Int → Int → Prop} {wa wb wc : Nat} (ha : wa < n) (hb : wb < n) (hc : wc < n) (st : Int32 × Int32 × Int32 × Int32) (hst : rb_7 n be cu fc a b h c p S st) : ∃ st', dk_loop (bX7_inner_72 (nI n) (nI be) fi se cu fM hM cM pm (nI (ds_cnt n (sq_b be cu c))) (nI wa) (nI wb) (nI wc)) 1000 (st.1, st.2.1, st.2.2.1, st.2.2.2, 0) = some st' ∧ rb_7 n be cu fc a b h c p (fun X Y R T => S X Y R T ∨ (sq_b be cu c wc = true ∧ ∃ wd, wd < n ∧ sq_b be cu c wd = true ∧ rb_P fc a b h c p wa wb wc wd X Y R T)) st' := by
  have hn := H.2.1
  by_cases oc : sq_b be cu c wc = true
  · obtain ⟨st', e1, e2⟩ := rb_lp (rb_7 n be cu fc a b h c p) (fun st j => (st.1, st.2.1, st.2.2.1, st.2.2.2, j)) (fun st => st) (bX7_inner_72 (nI n) (nI be) fi se cu fM hM cM pm (nI (ds_cnt n (sq_b be cu c))) (nI wa) (nI wb) (nI wc)) n (by omega) (fun j X Y R T => S X Y R T ∨ ∃ wd, wd < j ∧ sq_b be cu c wd = true ∧ rb_P fc a b h c p wa wb wc wd X Y R T) (fun j hj st hR => by
      by_cases od : sq_b be cu c j = true
      · obtain ⟨st', e1, e2⟩ := rb_step7 H ha hb hc hj oc od st hR
        refine ⟨st', e1, rb_ext (fun X Y R T => ?_) e2⟩
        unfold rb_1 rb_P
        constructor
        · rintro ((z | ⟨wd, w1, w2, w3⟩) | ⟨z1, z2, z3, z4⟩)
          · exact Or.inl z
          · exact Or.inr ⟨wd, by omega, w2, w3⟩
          · exact Or.inr ⟨j, by omega, od, z1, z2, z3, z4⟩
        · rintro (z | ⟨wd, w1, w2, w3⟩)
          · exact Or.inl (Or.inl z)
          · by_cases e : wd = j
            · subst e; exact Or.inr w3
            · exact Or.inl (Or.inr ⟨wd, by omega, w2, w3⟩)
      · refine ⟨st, ?_, rb_ext (fun X Y R T => ?_) hR⟩
        · unfold bX7_inner_72 jX7_inner_289
          dsimp only
          rw [if_neg (nI_ge hj (by omega)), ly_isq H hc, pz_bs, if_neg (fun z => (ly_sqv wc).mp z oc), ly_isq H hj, pz_bs, if_pos ((ly_sqv j).mpr od), pz_let, nI_1]
        · constructor
          · rintro (z | ⟨wd, w1, w2, w3⟩)
            · exact Or.inl z
            · exact Or.inr ⟨wd, by omega, w2, w3⟩
          · rintro (z | ⟨wd, w1, w2, w3⟩)
            · exact Or.inl z
            · refine Or.inr ⟨wd, ?_, w2, w3⟩
              by_cases e : wd = j
              · rw [e] at w2; exact absurd w2 od
              · omega) (fun st => by
      unfold bX7_inner_72
      dsimp only
      rw [if_pos (nI_le (Nat.le_refl _) (by omega))]) st (rb_ext (fun X Y R T => ⟨fun z => Or.inl z, fun z => z.elim id (fun ⟨_, w1, _⟩ => absurd w1 (by omega))⟩) hst)
    exact ⟨st', e1, rb_ext (fun X Y R T => ⟨fun z => z.elim Or.inl (fun w => Or.inr ⟨oc, w⟩), fun z => z.elim Or.inl (fun w => Or.inr w.2)⟩) e2⟩
  · refine ⟨st, ?_, rb_ext (fun X Y R T => ⟨fun z => Or.inl z, fun z => z.elim id (fun w => absurd w.1 oc)⟩) hst⟩
    have e : bX7_inner_72 (nI n) (nI be) fi se cu fM hM cM pm (nI (ds_cnt n (sq_b be cu c))) (nI wa) (nI wb) (nI wc) (st.1, st.2.1, st.2.2.1, st.2.2.2, 0) = some (.inl st) := by
      unfold bX7_inner_72
      dsimp only
      rw [ly_isq H hc, pz_bs, if_pos ((ly_sqv wc).mpr oc), ite_self]
    rw [show (1000 : Nat) = 999 + 1 from rfl, dk_loop, e]
theorem rb_c (H : ly_Ok K n F be a b fc fi se cu h c p hC cC plC fC hM cM pm fM) {S : Int → Int → Int → Int → Prop} {wa wb : Nat} (ha : wa < n) (hb : wb < n) (st : Int32 × Int32 × Int32 × Int32) (hst : rb_7 n be cu fc a b h c p S st) : ∃ st', dk_loop (bX7_inner_51 (nI n) (nI be) fi se cu fM hM cM pm (nI (ds_cnt n (sq_b be cu c))) (nI wa) (nI wb)) 1000 (st.1, st.2.1, st.2.2.1, st.2.2.2, 0) = some st' ∧ rb_7 n be cu fc a b h c p (fun X Y R T => S X Y R T ∨ (sq_b be cu c wb = true ∧ ∃ wc, wc < n ∧ sq_b be cu c wc = true ∧ ∃ wd, wd < n ∧ sq_b be cu c wd = true ∧ rb_P fc a b h c p wa wb wc wd X Y R T)) st' := by
  have hn := H.2.1
  by_cases ob : sq_b be cu c wb = true
  · obtain ⟨st', e1, e2⟩ := rb_lp (rb_7 n be cu fc a b h c p) (fun st j => (st.1, st.2.1, st.2.2.1, st.2.2.2, j)) (fun st => st) (bX7_inner_51 (nI n) (nI be) fi se cu fM hM cM pm (nI (ds_cnt n (sq_b be cu c))) (nI wa) (nI wb)) n (by omega) (fun j X Y R T => S X Y R T ∨ ∃ wc, wc < j ∧ sq_b be cu c wc = true ∧ ∃ wd, wd < n ∧ sq_b be cu c wd = true ∧ rb_P fc a b h c p wa wb wc wd X Y R T) (fun j hj st hR => by
      obtain ⟨st', e1, e2⟩ := rb_d H ha hb hj st hR
      refine ⟨st', ?_, rb_ext (fun X Y R T => ?_) e2⟩
      · unfold bX7_inner_51 jX7_inner_295
        dsimp only
        simp only [ly_isq H hb, pz_bs, ob, if_true, pz_10, if_false, pz_let, nI_1, e1]
        rw [if_neg (nI_ge hj (by omega))]
      · constructor
        · rintro ((z | ⟨wc, w1, w2, w3⟩) | ⟨z1, z2⟩)
          · exact Or.inl z
          · exact Or.inr ⟨wc, by omega, w2, w3⟩
          · exact Or.inr ⟨j, by omega, z1, z2⟩
        · rintro (z | ⟨wc, w1, w2, w3⟩)
          · exact Or.inl (Or.inl z)
          · by_cases e : wc = j
            · subst e; exact Or.inr ⟨w2, w3⟩
            · exact Or.inl (Or.inr ⟨wc, by omega, w2, w3⟩)) (fun st => by
      unfold bX7_inner_51
      dsimp only
      rw [if_pos (nI_le (Nat.le_refl _) (by omega))]) st (rb_ext (fun X Y R T => ⟨fun z => Or.inl z, fun z => z.elim id (fun ⟨_, w1, _⟩ => absurd w1 (by omega))⟩) hst)
    exact ⟨st', e1, rb_ext (fun X Y R T => ⟨fun z => z.elim Or.inl (fun w => Or.inr ⟨ob, w⟩), fun z => z.elim Or.inl (fun w => Or.inr w.2)⟩) e2⟩
  · refine ⟨st, ?_, rb_ext (fun X Y R T => ⟨fun z => Or.inl z, fun z => z.elim id (fun w => absurd w.1 ob)⟩) hst⟩
    have e : bX7_inner_51 (nI n) (nI be) fi se cu fM hM cM pm (nI (ds_cnt n (sq_b be cu c))) (nI wa) (nI wb) (st.1, st.2.1, st.2.2.1, st.2.2.2, 0) = some (.inl st) := by
      unfold bX7_inner_51
      dsimp only
      rw [ly_isq H hb, pz_bs, if_pos ((ly_sqv wb).mpr ob), ite_self]
    rw [show (1000 : Nat) = 999 + 1 from rfl, dk_loop, e]
theorem rb_b (H : ly_Ok K n F be a b fc fi se cu h c p hC cC plC fC hM cM pm fM) {S : Int → Int → Int → Int → Prop} {wa : Nat} (ha : wa < n) (st : Int32 × Int32 × Int32 × Int32) (hst : rb_7 n be cu fc a b h c p S st) : ∃ st', dk_loop (bX7_inner_30 (nI n) (nI be) fi se cu fM hM cM pm (nI (ds_cnt n (sq_b be cu c))) (nI wa)) 1000 (st.1, st.2.1, st.2.2.1, st.2.2.2, 0) = some st' ∧ rb_7 n be cu fc a b h c p (fun X Y R T => S X Y R T ∨ (sq_b be cu c wa = true ∧ ∃ wb, wb < n ∧ sq_b be cu c wb = true ∧ ∃ wc, wc < n ∧ sq_b be cu c wc = true ∧ ∃ wd, wd < n ∧ sq_b be cu c wd = true ∧ rb_P fc a b h c p wa wb wc wd X Y R T)) st' := by
  have hn := H.2.1
  by_cases oa : sq_b be cu c wa = true
  · obtain ⟨st', e1, e2⟩ := rb_lp (rb_7 n be cu fc a b h c p) (fun st j => (st.1, st.2.1, st.2.2.1, st.2.2.2, j)) (fun st => st) (bX7_inner_30 (nI n) (nI be) fi se cu fM hM cM pm (nI (ds_cnt n (sq_b be cu c))) (nI wa)) n (by omega) (fun j X Y R T => S X Y R T ∨ ∃ wb, wb < j ∧ sq_b be cu c wb = true ∧ ∃ wc, wc < n ∧ sq_b be cu c wc = true ∧ ∃ wd, wd < n ∧ sq_b be cu c wd = true ∧ rb_P fc a b h c p wa wb wc wd X Y R T) (fun j hj st hR => by
      obtain ⟨st', e1, e2⟩ := rb_c H ha hj st hR
      refine ⟨st', ?_, rb_ext (fun X Y R T => ?_) e2⟩
      · unfold bX7_inner_30 jX7_inner_301
        dsimp only
        simp only [ly_isq H ha, pz_bs, oa, if_true, pz_10, if_false, pz_let, nI_1, e1]
        rw [if_neg (nI_ge hj (by omega))]
      · constructor
        · rintro ((z | ⟨wb, w1, w2, w3⟩) | ⟨z1, z2⟩)
          · exact Or.inl z
          · exact Or.inr ⟨wb, by omega, w2, w3⟩
          · exact Or.inr ⟨j, by omega, z1, z2⟩
        · rintro (z | ⟨wb, w1, w2, w3⟩)
          · exact Or.inl (Or.inl z)
          · by_cases e : wb = j
            · subst e; exact Or.inr ⟨w2, w3⟩
            · exact Or.inl (Or.inr ⟨wb, by omega, w2, w3⟩)) (fun st => by
      unfold bX7_inner_30
      dsimp only
      rw [if_pos (nI_le (Nat.le_refl _) (by omega))]) st (rb_ext (fun X Y R T => ⟨fun z => Or.inl z, fun z => z.elim id (fun ⟨_, w1, _⟩ => absurd w1 (by omega))⟩) hst)
    exact ⟨st', e1, rb_ext (fun X Y R T => ⟨fun z => z.elim Or.inl (fun w => Or.inr ⟨oa, w⟩), fun z => z.elim Or.inl (fun w => Or.inr w.2)⟩) e2⟩
  · refine ⟨st, ?_, rb_ext (fun X Y R T => ⟨fun z => Or.inl z, fun z => z.elim id (fun w => absurd w.1 oa)⟩) hst⟩
    have e : bX7_inner_30 (nI n) (nI be) fi se cu fM hM cM pm (nI (ds_cnt n (sq_b be cu c))) (nI wa) (st.1, st.2.1, st.2.2.1, st.2.2.2, 0) = some (.inl st) := by
      unfold bX7_inner_30
      dsimp only
      rw [ly_isq H ha, pz_bs, if_pos ((ly_sqv wa).mpr oa), ite_self]
    rw [show (1000 : Nat) = 999 + 1 from rfl, dk_loop, e]
theorem rb_all7 (H : ly_Ok K n F be a b fc fi se cu h c p hC cC plC fC hM cM pm fM) : ∃ st, fX7_inner (nI n) (nI be) fi se cu fM hM cM pm = some st.1 ∧ rb_7 n be cu fc a b h c p (fun X Y R T => ∃ wa, wa < n ∧ sq_b be cu c wa = true ∧ ∃ wb, wb < n ∧ sq_b be cu c wb = true ∧ ∃ wc, wc < n ∧ sq_b be cu c wc = true ∧ ∃ wd, wd < n ∧ sq_b be cu c wd = true ∧ rb_P fc a b h c p wa wb wc wd X Y R T) st := by
  have hn := H.2.1
  obtain ⟨st', e1, e2⟩ := rb_lp (rb_7 n be cu fc a b h c p) (fun st j => (st.1, st.2.1, st.2.2.1, st.2.2.2, j)) (fun st => st.1) (bX7_inner_18 (nI n) (nI be) fi se cu fM hM cM pm (nI (ds_cnt n (sq_b be cu c)))) n (by omega) (fun j X Y R T => ∃ wa, wa < j ∧ sq_b be cu c wa = true ∧ ∃ wb, wb < n ∧ sq_b be cu c wb = true ∧ ∃ wc, wc < n ∧ sq_b be cu c wc = true ∧ ∃ wd, wd < n ∧ sq_b be cu c wd = true ∧ rb_P fc a b h c p wa wb wc wd X Y R T) (fun j hj st hR => by
    obtain ⟨st', e1, e2⟩ := rb_b H hj st hR
    refine ⟨st', ?_, rb_ext (fun X Y R T => ?_) e2⟩
    · unfold bX7_inner_18 jX7_inner_307
      dsimp only
      rw [if_neg (nI_ge hj (by omega)), e1, pz_bs, pz_let, nI_1]
    · constructor
      · rintro (⟨wa, w1, w2, w3⟩ | ⟨z1, z2⟩)
        · exact ⟨wa, by omega, w2, w3⟩
        · exact ⟨j, by omega, z1, z2⟩
      · rintro ⟨wa, w1, w2, w3⟩
        by_cases e : wa = j
        · subst e; exact Or.inr ⟨w2, w3⟩
        · exact Or.inl ⟨wa, by omega, w2, w3⟩) (fun st => by
    unfold bX7_inner_18
    dsimp only
    rw [if_pos (nI_le (Nat.le_refl _) (by omega))]) (0, 0, 0, 0) (Or.inl ⟨rfl, fun X Y R T ⟨_, w1, _⟩ => absurd w1 (by omega)⟩)
  refine ⟨st', ?_, e2⟩
  unfold fX7_inner
  rw [ri_squares H, pz_bs]
  have e1' : dk_loop (bX7_inner_18 (nI n) (nI be) fi se cu fM hM cM pm (nI (ds_cnt n (sq_b be cu c)))) 1000 (0, 0, 0, 0, 0) = some st'.1 := e1
  rw [e1', pz_bs]
end

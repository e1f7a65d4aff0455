/-! ===== PURE 31d: read, the reference orders the lines and finds them ===== -/
def sw (a b k : Nat) : Nat := if k = b then a else if k = a then b else k
theorem sw_u (f : Nat → Int32) (a b : Nat) : upd (upd f a (f b)) b (f a) = fun k => f (sw a b k) := by
  funext k
  unfold sw
  by_cases g : k = b
  · rw [g, tr_u1, if_pos rfl]
  · rw [tr_u2 _ _ g, if_neg g]
    by_cases g2 : k = a
    · rw [g2, tr_u1, if_pos rfl]
    · rw [tr_u2 _ _ g2, if_neg g2]
theorem sw_lt {a b k m : Nat} (hab : a < b) (hb : b < m) (hk : k < m) : sw a b k < m := by
  unfold sw
  repeat' split
  all_goals omega
theorem sw_sw (a b k : Nat) : sw a b (sw a b k) = k := by
  by_cases g : k = b
  · have e : sw a b k = a := by unfold sw; rw [if_pos g]
    rw [e, g]
    unfold sw
    by_cases h : a = b
    · rw [if_pos h, h]
    · rw [if_neg h, if_pos rfl]
  · by_cases g2 : k = a
    · have e : sw a b k = b := by unfold sw; rw [if_neg g, if_pos g2]
      rw [e, g2]
      unfold sw
      rw [if_pos rfl]
    · have e : sw a b k = k := by unfold sw; rw [if_neg g, if_neg g2]
      rw [e, e]
theorem sw_cov {E : Nat} {lv lf rt : Nat → Int} {m : Nat} {H L R : Nat → Int} {a b : Nat} (hab : a < b) (hb : b < m) (hc : ln_Cov E lv lf rt m H L R) : ln_Cov E lv lf rt m (fun k => H (sw a b k)) (fun k => L (sw a b k)) (fun k => R (sw a b k)) := fun k hk => hc (sw a b k) (sw_lt hab hb hk)
theorem sw_all {E : Nat} {lv lf rt : Nat → Int} {m : Nat} {H L R : Nat → Int} {a b : Nat} (hab : a < b) (hb : b < m) (ha : ln_All E lv lf rt m H L R) : ln_All E lv lf rt m (fun k => H (sw a b k)) (fun k => L (sw a b k)) (fun k => R (sw a b k)) := by
  intro e he
  obtain ⟨k, k1, k2⟩ := ha e he
  refine ⟨sw a b k, sw_lt hab hb k1, ?_⟩
  dsimp only
  rw [sw_sw]
  exact k2
theorem sw_ap {m : Nat} {H L R : Nat → Int} {a b : Nat} (hab : a < b) (hb : b < m) (ha : ln_Ap m H L R) : ln_Ap m (fun k => H (sw a b k)) (fun k => L (sw a b k)) (fun k => R (sw a b k)) := by
  intro k k' h1 h2 h3
  dsimp only at h3 ⊢
  have n1 : sw a b k ≠ sw a b k' := fun e => by
    have := congrArg (sw a b) e
    rw [sw_sw, sw_sw] at this
    omega
  have l1 := sw_lt hab hb (show k < m by omega)
  have l2 := sw_lt hab hb h2
  rcases Nat.lt_or_ge (sw a b k) (sw a b k') with g | g
  · exact ha _ _ g l2 h3
  · exact (ha _ _ (show sw a b k' < sw a b k by omega) l1 h3.symm).symm
def ln_Lt (H L : Nat → Int) (k k' : Nat) : Prop := H k' < H k ∨ (H k = H k' ∧ L k < L k')
theorem sw_L {m : Nat} {H L : Nat → Int} {a b : Nat} (hab : a < b) (hb : b < m) (ho : ∀ k k', k < k' → k' < m → (k < a ∨ (k = a ∧ k' < b)) → ln_Lt H L k k') (hba : ln_Lt H L b a) : ∀ k k', k < k' → k' < m → (k < a ∨ (k = a ∧ k' < b + 1)) → ln_Lt (fun k => H (sw a b k)) (fun k => L (sw a b k)) k k' := by
  intro k k' h1 h2 h3
  unfold ln_Lt at ho hba ⊢
  dsimp only
  rcases h3 with g | ⟨g, g'⟩
  · have e1 : sw a b k = k := by unfold sw; rw [if_neg (by omega), if_neg (by omega)]
    have e2 : k < sw a b k' := by
      unfold sw
      repeat' split
      all_goals omega
    have e3 := sw_lt hab hb h2
    rw [e1]
    exact ho k _ e2 e3 (Or.inl g)
  · subst g
    have e1 : sw k b k = b := by unfold sw; rw [if_neg (by omega), if_pos rfl]
    by_cases c : k' = b
    · subst c
      have e2 : sw k k' k' = k := by unfold sw; rw [if_pos rfl]
      rw [e1, e2]
      exact hba
    · have e2 : sw k b k' = k' := by unfold sw; rw [if_neg c, if_neg (by omega)]
      rw [e1, e2]
      have := ho k k' h1 h2 (Or.inr ⟨rfl, by omega⟩)
      omega
theorem dr_srt {E : Nat} {lv lf rt : Nat → Int} {m : Nat} {H L R : Nat → Int} (hc : ln_Cov E lv lf rt m H L R) (ha : ln_Ap m H L R) (hs : ∀ k k', k < k' → k' < m → ln_Lt H L k k') : ln_Srt m H L R := by
  intro k k' h1 h2
  have c1 := (hc k (by omega)).1
  have c2 := (hc k' h2).1
  have s := hs k k' h1 h2
  have p := ha k k' h1 h2
  unfold ln_Lt at s
  unfold ln_Ap2 at p
  rcases s with s | ⟨s1, s2⟩
  · exact Or.inl s
  · have := p s1
    exact Or.inr ⟨s1, by omega⟩
section
variable {T : Nat} {X Y Z : Nat → Int} {DL DY DS : Nat → Int32}
def dr_S (T : Nat) (X Y Z : Nat → Int) (m a b : Nat) (h l r : Nat → Int32) : Prop := dr_G T X Y Z m h l r ∧ ln_Ap m (tz h) (tz l) (tz r) ∧ ∀ k k', k < k' → k' < m → (k < a ∨ (k = a ∧ k' < b)) → ln_Lt (tz h) (tz l) k k'
theorem dr_392 {a b : Nat} (ha : a < 42) (hb : b < 42) (z m : Int32) (h l r : Nat → Int32) : jX7_draw_392 z DL DY DS h l r m (nI a) (nI b) = some (.inr (nI (b + 1), fun k => h (sw a b k), fun k => l (sw a b k), fun k => r (sw a b k))) := by
  unfold jX7_draw_392 jX7_draw_476
  simp only [pz_let, nI_1, pz_gd (pz_in ha (by decide)), pz_gd (pz_in hb (by decide)), nI_clamp (show a < 2 ^ 31 by omega), nI_clamp (show b < 2 ^ 31 by omega), sw_u]
theorem dr_336 {m a b : Nat} (hm : m ≤ 42) (hab : a < b) (hb : b < m) {h l r : Nat → Int32} (hS : dr_S T X Y Z m a b h l r) (z : Int32) : ∃ s', bX7_draw_336 z DL DY DS (nI m) (nI a) (nI b, h, l, r) = some (.inr s') ∧ s'.1 = nI (b + 1) ∧ dr_S T X Y Z m a (b + 1) s'.2.1 s'.2.2.1 s'.2.2.2 := by
  obtain ⟨⟨p1, p2⟩, p3, p4⟩ := hS
  have skip : ln_Lt (tz h) (tz l) a b → ∃ s', jX7_draw_476 z DL DY DS h l r (nI m) (nI a) (nI b) = some (.inr s') ∧ s'.1 = nI (b + 1) ∧ dr_S T X Y Z m a (b + 1) s'.2.1 s'.2.2.1 s'.2.2.2 := by
    intro lt
    unfold jX7_draw_476
    simp only [pz_let, nI_1]
    refine ⟨_, rfl, rfl, ⟨p1, p2⟩, p3, fun k k' g1 g2 g3 => ?_⟩
    by_cases c : k = a ∧ k' = b
    · rw [c.1, c.2]; exact lt
    · exact p4 k k' g1 g2 (by omega)
  have swap : ln_Lt (tz h) (tz l) b a → ∃ s', jX7_draw_392 z DL DY DS h l r (nI m) (nI a) (nI b) = some (.inr s') ∧ s'.1 = nI (b + 1) ∧ dr_S T X Y Z m a (b + 1) s'.2.1 s'.2.2.1 s'.2.2.2 := by
    intro lt
    rw [dr_392 (show a < 42 by omega) (show b < 42 by omega)]
    exact ⟨_, rfl, rfl, ⟨sw_cov hab hb p1, sw_all hab hb p2⟩, sw_ap hab hb p3, sw_L hab hb p4 lt⟩
  unfold bX7_draw_336
  dsimp only
  rw [if_neg (nI_ge hb (by omega)), pz_gd (pz_in (show a < 42 by omega) (by decide)), pz_gd (pz_in (show b < 42 by omega) (by decide)), nI_clamp (show a < 2 ^ 31 by omega), nI_clamp (show b < 2 ^ 31 by omega)]
  have ca := (p1 a (by omega)).1
  have cb := (p1 b hb).1
  have ap := p3 a b hab hb
  unfold ln_Ap2 at ap
  by_cases c1 : h b < h a
  · rw [if_pos c1]
    exact skip (Or.inl (Int32.lt_iff_toInt_lt.mp c1))
  · rw [if_neg c1]
    by_cases c2 : h a = h b
    · have e2 : tz h a = tz h b := congrArg Int32.toInt c2
      rw [if_pos c2]
      by_cases c3 : l b ≤ l a
      · rw [if_pos c3]
        have e3 : tz l b ≤ tz l a := Int32.le_iff_toInt_le.mp c3
        have := ap e2
        exact swap (Or.inr ⟨e2.symm, by omega⟩)
      · rw [if_neg c3]
        exact skip (Or.inr ⟨e2, Int32.lt_iff_toInt_lt.mp (Int32.not_le.mp c3)⟩)
    · rw [if_neg c2]
      have e1 : tz h a ≤ tz h b := Int32.le_iff_toInt_le.mp (Int32.not_lt.mp c1)
      have e2 : tz h a ≠ tz h b := fun k => c2 (Int32.toInt_inj.mp k)
      exact swap (Or.inl (by omega))
theorem dr_s1 {m a : Nat} (hm : m ≤ 42) (ha : a < m) {h l r : Nat → Int32} (hS : dr_S T X Y Z m a 0 h l r) (z : Int32) : ∃ rs, dk_loop (bX7_draw_336 z DL DY DS (nI m) (nI a)) 1000 (nI a + 1, h, l, r) = some rs ∧ dr_S T X Y Z m (a + 1) 0 rs.1 rs.2.1 rs.2.2 := by
  refine pz_fin (body := bX7_draw_336 z DL DY DS (nI m) (nI a)) (fun j st => st.1 = nI (a + 1 + j) ∧ dr_S T X Y Z m a (a + 1 + j) st.2.1 st.2.2.1 st.2.2.2) (fun rs => dr_S T X Y Z m (a + 1) 0 rs.1 rs.2.1 rs.2.2) (m - (a + 1)) ?_ 1000 0 (nI a + 1, h, l, r) (by omega) ⟨nI_1 a, hS.1, hS.2.1, fun k k' g1 g2 g3 => hS.2.2 k k' g1 g2 (by omega)⟩ (by omega)
  rintro j ⟨x, h', l', r'⟩ hj ⟨i1, i2⟩
  dsimp only at i1 i2
  subst i1
  rcases Nat.lt_or_ge (a + 1 + j) m with c | c
  · right
    exact ⟨by omega, dr_336 hm (by omega) c i2 z⟩
  · left
    unfold bX7_draw_336
    dsimp only
    rw [if_pos (nI_le c (by omega))]
    exact ⟨_, rfl, i2.1, i2.2.1, fun k k' g1 g2 g3 => i2.2.2 k k' g1 g2 (by omega)⟩
theorem dr_s2 {m : Nat} (hm : m ≤ 42) {h l r : Nat → Int32} (hG : dr_G T X Y Z m h l r) (hA : ln_Ap m (tz h) (tz l) (tz r)) (z : Int32) : ∃ rs, dk_loop (bX7_draw_324 z DL DY DS (nI m)) 1000 (0, h, l, r) = some rs ∧ dr_S T X Y Z m m 0 rs.1 rs.2.1 rs.2.2 := by
  refine pz_fin (body := bX7_draw_324 z DL DY DS (nI m)) (fun j st => st.1 = nI j ∧ dr_S T X Y Z m j 0 st.2.1 st.2.2.1 st.2.2.2) (fun rs => dr_S T X Y Z m m 0 rs.1 rs.2.1 rs.2.2) m ?_ 1000 0 (0, h, l, r) (by omega) ⟨rfl, hG, hA, fun k k' g1 g2 g3 => absurd g3 (by omega)⟩ (by omega)
  rintro j ⟨x, h', l', r'⟩ hj ⟨i1, i2⟩
  dsimp only at i1 i2
  subst i1
  unfold bX7_draw_324
  dsimp only
  rcases Nat.lt_or_ge j m with c | c
  · right
    rw [if_neg (nI_ge c (by omega))]
    obtain ⟨⟨r1, r2, r3⟩, l1, l2⟩ := dr_s1 (DL := DL) (DY := DY) (DS := DS) hm c i2 z
    simp only [pz_let, l1, pz_bs]
    exact ⟨by omega, _, rfl, nI_1 j, l2⟩
  · left
    have e : j = m := by omega
    subst e
    rw [if_pos (nI_le (Nat.le_refl _) (by omega))]
    exact ⟨_, rfl, i2⟩
theorem dw_all (q : rq_Ok T X Y Z) (a : rq_At T X Y Z DL DY DS) (h0 l0 r0 : Nat → Int32) (z : Int32) : ∃ h l r m, fX7_draw (nI T) DL DY DS h0 l0 r0 z = some (h, l, r, nI m) ∧ m ≤ 2 * T ∧ ln_Cov (2 * T) (ed_v Y Z) (ed_l X) (ed_r X Z) m (tz h) (tz l) (tz r) ∧ ln_Srt m (tz h) (tz l) (tz r) ∧ ln_All (2 * T) (ed_v Y Z) (ed_l X) (ed_r X Z) m (tz h) (tz l) (tz r) := by
  have hT := q.2.1
  obtain ⟨h, l, r, l1, l2⟩ := dw_1 q a h0 l0 r0
  have hG : dr_G T X Y Z (2 * T) h l r := by
    constructor
    · intro k hk
      obtain ⟨e1, e2, e3⟩ := l2 k hk
      unfold tz
      rw [e1, e2, e3]
      refine ⟨?_, fun x x1 x2 => ⟨k, hk, rfl, x1, x2⟩⟩
      have := (q.2.2.1 (k / 2) (by omega)).2.2.1
      unfold ed_l ed_r
      omega
    · intro e he
      obtain ⟨e1, e2, e3⟩ := l2 e he
      refine ⟨e, he, ?_⟩
      unfold tz
      rw [e1, e2, e3]
      exact ⟨rfl, Int.le_refl _, Int.le_refl _⟩
  obtain ⟨⟨h1, l1', r1, v⟩, k1, m, k2, k3, k4, k5⟩ := dr_all (DL := DL) (DY := DY) (DS := DS) hT hG (nI T)
  dsimp only at k2 k4 k5
  subst k2
  obtain ⟨⟨h2, l2', r2⟩, g1, g2, g3, g4⟩ := dr_s2 (DL := DL) (DY := DY) (DS := DS) (show m ≤ 42 by omega) k4 k5 (nI T)
  dsimp only at g2 g3 g4
  unfold fX7_draw
  simp only [l1, pz_bs, k1, g1]
  exact ⟨h2, l2', r2, m, rfl, k3, g2.1, dr_srt g2.1 g3 (fun k k' q1 q2 => g4 k k' q1 q2 (by omega)), g2.2⟩
theorem lo_1 {m : Nat} {h l r : Nat → Int32} (hm : m ≤ 42) (hs : ln_Srt m (tz h) (tz l) (tz r)) {k : Nat} (hk : k < m) {v x : Int32} (h1 : tz h k = v.toInt) (h2 : tz l k ≤ x.toInt) (h3 : x.toInt < tz r k) : fX7_lineOf h l r v x = some (nI k) := by
  obtain ⟨rs, l1, l2⟩ := pz_fin (body := bX7_lineOf_2 h l r v x) (fun j st => st = nI j) (fun rs => rs = nI k) k (by
    rintro j st hj rfl
    unfold bX7_lineOf_2 jX7_lineOf_32
    rw [pz_gd (pz_in (show j < 42 by omega) (by decide)), nI_clamp (show j < 2 ^ 31 by omega)]
    simp only [pz_let, nI_1]
    by_cases c1 : h j = v
    · rw [if_pos c1]
      have e1 : tz h j = v.toInt := congrArg Int32.toInt c1
      by_cases c2 : x < l j
      · rw [if_pos c2]
        have e2 : x.toInt < tz l j := Int32.lt_iff_toInt_lt.mp c2
        have n : j ≠ k := fun e => by rw [e] at e2; omega
        exact Or.inr ⟨by omega, _, rfl, rfl⟩
      · rw [if_neg c2]
        have e2 : tz l j ≤ x.toInt := Int32.le_iff_toInt_le.mp (Int32.not_lt.mp c2)
        by_cases c3 : x < r j
        · rw [if_pos c3]
          have e3 : x.toInt < tz r j := Int32.lt_iff_toInt_lt.mp c3
          have := ln_one hs (show j < m by omega) hk (by omega) (by omega) (by omega)
          subst this
          exact Or.inl ⟨_, rfl, rfl⟩
        · rw [if_neg c3]
          have e3 : tz r j ≤ x.toInt := Int32.le_iff_toInt_le.mp (Int32.not_lt.mp c3)
          have n : j ≠ k := fun e => by rw [e] at e3; omega
          exact Or.inr ⟨by omega, _, rfl, rfl⟩
    · rw [if_neg c1]
      have n : j ≠ k := fun e => c1 (Int32.toInt_inj.mp (by rw [e]; exact h1))
      exact Or.inr ⟨by omega, _, rfl, rfl⟩) 1000 0 0 (by omega) rfl (by omega)
  unfold fX7_lineOf
  rw [l1, pz_bs, l2]
end

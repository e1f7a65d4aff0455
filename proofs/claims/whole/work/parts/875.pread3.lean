/-! ===== PURE 31c: read, the reference draws the lines ===== -/
def tz (h : Nat → Int32) : Nat → Int := fun k => (h k).toInt
theorem tz_u (f : Nat → Int32) (i : Nat) (v : Int32) : tz (upd f i v) = upz (tz f) i v.toInt := by
  funext k
  unfold tz upz
  by_cases g : k = i
  · rw [g, tr_u1, if_pos rfl]
  · rw [tr_u2 _ _ g, if_neg g]
theorem tz_v (f : Nat → Int32) (i : Nat) (v : Int32) (k : Nat) : (upd f i v k).toInt = upz (tz f) i v.toInt k := congrFun (tz_u f i v) k
def ln_Ap2 (H L R : Nat → Int) (k k' : Nat) : Prop := H k = H k' → R k < L k' ∨ R k' < L k
theorem dr_merge {E : Nat} {lv lf rt : Nat → Int} {m : Nat} {H L R : Nat → Int} (hc : ln_Cov E lv lf rt (m + 1) H L R) (ha : ln_All E lv lf rt (m + 1) H L R) {a b : Nat} (hab : a < b) (hb : b < m + 1) (h1 : H a = H b) (h2 : L a ≤ R b) (h3 : L b ≤ R a) {l r : Int} (hl : (l = L b ∧ L b ≤ L a) ∨ (l = L a ∧ L a ≤ L b)) (hr : (r = R b ∧ R a ≤ R b) ∨ (r = R a ∧ R b ≤ R a)) : ln_Cov E lv lf rt m (upz H b (H m)) (upz (upz L a l) b (upz L a l m)) (upz (upz R a r) b (upz R a r m)) ∧ ln_All E lv lf rt m (upz H b (H m)) (upz (upz L a l) b (upz L a l m)) (upz (upz R a r) b (upz R a r m)) := by
  have g1 : ∀ k, k < m + 1 → upz L a l k < upz R a r k ∧ ∀ x, upz L a l k ≤ x → x < upz R a r k → ∃ e, e < E ∧ lv e = H k ∧ lf e ≤ x ∧ x < rt e := by
    intro k hk
    obtain ⟨a1, a2⟩ := hc a (by omega)
    obtain ⟨b1, b2⟩ := hc b hb
    by_cases g : k = a
    · subst g
      rw [upz_1, upz_1]
      refine ⟨by omega, fun x x1 x2 => ?_⟩
      by_cases c1 : L k ≤ x ∧ x < R k
      · exact a2 x c1.1 c1.2
      · obtain ⟨e, e1, e2, e3⟩ := b2 x (by omega) (by omega)
        exact ⟨e, e1, by omega, e3⟩
    · rw [upz_2 _ _ g, upz_2 _ _ g]
      exact hc k hk
  constructor
  · intro k hk
    by_cases g : k = b
    · subst g
      rw [upz_1, upz_1, upz_1]
      exact g1 m (by omega)
    · rw [upz_2 _ _ g, upz_2 _ _ g, upz_2 _ _ g]
      exact g1 k (by omega)
  · intro e he
    obtain ⟨k, k1, k2, k3, k4⟩ := ha e he
    have w : ∃ k', k' < m + 1 ∧ k' ≠ b ∧ H k' = lv e ∧ upz L a l k' ≤ lf e ∧ rt e ≤ upz R a r k' := by
      by_cases g : k = a ∨ k = b
      · have q1 : H a = lv e := by rcases g with g | g <;> rw [g] at k2 <;> omega
        have q2 : upz L a l a ≤ lf e := by rw [upz_1]; rcases g with g | g <;> rw [g] at k3 <;> omega
        have q3 : rt e ≤ upz R a r a := by rw [upz_1]; rcases g with g | g <;> rw [g] at k4 <;> omega
        exact ⟨a, by omega, by omega, q1, q2, q3⟩
      · exact ⟨k, k1, by omega, k2, by rw [upz_2 L l (show k ≠ a by omega)]; exact k3, by rw [upz_2 R r (show k ≠ a by omega)]; exact k4⟩
    obtain ⟨k', w1, w2, w3, w4, w5⟩ := w
    by_cases g : k' = m
    · subst g
      refine ⟨b, by omega, ?_⟩
      rw [upz_1, upz_1, upz_1]
      exact ⟨w3, w4, w5⟩
    · refine ⟨k', by omega, ?_⟩
      rw [upz_2 _ _ w2, upz_2 _ _ w2, upz_2 _ _ w2]
      exact ⟨w3, w4, w5⟩
section
variable {T : Nat} {X Y Z : Nat → Int} {DL DY DS : Nat → Int32}
theorem dw_1 (q : rq_Ok T X Y Z) (a : rq_At T X Y Z DL DY DS) (h0 l0 r0 : Nat → Int32) : ∃ h l r, dk_loop (bX7_draw_7 (nI T) DL DY DS) 1000 (0, h0, l0, r0, 0) = some (h, l, r, nI (2 * T)) ∧ ∀ e, e < 2 * T → (h e).toInt = ed_v Y Z e ∧ (l e).toInt = ed_l X e ∧ (r e).toInt = ed_r X Z e := by
  have hT := q.2.1
  obtain ⟨⟨h, l, r, v⟩, l1, l2, l3⟩ := pz_fin (body := bX7_draw_7 (nI T) DL DY DS) (fun j st => st.1 = nI j ∧ st.2.2.2.2 = nI j ∧ ∀ e, e < j → (st.2.1 e).toInt = ed_v Y Z e ∧ (st.2.2.1 e).toInt = ed_l X e ∧ (st.2.2.2.1 e).toInt = ed_r X Z e) (fun r => r.2.2.2 = nI (2 * T) ∧ ∀ e, e < 2 * T → (r.1 e).toInt = ed_v Y Z e ∧ (r.2.1 e).toInt = ed_l X e ∧ (r.2.2.1 e).toInt = ed_r X Z e) (2 * T) (by
    rintro j ⟨x, h, l, r, v⟩ hj ⟨h1, h2, h3⟩
    dsimp only at h1 h2 h3
    subst h1 h2
    unfold bX7_draw_7
    dsimp only
    rw [nI_two]
    rcases Nat.lt_or_ge j (2 * T) with c | c
    · right
      obtain ⟨_, _, d3, d4⟩ := nt_d1 j (by omega)
      rw [if_neg (nI_ge c (by omega)), d4, d3]
      simp only [pz_let]
      rw [pz_gd (pz_in (show j / 2 < 21 by omega) (by decide))]
      have st : ∀ s3 : Int32, (DY (j / 2) + s3).toInt = ed_v Y Z j → ∃ s', jX7_draw_48 (nI T) DL DY DS h l r (nI j) (nI j) (nI (j / 2)) (nI j) (DY (nI (j / 2)).toNatClampNeg) s3 = some (.inr s') ∧ (s'.1 = nI (j + 1) ∧ s'.2.2.2.2 = nI (j + 1) ∧ ∀ e, e < j + 1 → (s'.2.1 e).toInt = ed_v Y Z e ∧ (s'.2.2.1 e).toInt = ed_l X e ∧ (s'.2.2.2.1 e).toInt = ed_r X Z e) := by
        intro s3 hs
        unfold jX7_draw_48
        simp only [pz_let, nI_1, pz_gd (pz_in (show j < 42 by omega) (by decide)), pz_gd (pz_in (show j / 2 < 21 by omega) (by decide)), nI_clamp (show j < 2 ^ 31 by omega), nI_clamp (show j / 2 < 2 ^ 31 by omega)]
        refine ⟨_, rfl, rfl, rfl, fun e he => ?_⟩
        dsimp only
        by_cases g : e = j
        · subst g
          rw [tr_u1, tr_u1, tr_u1]
          exact ⟨hs, (a (e / 2) (by omega)).1, (rq_top q a (by omega)).2⟩
        · rw [tr_u2 _ _ g, tr_u2 _ _ g, tr_u2 _ _ g]
          exact h3 e (by omega)
      by_cases p : j % 2 = 0
      · rw [p, if_pos (show nI 0 = 0 from rfl)]
        obtain ⟨s', s1, s2⟩ := st (DS (nI (j / 2)).toNatClampNeg) (by rw [nI_clamp (by omega)]; unfold ed_v; rw [if_pos p]; exact (rq_top q a (by omega)).1)
        exact ⟨c, s', s1, s2⟩
      · rw [show j % 2 = 1 by omega, if_neg (show ¬ nI 1 = 0 by decide)]
        obtain ⟨s', s1, s2⟩ := st 0 (by rw [Int32.add_zero]; unfold ed_v; rw [if_neg p]; exact (a (j / 2) (by omega)).2.1)
        exact ⟨c, s', s1, s2⟩
    · left
      have e : j = 2 * T := by omega
      subst e
      exact ⟨_, by rw [if_pos (nI_le (Nat.le_refl _) (by omega))], rfl, h3⟩) 1000 0 (0, h0, l0, r0, 0) (by omega) ⟨rfl, rfl, fun e he => absurd he (by omega)⟩ (by omega)
  dsimp only at l2 l3
  subst l2
  exact ⟨h, l, r, l1, l3⟩
def dr_G (T : Nat) (X Y Z : Nat → Int) (m : Nat) (h l r : Nat → Int32) : Prop := ln_Cov (2 * T) (ed_v Y Z) (ed_l X) (ed_r X Z) m (tz h) (tz l) (tz r) ∧ ln_All (2 * T) (ed_v Y Z) (ed_l X) (ed_r X Z) m (tz h) (tz l) (tz r)
def dr_P (T : Nat) (X Y Z : Nat → Int) (M0 a b : Nat) (mo : Int32) (m : Nat) (h l r : Nat → Int32) : Prop := dr_G T X Y Z m h l r ∧ ((mo = 0 ∧ m = M0 ∧ ∀ k k', k < k' → k' < m → (k < a ∨ (k = a ∧ k' < b)) → ln_Ap2 (tz h) (tz l) (tz r) k k') ∨ (mo = 1 ∧ m < M0))
theorem dr_mono {M0 a b a' b' m : Nat} {mo : Int32} {h l r : Nat → Int32} (hP : dr_P T X Y Z M0 a b mo m h l r) (hh : ∀ k k', k < k' → k' < m → (k < a' ∨ (k = a' ∧ k' < b')) → (k < a ∨ (k = a ∧ k' < b))) : dr_P T X Y Z M0 a' b' mo m h l r := ⟨hP.1, hP.2.elim (fun ⟨e1, e2, e3⟩ => Or.inl ⟨e1, e2, fun k k' g1 g2 g3 => e3 k k' g1 g2 (hh k k' g1 g2 g3)⟩) Or.inr⟩
def dr_I (T : Nat) (X Y Z : Nat → Int) (M0 a C j : Nat) (s' : Int32 × Int32 × (Nat → Int32) × (Nat → Int32) × (Nat → Int32) × Int32) : Prop := ∃ b m, s'.2.1 = nI b ∧ s'.2.2.2.2.2 = nI m ∧ a < b ∧ b ≤ m ∧ m ≤ M0 ∧ j + (m - b) = C ∧ dr_P T X Y Z M0 a b s'.1 m s'.2.2.1 s'.2.2.2.1 s'.2.2.2.2.1
theorem dr_246 {a b m : Nat} (ha : a < 42) (hb : b + 1 < 42) (hm : m < 42) (z : Int32) (h l r : Nat → Int32) (s : Int32) : jX7_draw_246 z DL DY DS h l r (nI (m + 1)) (nI a) (nI (b + 1)) (nI a) s = some (.inr (1, nI (b + 1), upd h (b + 1) (h m), upd l (b + 1) (l m), upd (upd r a s) (b + 1) (upd r a s m), nI m)) := by
  unfold jX7_draw_246 jX7_draw_307
  simp only [pz_let, nI_sub1, nI_subm, nI_1, pz_gd (pz_in ha (by decide)), pz_gd (pz_in hb (by decide)), pz_gd (pz_in hm (by decide)), nI_clamp (show a < 2 ^ 31 by omega), nI_clamp (show b + 1 < 2 ^ 31 by omega), nI_clamp (show m < 2 ^ 31 by omega)]
theorem dr_210 {a b m : Nat} (ha : a < 42) (hb : b + 1 < 42) (hm : m < 42) (z : Int32) (h l r : Nat → Int32) (s : Int32) : ∃ x, jX7_draw_210 z DL DY DS h l r (nI (m + 1)) (nI a) (nI (b + 1)) (nI a) s = some (.inr (1, nI (b + 1), upd h (b + 1) (h m), upd (upd l a s) (b + 1) (upd l a s m), upd (upd r a x) (b + 1) (upd r a x m), nI m)) ∧ ((x.toInt = tz r (b + 1) ∧ tz r a ≤ tz r (b + 1)) ∨ (x.toInt = tz r a ∧ tz r (b + 1) ≤ tz r a)) := by
  unfold jX7_draw_210
  simp only [pz_let, pz_gd (pz_in ha (by decide)), pz_gd (pz_in hb (by decide)), nI_clamp (show a < 2 ^ 31 by omega), nI_clamp (show b + 1 < 2 ^ 31 by omega)]
  by_cases c : r a ≤ r (b + 1)
  · rw [if_pos c, dr_246 ha hb hm]
    exact ⟨_, rfl, Or.inl ⟨rfl, Int32.le_iff_toInt_le.mp c⟩⟩
  · rw [if_neg c, dr_246 ha hb hm]
    exact ⟨_, rfl, Or.inr ⟨rfl, Int.le_of_lt (Int32.lt_iff_toInt_lt.mp (Int32.not_le.mp c))⟩⟩
theorem dr_119 {M0 a b m C j : Nat} (hM : M0 ≤ 42) (hab : a < b) (hbm : b < m) (hm : m ≤ M0) (hj : j + (m - b) = C) {mo : Int32} {h l r : Nat → Int32} (hP : dr_P T X Y Z M0 a b mo m h l r) (z : Int32) : ∃ s', bX7_draw_119 z DL DY DS (nI a) (mo, nI b, h, l, r, nI m) = some (.inr s') ∧ dr_I T X Y Z M0 a C (j + 1) s' := by
  obtain ⟨⟨p1, p2⟩, p3⟩ := hP
  have skip : ln_Ap2 (tz h) (tz l) (tz r) a b → ∃ s', jX7_draw_307 z DL DY DS h l r (nI m) mo (nI a) (nI b) = some (.inr s') ∧ dr_I T X Y Z M0 a C (j + 1) s' := by
    intro ap
    unfold jX7_draw_307
    simp only [pz_let, nI_1]
    refine ⟨_, rfl, b + 1, m, rfl, rfl, by omega, by omega, hm, by omega, ⟨p1, p2⟩, ?_⟩
    rcases p3 with ⟨e1, e2, e3⟩ | e
    · refine Or.inl ⟨e1, e2, fun k k' g1 g2 g3 => ?_⟩
      by_cases c : k = a ∧ k' = b
      · rw [c.1, c.2]; exact ap
      · exact e3 k k' g1 g2 (by omega)
    · exact Or.inr e
  unfold bX7_draw_119
  dsimp only
  rw [if_neg (nI_ge hbm (by omega)), pz_gd (pz_in (show a < 42 by omega) (by decide)), pz_gd (pz_in (show b < 42 by omega) (by decide)), nI_clamp (show a < 2 ^ 31 by omega), nI_clamp (show b < 2 ^ 31 by omega)]
  by_cases c1 : h a = h b
  · rw [if_pos c1]
    by_cases c2 : r b < l a
    · rw [if_pos c2]
      exact skip (fun _ => Or.inr (Int32.lt_iff_toInt_lt.mp c2))
    · rw [if_neg c2]
      by_cases c3 : l b ≤ r a
      · rw [if_pos c3]
        obtain ⟨m0, rfl⟩ : ∃ m0, m = m0 + 1 := ⟨m - 1, by omega⟩
        obtain ⟨b0, rfl⟩ : ∃ b0, b = b0 + 1 := ⟨b - 1, by omega⟩
        have fin : ∀ s2 : Int32, ((s2.toInt = tz l (b0 + 1) ∧ tz l (b0 + 1) ≤ tz l a) ∨ (s2.toInt = tz l a ∧ tz l a ≤ tz l (b0 + 1))) → ∃ s', jX7_draw_210 z DL DY DS h l r (nI (m0 + 1)) (nI a) (nI (b0 + 1)) (nI a) s2 = some (.inr s') ∧ dr_I T X Y Z M0 a C (j + 1) s' := by
          intro s2 hs
          obtain ⟨mx, x1, x2⟩ := dr_210 (DL := DL) (DY := DY) (DS := DS) (a := a) (b := b0) (m := m0) (by omega) (by omega) (by omega) z h l r s2
          rw [x1]
          refine ⟨_, rfl, b0 + 1, m0, rfl, rfl, hab, by omega, by omega, by omega, ?_, Or.inr ⟨rfl, by omega⟩⟩
          have w := dr_merge p1 p2 hab (by omega) (congrArg Int32.toInt c1) (Int.not_lt.mp (fun k => c2 (Int32.lt_iff_toInt_lt.mpr k))) (Int32.le_iff_toInt_le.mp c3) hs x2
          unfold dr_G
          simp only [tz_u, tz_v]
          exact w
        by_cases c4 : l (b0 + 1) ≤ l a
        · rw [if_pos c4]
          exact fin _ (Or.inl ⟨rfl, Int32.le_iff_toInt_le.mp c4⟩)
        · rw [if_neg c4]
          exact fin _ (Or.inr ⟨rfl, Int.le_of_lt (Int32.lt_iff_toInt_lt.mp (Int32.not_le.mp c4))⟩)
      · rw [if_neg c3]
        exact skip (fun _ => Or.inl (Int32.lt_iff_toInt_lt.mp (Int32.not_le.mp c3)))
  · rw [if_neg c1]
    exact skip (fun k => absurd (Int32.toInt_inj.mp k) c1)
theorem dr_in {M0 a m : Nat} (hM : M0 ≤ 42) (ham : a < m) (hm : m ≤ M0) {mo : Int32} {h l r : Nat → Int32} (hP : dr_P T X Y Z M0 a 0 mo m h l r) (z : Int32) : ∃ rs, dk_loop (bX7_draw_119 z DL DY DS (nI a)) 1000 (mo, nI a + 1, h, l, r, nI m) = some rs ∧ ∃ m', rs.2.2.2.2 = nI m' ∧ m' ≤ M0 ∧ dr_P T X Y Z M0 (a + 1) 0 rs.1 m' rs.2.1 rs.2.2.1 rs.2.2.2.1 := by
  refine pz_fin (body := bX7_draw_119 z DL DY DS (nI a)) (dr_I T X Y Z M0 a (m - (a + 1))) (fun rs => ∃ m', rs.2.2.2.2 = nI m' ∧ m' ≤ M0 ∧ dr_P T X Y Z M0 (a + 1) 0 rs.1 m' rs.2.1 rs.2.2.1 rs.2.2.2.1) (m - (a + 1)) ?_ 1000 0 (mo, nI a + 1, h, l, r, nI m) (by omega) ⟨a + 1, m, nI_1 a, rfl, by omega, by omega, hm, by omega, dr_mono hP (fun k k' g1 g2 g3 => by omega)⟩ (by omega)
  rintro j ⟨mo', x, h', l', r', v⟩ hj ⟨b, m', i1, i2, i3, i4, i5, i6, i7⟩
  dsimp only at i1 i2 i7
  subst i1 i2
  rcases Nat.lt_or_ge b m' with c | c
  · right
    exact ⟨by omega, dr_119 hM i3 c i5 i6 i7 z⟩
  · left
    unfold bX7_draw_119
    dsimp only
    rw [if_pos (nI_le c (by omega))]
    exact ⟨_, rfl, m', rfl, i5, dr_mono i7 (fun k k' g1 g2 g3 => by omega)⟩
theorem dr_pass {M0 : Nat} (hM : M0 ≤ 42) {h l r : Nat → Int32} (hG : dr_G T X Y Z M0 h l r) (z : Int32) : ∃ rs, dk_loop (bX7_draw_107 z DL DY DS) 1000 (0, 0, h, l, r, nI M0) = some rs ∧ ∃ m, rs.2.2.2.2 = nI m ∧ m ≤ M0 ∧ dr_P T X Y Z M0 M0 0 rs.1 m rs.2.1 rs.2.2.1 rs.2.2.2.1 := by
  refine pz_fin (body := bX7_draw_107 z DL DY DS) (fun j st => st.2.1 = nI j ∧ ∃ m, st.2.2.2.2.2 = nI m ∧ m ≤ M0 ∧ dr_P T X Y Z M0 j 0 st.1 m st.2.2.1 st.2.2.2.1 st.2.2.2.2.1) (fun rs => ∃ m, rs.2.2.2.2 = nI m ∧ m ≤ M0 ∧ dr_P T X Y Z M0 M0 0 rs.1 m rs.2.1 rs.2.2.1 rs.2.2.2.1) M0 ?_ 1000 0 (0, 0, h, l, r, nI M0) (by omega) ⟨rfl, M0, rfl, Nat.le_refl _, hG, Or.inl ⟨rfl, rfl, fun k k' g1 g2 g3 => absurd g3 (by omega)⟩⟩ (by omega)
  rintro j ⟨mo', x, h', l', r', v⟩ hj ⟨i1, m, i2, i3, i4⟩
  dsimp only at i1 i2 i4
  subst i1 i2
  unfold bX7_draw_107
  dsimp only
  rcases Nat.lt_or_ge j m with c | c
  · right
    rw [if_neg (nI_ge c (by omega))]
    obtain ⟨⟨r1, r2, r3, r4, r5⟩, l1, m', l2, l3, l4⟩ := dr_in (DL := DL) (DY := DY) (DS := DS) hM c i3 i4 z
    dsimp only at l2 l4
    subst l2
    simp only [pz_let, l1, pz_bs]
    exact ⟨by omega, _, rfl, nI_1 j, m', rfl, l3, l4⟩
  · left
    rw [if_pos (nI_le c (by omega))]
    exact ⟨_, rfl, m, rfl, i3, dr_mono i4 (fun k k' g1 g2 g3 => by omega)⟩
def ln_Ap (m : Nat) (H L R : Nat → Int) : Prop := ∀ k k', k < k' → k' < m → ln_Ap2 H L R k k'
theorem dr_all (hT : T ≤ 21) {h l r : Nat → Int32} (hG : dr_G T X Y Z (2 * T) h l r) (z : Int32) : ∃ rs, dk_loop (bX7_draw_99 z DL DY DS) 1000 (1, h, l, r, nI (2 * T)) = some rs ∧ ∃ m, rs.2.2.2 = nI m ∧ m ≤ 2 * T ∧ dr_G T X Y Z m rs.1 rs.2.1 rs.2.2.1 ∧ ln_Ap m (tz rs.1) (tz rs.2.1) (tz rs.2.2.1) := by
  refine pz_fin (body := bX7_draw_99 z DL DY DS) (fun j st => ∃ m, st.2.2.2.2 = nI m ∧ m ≤ 2 * T ∧ dr_G T X Y Z m st.2.1 st.2.2.1 st.2.2.2.1 ∧ ((st.1 = 0 ∧ j ≤ 2 * T + 1 ∧ ln_Ap m (tz st.2.1) (tz st.2.2.1) (tz st.2.2.2.1)) ∨ (st.1 = 1 ∧ j + m ≤ 2 * T))) (fun rs => ∃ m, rs.2.2.2 = nI m ∧ m ≤ 2 * T ∧ dr_G T X Y Z m rs.1 rs.2.1 rs.2.2.1 ∧ ln_Ap m (tz rs.1) (tz rs.2.1) (tz rs.2.2.1)) (2 * T + 1) ?_ 1000 0 (1, h, l, r, nI (2 * T)) (by omega) ⟨2 * T, rfl, Nat.le_refl _, hG, Or.inr ⟨rfl, by omega⟩⟩ (by omega)
  rintro j ⟨mo', h', l', r', v⟩ hj ⟨m, i1, i2, i3, i4⟩
  dsimp only at i1 i3 i4
  subst i1
  unfold bX7_draw_99
  dsimp only
  rcases i4 with ⟨e1, e2, e3⟩ | ⟨e1, e2⟩
  · left
    rw [if_pos e1]
    exact ⟨_, rfl, m, rfl, i2, i3, e3⟩
  · right
    subst e1
    rw [if_neg (show ¬ (1 : Int32) = 0 by decide)]
    obtain ⟨⟨r1, r2, r3, r4, r5⟩, l1, m', l2, l3, l4, l5⟩ := dr_pass (DL := DL) (DY := DY) (DS := DS) (show m ≤ 42 by omega) i3 z
    dsimp only at l2 l4 l5
    subst l2
    rw [l1, pz_bs]
    refine ⟨by omega, _, rfl, m', rfl, by omega, l4, ?_⟩
    rcases l5 with ⟨g1, g2, g3⟩ | ⟨g1, g2⟩
    · exact Or.inl ⟨g1, by omega, fun k k' q1 q2 => g3 k k' q1 q2 (by omega)⟩
    · exact Or.inr ⟨g1, by omega⟩
end

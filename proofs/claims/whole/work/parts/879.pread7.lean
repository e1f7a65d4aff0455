/-! ===== PURE 31g: read, the reference hangs the squares ===== -/
def hg_N (P : Nat → Prop) (ky : Nat → Int) (x : Int) (j : Nat) (nx : Int32) : Prop := (nx = -1 ∧ ∀ i, i < j → P i → ¬ x < ky i) ∨ (∃ w, w < j ∧ nx = nI w ∧ P w ∧ x < ky w ∧ ∀ i, i < j → P i → x < ky i → ky w ≤ ky i)
theorem hg_skip {P : Nat → Prop} {ky : Nat → Int} {x : Int} {j : Nat} {nx : Int32} (h : hg_N P ky x j nx) (hn : ¬ (P j ∧ x < ky j)) : hg_N P ky x (j + 1) nx := by
  rcases h with ⟨h1, h2⟩ | ⟨w, h1, h2, h3, h4, h5⟩
  · refine Or.inl ⟨h1, fun i hi p q => ?_⟩
    by_cases c : i = j
    · subst c; exact hn ⟨p, q⟩
    · exact h2 i (by omega) p q
  · refine Or.inr ⟨w, by omega, h2, h3, h4, fun i hi p q => ?_⟩
    by_cases c : i = j
    · subst c; exact absurd ⟨p, q⟩ hn
    · exact h5 i (by omega) p q
theorem hg_keep {P : Nat → Prop} {ky : Nat → Int} {x : Int} {j w : Nat} (h1 : w < j) (h3 : P w) (h4 : x < ky w) (h5 : ∀ i, i < j → P i → x < ky i → ky w ≤ ky i) (hle : ky w ≤ ky j) : hg_N P ky x (j + 1) (nI w) := by
  refine Or.inr ⟨w, by omega, rfl, h3, h4, fun i hi p q => ?_⟩
  by_cases c : i = j
  · subst c; exact hle
  · exact h5 i (by omega) p q
theorem hg_set {P : Nat → Prop} {ky : Nat → Int} {x : Int} {j : Nat} {nx : Int32} (h : hg_N P ky x j nx) (p : P j) (q : x < ky j) (hs : ∀ w, w < j → nx = nI w → ky j ≤ ky w) : hg_N P ky x (j + 1) (nI j) := by
  refine Or.inr ⟨j, by omega, rfl, p, q, fun i hi pi qi => ?_⟩
  by_cases c : i = j
  · subst c; exact Int.le_refl _
  · rcases h with ⟨h1, h2⟩ | ⟨w, h1, h2, h3, h4, h5⟩
    · exact absurd qi (h2 i (by omega) pi)
    · exact Int.le_trans (hs w h1 h2) (h5 i (by omega) pi qi)
section
variable {T : Nat} {ML : Nat → Int32} {k : Nat} {fi se : Nat → Int32}
theorem hg_b (hT : T ≤ 21) (tu tm : Nat → Int32) (x3 : Int32) : ∃ r, dk_loop (bX7_hangs_25 fi se tu tm (nI T) ML (nI k) 1 x3) 1000 (-1, 0) = some r ∧ hg_N (fun i => fi i = nI k) (fun i => (ML i).toInt) x3.toInt T r := by
  refine pz_fin (body := bX7_hangs_25 fi se tu tm (nI T) ML (nI k) 1 x3) (fun j st => st.2 = nI j ∧ hg_N (fun i => fi i = nI k) (fun i => (ML i).toInt) x3.toInt j st.1) (fun r => hg_N (fun i => fi i = nI k) (fun i => (ML i).toInt) x3.toInt T r) T ?_ 1000 0 (-1, 0) (by omega) ⟨rfl, Or.inl ⟨rfl, fun i hi => absurd hi (by omega)⟩⟩ (by omega)
  rintro j ⟨nx, y⟩ hj ⟨i1, i2⟩
  dsimp only at i1 i2
  subst i1
  have n0 : ¬ (1 : Int32) = 0 := by decide
  rcases Nat.lt_or_ge j T with c | c
  · right
    have h141 : ∀ nx, jX7_hangs_141 fi se tu tm (nI T) ML (nI k) 1 x3 nx (nI j) = some (.inr (nx, nI (j + 1))) := fun nx => by
      unfold jX7_hangs_141
      simp only [pz_let, nI_1]
    have h137 : jX7_hangs_137 fi se tu tm (nI T) ML (nI k) 1 x3 (nI j) = some (.inr (nI j, nI (j + 1))) := by
      unfold jX7_hangs_137
      exact h141 _
    refine ⟨c, ?_⟩
    unfold bX7_hangs_25 jX7_hangs_55
    try dsimp only
    rw [if_neg (nI_ge c (by omega)), if_neg n0, pz_gd (pz_in (show j < 22 by omega) (by decide)), if_neg n0, pz_gd (pz_in (show j < 21 by omega) (by decide)), nI_clamp (show j < 2 ^ 31 by omega), h141]
    by_cases c1 : fi j = nI k
    · rw [if_pos c1]
      by_cases c2 : x3 < ML j
      · rw [if_pos c2]
        have e2 : x3.toInt < (ML j).toInt := Int32.lt_iff_toInt_lt.mp c2
        unfold jX7_hangs_91
        rcases id i2 with ⟨g1, g2⟩ | ⟨w, g1, g2, g3, g4, g5⟩
        · rw [g1, if_pos (show (-1 : Int32) < 0 by decide), h137]
          exact ⟨_, rfl, rfl, hg_set i2 c1 e2 (fun w hw e => by rw [g1] at e; exact absurd e.symm (pz_m1 (by omega)))⟩
        · rw [g2, if_neg (nI_pos (show w < 2 ^ 31 by omega)), if_neg n0, pz_gd (pz_in (show j < 21 by omega) (by decide)), pz_gd (pz_in (show w < 21 by omega) (by decide)), nI_clamp (show j < 2 ^ 31 by omega), nI_clamp (show w < 2 ^ 31 by omega), h141, h137]
          by_cases c3 : ML w ≤ ML j
          · rw [if_pos c3]
            exact ⟨_, rfl, rfl, hg_keep g1 g3 g4 g5 (Int32.le_iff_toInt_le.mp c3)⟩
          · rw [if_neg c3]
            have e3 := Int32.lt_iff_toInt_lt.mp (Int32.not_le.mp c3)
            refine ⟨_, rfl, rfl, hg_set i2 c1 e2 (fun w' hw' e => ?_)⟩
            have : w = w' := pz_inj (by omega) (by omega) (by rw [← g2, e])
            subst this
            exact Int.le_of_lt e3
      · rw [if_neg c2]
        exact ⟨_, rfl, rfl, hg_skip i2 (fun h => c2 (Int32.lt_iff_toInt_lt.mpr h.2))⟩
    · rw [if_neg c1]
      exact ⟨_, rfl, rfl, hg_skip i2 (fun h => c1 h.1)⟩
  · left
    have e : j = T := by omega
    subst e
    unfold bX7_hangs_25
    try dsimp only
    rw [if_pos (nI_le (Nat.le_refl _) (by omega))]
    exact ⟨_, rfl, i2⟩
theorem hg_a (hT : T ≤ 21) (tu tm : Nat → Int32) (x3 : Int32) : ∃ r, dk_loop (bX7_hangs_25 fi se tu tm (nI T) ML (nI k) 0 x3) 1000 (-1, 0) = some r ∧ hg_N (fun i => se i = nI k) (fun i => - (ML i).toInt) (- x3.toInt) T r := by
  refine pz_fin (body := bX7_hangs_25 fi se tu tm (nI T) ML (nI k) 0 x3) (fun j st => st.2 = nI j ∧ hg_N (fun i => se i = nI k) (fun i => - (ML i).toInt) (- x3.toInt) j st.1) (fun r => hg_N (fun i => se i = nI k) (fun i => - (ML i).toInt) (- x3.toInt) T r) T ?_ 1000 0 (-1, 0) (by omega) ⟨rfl, Or.inl ⟨rfl, fun i hi => absurd hi (by omega)⟩⟩ (by omega)
  rintro j ⟨nx, y⟩ hj ⟨i1, i2⟩
  dsimp only at i1 i2
  subst i1
  have n0 : (0 : Int32) = 0 := rfl
  rcases Nat.lt_or_ge j T with c | c
  · right
    have h141 : ∀ nx, jX7_hangs_141 fi se tu tm (nI T) ML (nI k) 0 x3 nx (nI j) = some (.inr (nx, nI (j + 1))) := fun nx => by
      unfold jX7_hangs_141
      simp only [pz_let, nI_1]
    have h137 : jX7_hangs_137 fi se tu tm (nI T) ML (nI k) 0 x3 (nI j) = some (.inr (nI j, nI (j + 1))) := by
      unfold jX7_hangs_137
      exact h141 _
    refine ⟨c, ?_⟩
    unfold bX7_hangs_25 jX7_hangs_55
    try dsimp only
    rw [if_neg (nI_ge c (by omega)), if_pos n0, pz_gd (pz_in (show j < 22 by omega) (by decide)), if_pos n0, pz_gd (pz_in (show j < 21 by omega) (by decide)), nI_clamp (show j < 2 ^ 31 by omega), h141]
    by_cases c1 : se j = nI k
    · rw [if_pos c1]
      by_cases c2 : ML j < x3
      · rw [if_pos c2]
        have e2 : - x3.toInt < - (ML j).toInt := Int.neg_lt_neg (Int32.lt_iff_toInt_lt.mp c2)
        unfold jX7_hangs_91
        rcases id i2 with ⟨g1, g2⟩ | ⟨w, g1, g2, g3, g4, g5⟩
        · rw [g1, if_pos (show (-1 : Int32) < 0 by decide), h137]
          exact ⟨_, rfl, rfl, hg_set i2 c1 e2 (fun w hw e => by rw [g1] at e; exact absurd e.symm (pz_m1 (by omega)))⟩
        · rw [g2, if_neg (nI_pos (show w < 2 ^ 31 by omega)), if_pos n0, pz_gd (pz_in (show j < 21 by omega) (by decide)), pz_gd (pz_in (show w < 21 by omega) (by decide)), nI_clamp (show j < 2 ^ 31 by omega), nI_clamp (show w < 2 ^ 31 by omega), h141, h137]
          by_cases c3 : ML j ≤ ML w
          · rw [if_pos c3]
            exact ⟨_, rfl, rfl, hg_keep g1 g3 g4 g5 (Int.neg_le_neg (Int32.le_iff_toInt_le.mp c3))⟩
          · rw [if_neg c3]
            have e3 := Int32.lt_iff_toInt_lt.mp (Int32.not_le.mp c3)
            refine ⟨_, rfl, rfl, hg_set i2 c1 e2 (fun w' hw' e => ?_)⟩
            have : w = w' := pz_inj (by omega) (by omega) (by rw [← g2, e])
            subst this
            exact Int.neg_le_neg (Int.le_of_lt e3)
      · rw [if_neg c2]
        exact ⟨_, rfl, rfl, hg_skip i2 (fun h => c2 (Int32.lt_iff_toInt_lt.mpr (Int.neg_lt_neg_iff.mp h.2)))⟩
    · rw [if_neg c1]
      exact ⟨_, rfl, rfl, hg_skip i2 (fun h => c1 h.1)⟩
  · left
    have e : j = T := by omega
    subst e
    unfold bX7_hangs_25
    try dsimp only
    rw [if_pos (nI_le (Nat.le_refl _) (by omega))]
    exact ⟨_, rfl, i2⟩
theorem hg_out (hT : T ≤ 21) (hk : k < 12) {b0 : Nat} {P : Nat → Prop} {ky : Nat → Int} {fl : Int32} (sx : Int32 → Int) (hin : ∀ tu tm x3, ∃ r, dk_loop (bX7_hangs_25 fi se tu tm (nI T) ML (nI k) fl x3) 1000 (-1, 0) = some r ∧ hg_N P ky (sx x3) T r) (hky : ∀ w, w < T → ky w = sx (ML w)) (x0 : Int32) (hx0 : ∀ w, w < T → P w → sx x0 < ky w) (hdist : ∀ i w, i < T → w < T → P i → P w → ky i = ky w → i = w) {ts0 : Nat → Int32} (tu0 : Nat → Int32) (h0 : ts0 k = nI b0) (hroom : ∀ b (B : Nat → Nat), (∀ i, i < b → B i < T ∧ P (B i)) → (∀ i j, i < b → j < b → B i = B j → i = j) → b0 + b ≤ 22) : ∃ b B tu tm, dk_loop (bX7_hangs_14 fi se (nI T) ML (nI k) fl) 1000 (x0, 1, tu0, ts0) = some (tu, tm) ∧ ap_St k b0 ts0 tu0 b B tm tu ∧ er_Ok (fun w => w < T ∧ P w) ky b B := by
  obtain ⟨⟨tu, tm⟩, l1, b, B, l2, l3⟩ := pz_fin (body := bX7_hangs_14 fi se (nI T) ML (nI k) fl) (fun j st => (st.2.1 = 1 ∧ ∃ B, ap_St k b0 ts0 tu0 j B st.2.2.2 st.2.2.1 ∧ er_Ok (fun w => w < T ∧ P w ∧ ky w ≤ sx st.1) ky j B) ∨ (st.2.1 = 0 ∧ ∃ b B, ap_St k b0 ts0 tu0 b B st.2.2.2 st.2.2.1 ∧ er_Ok (fun w => w < T ∧ P w) ky b B)) (fun r => ∃ b B, ap_St k b0 ts0 tu0 b B r.2 r.1 ∧ er_Ok (fun w => w < T ∧ P w) ky b B) (T + 1) (by
    rintro j ⟨x, mo, tu, tm⟩ hj i
    dsimp only at i
    unfold bX7_hangs_14
    try dsimp only
    rcases i with ⟨i1, B, i2, i3⟩ | ⟨i1, b, B, i2, i3⟩
    · right
      subst i1
      have jT : j ≤ T := pz_pigeon T j B (fun i hi => (i3.1 i hi).1) (er_inj i3)
      refine ⟨by omega, ?_⟩
      obtain ⟨r, r1, r2⟩ := hin tu tm x
      rw [if_neg (show ¬ (1 : Int32) = 0 by decide), r1, pz_bs]
      rcases r2 with ⟨e, hno⟩ | ⟨w, w1, w2, w3, w4, w5⟩
      · subst e
        rw [if_pos (show (-1 : Int32) < 0 by decide)]
        unfold jX7_hangs_157
        rw [if_pos rfl]
        exact ⟨_, rfl, Or.inr ⟨rfl, j, B, i2, er_iff i3 (fun v => ⟨fun h => ⟨h.1, h.2.1⟩, fun h => ⟨h.1, h.2, Int.not_lt.mp (hno v h.1 h.2)⟩⟩)⟩⟩
      · subst w2
        have e : er_Ok (fun v => v < T ∧ P v ∧ ky v ≤ ky w) ky (j + 1) (bup B j w) := er_add i3 (fun v => ⟨fun ⟨v1, v2, v3⟩ => by
            by_cases c : ky v ≤ sx x
            · exact Or.inl ⟨v1, v2, c⟩
            · have := w5 v v1 v2 (by omega)
              exact Or.inr (hdist v w v1 w1 v2 w3 (by omega)), fun h => by
            rcases h with ⟨v1, v2, v3⟩ | h
            · exact ⟨v1, v2, by omega⟩
            · rw [h]; exact ⟨w1, w3, Int.le_refl _⟩⟩) (fun v hv => Int.lt_of_le_of_lt hv.2.2 w4)
        have rm := hroom (j + 1) (bup B j w) (fun i hi => ⟨(e.1 i hi).1, (e.1 i hi).2.1⟩) (er_inj e)
        rw [if_neg (nI_pos (show w < 2 ^ 31 by omega))]
        unfold jX7_hangs_157
        rw [if_neg (show ¬ (1 : Int32) = 0 by decide), pz_gd (pz_in hk (by decide)), nI_clamp (show k < 2 ^ 31 by omega), ap_n i2, pz_22', pz_gd (pz_in (show 22 * k + (b0 + j) < 264 by omega) (by decide)), nI_clamp (show 22 * k + (b0 + j) < 2 ^ 31 by omega)]
        simp only [pz_let, nI_1]
        rw [pz_gd (pz_in (show w < 21 by omega) (by decide)), nI_clamp (show w < 2 ^ 31 by omega)]
        refine ⟨_, rfl, Or.inl ⟨rfl, bup B j w, ap_add i2 w, ?_⟩⟩
        try dsimp only
        rw [← hky w w1]
        exact e
    · left
      rw [if_pos i1]
      exact ⟨_, rfl, b, B, i2, i3⟩) 1000 0 (x0, 1, tu0, ts0) (by omega) (Or.inl ⟨rfl, fun _ => 0, ap_0 h0 _, fun i hi => absurd hi (by omega), fun w hw => by
      have := hx0 w hw.1 hw.2.1
      have := hw.2.2
      dsimp only at this
      omega, fun i j _ hj => absurd hj (by omega)⟩) (by omega)
  exact ⟨b, B, tu, tm, l1, l2, l3⟩
end
theorem er_key {P : Nat → Prop} {ky ky' : Nat → Int} {b : Nat} {B : Nat → Nat} (h : er_Ok P ky b B) (hk : ∀ w, P w → ky w = ky' w) : er_Ok P ky' b B := ⟨h.1, h.2.1, fun i j hij hj => by
  rw [← hk _ (h.1 i (by omega)), ← hk _ (h.1 j hj)]
  exact h.2.2 i j hij hj⟩
section
variable {T : Nat} {X Y Z : Nat → Int} {m : Nat} {H : Nat → Int} {kp : Nat → Nat} {g : Nat → Int32} {DL DY DS : Nat → Int32}
theorem hg_dist (q : rq_Ok T X Y Z) {i w : Nat} (hi : i < T) (hw : w < T) (hx : X i = X w) (hy : Y i = Y w ∨ Y i + Z i = Y w + Z w) : i = w := by
  by_cases c : i = w
  · exact c
  · have z1 := q.2.2.1 i hi
    have z2 := q.2.2.1 w hw
    exact (q.2.2.2 i w hi hw c (by omega) (by omega) (by omega) (by omega)).elim
theorem hs_b (q : rq_Ok T X Y Z) (a : rq_At T X Y Z DL DY DS) (hk : kp_Ok T Y Z m H kp g) (hm : m ≤ 12) {k b0 : Nat} (hkm : k < m) {fi se ts : Nat → Int32} (tu : Nat → Int32) (hfi : ∀ w, w < T → fi w = nI (kp (2 * w))) (h0 : ts k = nI b0) (hroom : ∀ b (B : Nat → Nat), (∀ i, i < b → rw_B T kp k (B i)) → (∀ i j, i < b → j < b → B i = B j → i = j) → b0 + b ≤ 22) : ∃ b B tu' ts', fX7_hangs fi se tu ts (nI T) DL (nI k) 1 = some (tu', ts') ∧ ap_St k b0 ts tu b B ts' tu' ∧ er_Ok (rw_B T kp k) X b B := by
  have hT := q.2.1
  have pe : ∀ w, (w < T ∧ fi w = nI k) ↔ rw_B T kp k w := fun w => ⟨fun ⟨h1, h2⟩ => ⟨h1, by
      have := (hk (2 * w) (by omega)).1
      rw [hfi w h1] at h2
      exact pz_inj (by omega) (by omega) h2⟩, fun ⟨h1, h2⟩ => ⟨h1, by rw [hfi w h1, h2]⟩⟩
  obtain ⟨b, B, tu', ts', l1, l2, l3⟩ := hg_out (fi := fi) (se := se) (ML := DL) (k := k) (b0 := b0) (fl := 1) hT (by omega) (fun x => x.toInt) (hg_b hT) (fun w hw => rfl) (-1) (fun w hw _ => by
      have := (q.2.2.1 w hw).1
      try dsimp only
      rw [(a w hw).1]
      have e : ((-1 : Int32)).toInt = -1 := by decide
      omega) (fun i w hi hw h1 h2 h3 => by
      try dsimp only at h3
      rw [(a i hi).1, (a w hw).1] at h3
      have b1 := ((pe i).mp ⟨hi, h1⟩).2
      have b2 := ((pe w).mp ⟨hw, h2⟩).2
      have v1 := (hk (2 * i) (by omega)).2.2
      have v2 := (hk (2 * w) (by omega)).2.2
      rw [ev_0, b1] at v1
      rw [ev_0, b2] at v2
      exact hg_dist q hi hw h3 (by omega)) tu h0 (fun b B h1 h2 => hroom b B (fun i hi => (pe _).mp (h1 i hi)) h2)
  unfold fX7_hangs jX7_hangs_10
  rw [if_neg (show ¬ (1 : Int32) = 0 by decide), l1, pz_bs]
  exact ⟨b, B, _, _, rfl, l2, er_key (er_iff l3 pe) (fun w hw => (a w hw.1).1)⟩
theorem hs_a (q : rq_Ok T X Y Z) (a : rq_At T X Y Z DL DY DS) (hk : kp_Ok T Y Z m H kp g) (hm : m ≤ 12) {k b0 : Nat} (hkm : k < m) {fi se ts : Nat → Int32} (tu : Nat → Int32) (hse : ∀ w, w < T → se w = nI (kp (2 * w + 1))) (h0 : ts k = nI b0) (hroom : ∀ b (B : Nat → Nat), (∀ i, i < b → rw_A T kp k (B i)) → (∀ i j, i < b → j < b → B i = B j → i = j) → b0 + b ≤ 22) : ∃ b B tu' ts', fX7_hangs fi se tu ts (nI T) DL (nI k) 0 = some (tu', ts') ∧ ap_St k b0 ts tu b B ts' tu' ∧ er_Ok (rw_A T kp k) (fun w => - X w) b B := by
  have hT := q.2.1
  have pe : ∀ w, (w < T ∧ se w = nI k) ↔ rw_A T kp k w := fun w => ⟨fun ⟨h1, h2⟩ => ⟨h1, by
      have := (hk (2 * w + 1) (by omega)).1
      rw [hse w h1] at h2
      exact pz_inj (by omega) (by omega) h2⟩, fun ⟨h1, h2⟩ => ⟨h1, by rw [hse w h1, h2]⟩⟩
  obtain ⟨b, B, tu', ts', l1, l2, l3⟩ := hg_out (fi := fi) (se := se) (ML := DL) (k := k) (b0 := b0) (fl := 0) hT (by omega) (fun x => - x.toInt) (hg_a hT) (fun w hw => rfl) 3000000 (fun w hw _ => by
      have z := q.2.2.1 w hw
      try dsimp only
      rw [(a w hw).1]
      have e : ((3000000 : Int32)).toInt = 3000000 := by decide
      omega) (fun i w hi hw h1 h2 h3 => by
      try dsimp only at h3
      rw [(a i hi).1, (a w hw).1] at h3
      have b1 := ((pe i).mp ⟨hi, h1⟩).2
      have b2 := ((pe w).mp ⟨hw, h2⟩).2
      have v1 := (hk (2 * i + 1) (by omega)).2.2
      have v2 := (hk (2 * w + 1) (by omega)).2.2
      rw [ev_1, b1] at v1
      rw [ev_1, b2] at v2
      exact hg_dist q hi hw (by omega) (by omega)) tu h0 (fun b B h1 h2 => hroom b B (fun i hi => (pe _).mp (h1 i hi)) h2)
  unfold fX7_hangs jX7_hangs_10
  rw [if_pos rfl, l1, pz_bs]
  exact ⟨b, B, _, _, rfl, l2, er_key (er_iff l3 pe) (fun w hw => by
    try dsimp only
    rw [(a w hw.1).1])⟩
theorem rr_178 (q : rq_Ok T X Y Z) (a : rq_At T X Y Z DL DY DS) (hk : kp_Ok T Y Z m H kp g) (hm : m ≤ 12) {k : Nat} (hkm : k < m) {fi se : Nat → Int32} (hfi : ∀ w, w < T → fi w = nI (kp (2 * w))) (hse : ∀ w, w < T → se w = nI (kp (2 * w + 1))) (tu ts kc cu wc lh ll lr : Nat → Int32) (wi ba z : Int32) : ∃ s', bX7_read_178 (nI m) wi ba fi se cu wc (nI T) DL DY DS lh ll lr z (nI k, tu, ts, kc) = some (.inr s') ∧ s'.1 = nI (k + 1) ∧ rw_R T X kp m k ts tu s'.2.2.1 s'.2.1 ∧ s'.2.2.2 = upd kc k 0 := by
  have hT := q.2.1
  have hd := kp_ne q hk
  obtain ⟨b, B, tu1, ts1, l1, l2, l3⟩ := hs_b q a hk hm hkm (b0 := 0) (fi := fi) (se := se) (ts := upd ts k 0) tu hfi (tr_u1 _ _ _) (fun b B h1 h2 => by
      have := pz_pigeon T b B (fun i hi => (h1 i hi).1) h2
      omega)
  have bT : b ≤ T := pz_pigeon T b B (fun i hi => (l3.1 i hi).1) (er_inj l3)
  have t1 : ts1 k = nI b := by
    have := ap_n l2
    rw [Nat.zero_add] at this
    exact this
  have e1 : nI m - 1 = nI (m - 1) := by
    obtain ⟨i, rfl⟩ : ∃ i, m = i + 1 := ⟨m - 1, by omega⟩
    rw [nI_sub1, Nat.add_sub_cancel]
  have fin : ∀ ts2 tu2, ts2 k = nI (b + rw_p m k) → ((rw_p m k = 0 ∧ ts2 = ts1 ∧ tu2 = tu1) ∨ (rw_p m k = 1 ∧ ts2 = upd ts1 k (nI (b + 1)) ∧ tu2 = upd tu1 (22 * k + b) (nI T))) → ∃ s', jX7_read_250 (nI m) wi ba fi se cu tu2 ts2 wc (upd kc k 0) (nI T) DL DY DS lh ll lr z (nI k) = some (.inr s') ∧ s'.1 = nI (k + 1) ∧ rw_R T X kp m k ts tu s'.2.2.1 s'.2.1 ∧ s'.2.2.2 = upd kc k 0 := by
    intro ts2 tu2 h2 hp
    obtain ⟨a', A, tu3, ts3, s1, s2, s3⟩ := hs_a q a hk hm hkm (b0 := b + rw_p m k) (fi := fi) (se := se) (ts := ts2) tu2 hse h2 (fun a A h1 h2 => by
      have := rw_room hd l3 a A h1 h2
      have := rw_pp m k
      omega)
    unfold jX7_read_250
    rw [s1, pz_bs]
    simp only [pz_let, nI_1]
    refine ⟨_, rfl, rfl, ?_, rfl⟩
    obtain ⟨t, rh, r1, r2, r3, r4⟩ := rw_mk (m := m) hT hd l2 l3 hp s2 s3
    exact ⟨t, rh, r1, by rw [← up_up ts k 0]; exact r2, r3, r4⟩
  have bat : rw_p m k = 1 → ∃ s', jX7_read_220 (nI m) wi ba fi se cu tu1 ts1 wc (upd kc k 0) (nI T) DL DY DS lh ll lr z (nI k) = some (.inr s') ∧ s'.1 = nI (k + 1) ∧ rw_R T X kp m k ts tu s'.2.2.1 s'.2.1 ∧ s'.2.2.2 = upd kc k 0 := by
    intro p
    unfold jX7_read_220
    rw [pz_gd (pz_in (show k < 12 by omega) (by decide)), nI_clamp (show k < 2 ^ 31 by omega), t1, pz_22', pz_gd (pz_in (show 22 * k + b < 264 by omega) (by decide)), nI_clamp (show 22 * k + b < 2 ^ 31 by omega)]
    simp only [pz_let, nI_1]
    exact fin _ _ (by rw [p, tr_u1]) (Or.inr ⟨p, rfl, rfl⟩)
  unfold bX7_read_178
  try dsimp only
  rw [if_neg (nI_ge hkm (by omega)), pz_gd (pz_in (show k < 12 by omega) (by decide)), nI_clamp (show k < 2 ^ 31 by omega)]
  simp only [pz_let]
  rw [l1, pz_bs, e1]
  try dsimp only
  by_cases c : k = 0
  · rw [if_pos (show nI k = 0 by rw [c]; rfl)]
    exact bat (by unfold rw_p; rw [if_pos (Or.inl c)])
  · rw [if_neg (show ¬ nI k = 0 from nI_ne0 (by omega) (by omega))]
    by_cases c2 : k = m - 1
    · rw [if_pos (show nI k = nI (m - 1) by rw [← c2])]
      exact bat (by unfold rw_p; rw [if_pos (Or.inr c2)])
    · rw [if_neg (show ¬ nI k = nI (m - 1) from fun e => c2 (pz_inj (by omega) (by omega) e))]
      have p : rw_p m k = 0 := by unfold rw_p; rw [if_neg (by omega)]
      exact fin _ _ (by rw [p]; exact t1) (Or.inl ⟨p, rfl, rfl⟩)
theorem rr_rows (q : rq_Ok T X Y Z) (a : rq_At T X Y Z DL DY DS) (hk : kp_Ok T Y Z m H kp g) (hm : m ≤ 12) {fi se : Nat → Int32} (hfi : ∀ w, w < T → fi w = nI (kp (2 * w))) (hse : ∀ w, w < T → se w = nI (kp (2 * w + 1))) (tu ts kc cu wc lh ll lr : Nat → Int32) (wi ba z : Int32) : ∃ tu' ts', dk_loop (bX7_read_178 (nI m) wi ba fi se cu wc (nI T) DL DY DS lh ll lr z) 1000 (0, tu, ts, kc) = some (tu', ts', pz_cp (fun _ => 0) kc m) ∧ rw_All T X kp m m ts' tu' ∧ ∀ k, m ≤ k → ts' k = ts k := by
  have hT := q.2.1
  have hd := kp_ne q hk
  obtain ⟨⟨tu', ts', kc'⟩, l1, l2, l3, l4⟩ := pz_fin (body := bX7_read_178 (nI m) wi ba fi se cu wc (nI T) DL DY DS lh ll lr z) (fun j st => st.1 = nI j ∧ rw_All T X kp m j st.2.2.1 st.2.1 ∧ (∀ k, j ≤ k → st.2.2.1 k = ts k) ∧ st.2.2.2 = pz_cp (fun _ => 0) kc j) (fun r => rw_All T X kp m m r.2.1 r.1 ∧ (∀ k, m ≤ k → r.2.1 k = ts k) ∧ r.2.2 = pz_cp (fun _ => 0) kc m) m (by
    rintro j ⟨x, tu1, ts1, kc1⟩ hj ⟨i1, i2, i3, i4⟩
    dsimp only at i1 i2 i3 i4
    subst i1 i4
    rcases Nat.lt_or_ge j m with c | c
    · right
      obtain ⟨s', l1, l2, l3, l4⟩ := rr_178 q a hk hm c hfi hse tu1 ts1 (pz_cp (fun _ => 0) kc j) cu wc lh ll lr wi ba z
      refine ⟨c, s', l1, l2, rw_next hT hd i2 l3, fun k hk => ?_, by rw [l4]; exact pz_cpS (fun _ => 0) kc j⟩
      obtain ⟨t, rh, r1, r2, r3, r4⟩ := l3
      rw [r2, tr_u2 ts1 _ (show k ≠ j by omega)]
      exact i3 k (by omega)
    · left
      have e : j = m := by omega
      subst e
      unfold bX7_read_178
      try dsimp only
      rw [if_pos (nI_le (Nat.le_refl _) (by omega))]
      exact ⟨_, rfl, i2, i3, rfl⟩) 1000 0 (0, tu, ts, kc) (by omega) ⟨rfl, fun k hk => absurd hk (by omega), fun k _ => rfl, by rw [pz_cp0]⟩ (by omega)
  dsimp only at l2 l3 l4
  subst l4
  exact ⟨tu', ts', l1, l2, l3⟩
theorem rr_56 (hT : T ≤ 21) (a : rq_At T X Y Z DL DY DS) (q : rq_Ok T X Y Z) {lh ll lr : Nat → Int32} (hm : m ≤ 42) (hs : ln_Srt m (tz lh) (tz ll) (tz lr)) (hkl : ∀ e, e < 2 * T → kp e < m ∧ tz lh (kp e) = ed_v Y Z e ∧ tz ll (kp e) ≤ ed_l X e ∧ ed_r X Z e ≤ tz lr (kp e)) (kn wi ba z : Int32) (cu tu ts wc kc fi se : Nat → Int32) : dk_loop (bX7_read_56 kn wi ba cu tu ts wc kc (nI T) DL DY DS lh ll lr z) 1000 (0, fi, se) = some (pz_cp (fun i => nI (kp (2 * i))) fi T, pz_cp (fun i => nI (kp (2 * i + 1))) se T) := by
  obtain ⟨r, l1, l2⟩ := pz_fin (body := bX7_read_56 kn wi ba cu tu ts wc kc (nI T) DL DY DS lh ll lr z) (fun j st => st = (nI j, pz_cp (fun i => nI (kp (2 * i))) fi j, pz_cp (fun i => nI (kp (2 * i + 1))) se j)) (fun r => r = (pz_cp (fun i => nI (kp (2 * i))) fi T, pz_cp (fun i => nI (kp (2 * i + 1))) se T)) T (by
    rintro j st hj rfl
    unfold bX7_read_56
    try dsimp only
    rcases Nat.lt_or_ge j T with c | c
    · right
      have c1 : upd (pz_cp (fun i => nI (kp (2 * i))) fi j) j (nI (kp (2 * j))) = pz_cp (fun i => nI (kp (2 * i))) fi (j + 1) := pz_cpS (fun i => nI (kp (2 * i))) fi j
      have c2 : upd (pz_cp (fun i => nI (kp (2 * i + 1))) se j) j (nI (kp (2 * j + 1))) = pz_cp (fun i => nI (kp (2 * i + 1))) se (j + 1) := pz_cpS (fun i => nI (kp (2 * i + 1))) se j
      obtain ⟨a1, a2, a3⟩ := a j c
      have z := (q.2.2.1 j c).2.2.1
      obtain ⟨k1, k2, k3, k4⟩ := hkl (2 * j) (by omega)
      obtain ⟨g1, g2, g3, g4⟩ := hkl (2 * j + 1) (by omega)
      rw [ev_0] at k2
      rw [ev_1] at g2
      unfold ed_l at k3 g3
      unfold ed_r at k4 g4
      rw [show 2 * j / 2 = j by omega] at k3 k4
      rw [show (2 * j + 1) / 2 = j by omega] at g3 g4
      have f1 : fX7_lineOf lh ll lr (DY j + DS j) (DL j) = some (nI (kp (2 * j))) := lo_1 hm hs k1 (by rw [(rq_top q a c).1]; exact k2) (by omega) (by omega)
      have f2 : fX7_lineOf lh ll lr (DY j) (DL j) = some (nI (kp (2 * j + 1))) := lo_1 hm hs g1 (by rw [a2]; exact g2) (by omega) (by omega)
      rw [if_neg (nI_ge c (by omega)), pz_gd (pz_in (show j < 21 by omega) (by decide)), nI_clamp (show j < 2 ^ 31 by omega), f1, pz_bs, pz_gd (pz_in (show j < 22 by omega) (by decide))]
      simp only [pz_let, nI_1, f2, pz_bs, c1, c2]
      exact ⟨c, _, rfl, rfl⟩
    · left
      have e : j = T := by omega
      subst e
      rw [if_pos (nI_le (Nat.le_refl _) (by omega))]
      exact ⟨_, rfl, rfl⟩) 1000 0 (0, fi, se) (by omega) (by rw [pz_cp0, pz_cp0]; rfl) (by omega)
  rw [l1, l2]
theorem rr_148 (hT : T ≤ 21) (kn ba to z : Int32) (fi se tu ts kc ml my ms lh ll lr cu wc : Nat → Int32) : dk_loop (bX7_read_148 kn (nI (T + 1)) ba fi se tu ts kc to ml my ms lh ll lr z) 1000 (0, cu, wc) = some (pz_cp (fun _ => 0) cu (T + 1), pz_cp (fun _ => 0) wc (T + 1)) := by
  have c5 : vp_nar .boolean 0 = 0 := by decide +kernel
  obtain ⟨r, l1, l2⟩ := pz_fin (body := bX7_read_148 kn (nI (T + 1)) ba fi se tu ts kc to ml my ms lh ll lr z) (fun j st => st = (nI j, pz_cp (fun _ => 0) cu j, pz_cp (fun _ => 0) wc j)) (fun r => r = (pz_cp (fun _ => 0) cu (T + 1), pz_cp (fun _ => 0) wc (T + 1))) (T + 1) (by
    rintro j st hj rfl
    unfold bX7_read_148
    try dsimp only
    rcases Nat.lt_or_ge j (T + 1) with c | c
    · right
      have c3 : upd (pz_cp (fun _ => 0) cu j) j 0 = pz_cp (fun _ => 0) cu (j + 1) := pz_cpS (fun _ => 0) cu j
      have c4 : upd (pz_cp (fun _ => 0) wc j) j 0 = pz_cp (fun _ => 0) wc (j + 1) := pz_cpS (fun _ => 0) wc j
      rw [if_neg (nI_ge c (by omega)), pz_gd (pz_in (show j < 22 by omega) (by decide)), nI_clamp (show j < 2 ^ 31 by omega), c5]
      simp only [pz_let, nI_1, c3, c4]
      exact ⟨c, _, rfl, rfl⟩
    · left
      have e : j = T + 1 := by omega
      subst e
      rw [if_pos (nI_le (Nat.le_refl _) (by omega))]
      exact ⟨_, rfl, rfl⟩) 1000 0 (0, cu, wc) (by omega) (by rw [pz_cp0, pz_cp0]; rfl) (by omega)
  rw [l1, l2]
end

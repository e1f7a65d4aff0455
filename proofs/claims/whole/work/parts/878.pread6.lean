/-! ===== PURE 31f: read, the class makes the net ===== -/
section
variable {T : Nat} {X Y Z : Nat → Int} {m : Nat} {H : Nat → Int} {kp sg : Nat → Nat} {g o : Nat → Int32}
theorem ev_0 (Y Z : Nat → Int) (w : Nat) : ed_v Y Z (2 * w) = Y w + Z w := by unfold ed_v; rw [if_pos (by omega), show 2 * w / 2 = w by omega]
theorem ev_1 (Y Z : Nat → Int) (w : Nat) : ed_v Y Z (2 * w + 1) = Y w := by unfold ed_v; rw [if_neg (by omega), show (2 * w + 1) / 2 = w by omega]
def kp_Ok (T : Nat) (Y Z : Nat → Int) (m : Nat) (H : Nat → Int) (kp : Nat → Nat) (g : Nat → Int32) : Prop := ∀ e, e < 2 * T → kp e < m ∧ g e = nI (kp e) ∧ H (kp e) = ed_v Y Z e
theorem kp_ne (q : rq_Ok T X Y Z) (hk : kp_Ok T Y Z m H kp g) : ∀ w, w < T → kp (2 * w) ≠ kp (2 * w + 1) := by
  intro w hw e
  have h1 := (hk (2 * w) (by omega)).2.2
  have h2 := (hk (2 * w + 1) (by omega)).2.2
  have := (q.2.2.1 w hw).2.2.1
  rw [ev_0, e] at h1
  rw [ev_1] at h2
  omega
theorem sd_lt (q : rq_Ok T X Y Z) (ho : so_Ok X Y Z (2 * T) sg) (hk : kp_Ok T Y Z m H kp g) {p r : Nat} (hpr : p < r) (hr : r < 2 * T) (e1 : sg p % 2 = sg r % 2) (k1 : kp (sg p) = kp (sg r)) : X (sg p / 2) < X (sg r / 2) := by
  have b1 := ho.1 p (by omega)
  have b2 := ho.1 r hr
  obtain ⟨n, le⟩ := ho.2.2 p r hpr hr
  have v1 := (hk _ b1).2.2
  have v2 := (hk _ b2).2.2
  rw [k1, v2] at v1
  have z1 := q.2.2.1 (sg p / 2) (by omega)
  have z2 := q.2.2.1 (sg r / 2) (by omega)
  have ov := q.2.2.2 (sg p / 2) (sg r / 2) (by omega) (by omega) (by omega)
  unfold ed_e ed_l at le
  have le' : X (sg p / 2) ≤ X (sg r / 2) := by omega
  by_cases c : X (sg p / 2) = X (sg r / 2)
  · exfalso
    unfold ed_v at v1
    by_cases e : sg p % 2 = 0
    · rw [if_pos e, if_pos (by omega)] at v1
      exact ov (by omega) (by omega) (by omega) (by omega)
    · rw [if_neg e, if_neg (by omega)] at v1
      exact ov (by omega) (by omega) (by omega) (by omega)
  · omega
theorem lt_all (q : rq_Ok T X Y Z) (ho : so_Ok X Y Z (2 * T) sg) (hO : ∀ p, p < 2 * T → o p = nI (sg p)) (hk : kp_Ok T Y Z m H kp g) (hm : m ≤ 12) {k : Nat} (hkm : k < m) {fi se ts tu : Nat → Int32} (hfi : fi T = 0) (hse : se T = nI (m - 1)) (h0 : ts k = nI 0) : ∃ ts' tu', fX3_layTurn o g (nI T) fi se ts tu (nI T) (nI k) = some (ts', tu') ∧ rw_R T X kp m k ts tu ts' tu' := by
  have hT := q.2.1
  have hd := kp_ne q hk
  obtain ⟨b, B, ts1, tu1, l1, l2, l3⟩ := ap_loop (body := bX3_layTurn_11 o g (nI T) fi se (nI T) (nI k) (nI (2 * T))) (k := k) (b0 := 0) (N := 2 * T) (ts0 := ts) (tu0 := tu) (fun j => nI j) (fun j => kp (sg j) = k ∧ sg j % 2 = 0) (fun j => sg j / 2) (rw_B T kp k) X (by omega) h0 (fun j hj s c ts tu hc ht => by
      obtain ⟨s1, s2⟩ := s
      have b := ho.1 j hj
      obtain ⟨d1, d2, _⟩ := nt_d1 (sg j) (by omega)
      unfold bX3_layTurn_11 jX3_layTurn_60
      try dsimp only
      rw [if_neg (nI_ge hj (by omega)), pz_gd (pz_in (show j < 42 by omega) (by decide)), nI_clamp (show j < 2 ^ 31 by omega), hO j hj, pz_gd (pz_in (show sg j < 42 by omega) (by decide)), nI_clamp (show sg j < 2 ^ 31 by omega), (hk _ b).2.1, s1, if_pos rfl, d2, s2, if_pos (show nI 0 = 0 from rfl), d1, at_1 (show k < 12 by omega) hc ht, pz_bs]
      simp only [pz_let, nI_1]) (fun j hj s ts tu => by
      have b := ho.1 j hj
      obtain ⟨d1, d2, _⟩ := nt_d1 (sg j) (by omega)
      unfold bX3_layTurn_11 jX3_layTurn_60
      try dsimp only at s ⊢
      rw [if_neg (nI_ge hj (by omega)), pz_gd (pz_in (show j < 42 by omega) (by decide)), nI_clamp (show j < 2 ^ 31 by omega), hO j hj, pz_gd (pz_in (show sg j < 42 by omega) (by decide)), nI_clamp (show sg j < 2 ^ 31 by omega), (hk _ b).2.1]
      have kb := (hk _ b).1
      by_cases c1 : kp (sg j) = k
      · have c2 : sg j % 2 = 1 := by
          have : ¬ sg j % 2 = 0 := fun e => s ⟨c1, e⟩
          omega
        rw [c1, if_pos rfl, d2, c2, if_neg (show ¬ nI 1 = 0 by decide)]
        simp only [pz_let, nI_1]
      · rw [if_neg (fun e => c1 (pz_inj (by omega) (by omega) e))]
        simp only [pz_let, nI_1]) (fun ts tu => by
      unfold bX3_layTurn_11
      try dsimp only
      rw [if_pos (nI_le (Nat.le_refl _) (by omega))]) (fun i j hij hj s1 s2 => by
      try dsimp only at s1 s2 ⊢
      exact sd_lt q ho hk hij hj (by omega) (by rw [s1.1, s2.1])) (fun j hj s => by
      try dsimp only at s ⊢
      have b := ho.1 j hj
      refine ⟨by omega, ?_⟩
      rw [show 2 * (sg j / 2) = sg j by omega]
      exact s.1) (fun w hw => by
      obtain ⟨w1, w2⟩ := hw
      obtain ⟨p, p1, p2⟩ := ho.2.1 (2 * w) (by omega)
      refine ⟨p, p1, ?_⟩
      try dsimp only
      rw [p2]
      exact ⟨⟨w2, by omega⟩, by omega⟩) (fun b B h1 h2 => by
      have := pz_pigeon T b B (fun i hi => (h1 i hi).1) h2
      omega)
  have bT : b ≤ T := pz_pigeon T b B (fun i hi => (l3.1 i hi).1) (er_inj l3)
  have t1 : ts1 k = nI b := by
    have := ap_n l2
    rw [Nat.zero_add] at this
    exact this
  have en : fX4_endsAt fi se (nI T) (nI k) = some (nI (rw_p m k)) := by
    unfold fX4_endsAt jX4_endsAt_20
    rw [pz_gd (pz_in (show T < 22 by omega) (by decide)), nI_clamp (show T < 2 ^ 31 by omega), hfi, hse]
    unfold rw_p
    by_cases c : k = 0
    · subst c
      rw [if_pos (show (0 : Int32) = nI 0 from rfl), if_pos (Or.inl rfl)]
      rfl
    · rw [if_neg (show ¬ (0 : Int32) = nI k from fun e => c (pz_inj (a := 0) (by omega) (by omega) e).symm)]
      by_cases c2 : k = m - 1
      · rw [if_pos (show nI (m - 1) = nI k by rw [c2]), if_pos (Or.inr c2)]
        rfl
      · rw [if_neg (show ¬ nI (m - 1) = nI k from fun e => c2 (pz_inj (by omega) (by omega) e).symm), if_neg (show ¬ (k = 0 ∨ k = m - 1) by omega)]
        rfl
  have sec : ∀ ts2 tu2, ts2 k = nI (b + rw_p m k) → ∃ a A ts3 tu3, dk_loop (bX3_layTurn_93 o g (nI T) fi se (nI T) (nI k)) 1000 (nI (2 * T) - 1, ts2, tu2) = some (ts3, tu3) ∧ ap_St k (b + rw_p m k) ts2 tu2 a A ts3 tu3 ∧ er_Ok (rw_A T kp k) (fun w => - X w) a A := by
    intro ts2 tu2 h2
    exact ap_loop (body := bX3_layTurn_93 o g (nI T) fi se (nI T) (nI k)) (k := k) (b0 := b + rw_p m k) (N := 2 * T) (ts0 := ts2) (tu0 := tu2) (fun j => nI (2 * T - j) - 1) (fun j => kp (sg (2 * T - 1 - j)) = k ∧ sg (2 * T - 1 - j) % 2 = 1) (fun j => sg (2 * T - 1 - j) / 2) (rw_A T kp k) (fun w => - X w) (by omega) h2 (fun j hj s c ts tu hc ht => by
      obtain ⟨s1, s2⟩ := s
      try dsimp only
      obtain ⟨i, hi⟩ : ∃ i, 2 * T - j = i + 1 := ⟨2 * T - j - 1, by omega⟩
      rw [show 2 * T - (j + 1) = i by omega]
      rw [show 2 * T - 1 - j = i by omega] at s1 s2 ⊢
      rw [hi, nI_sub1]
      have b := ho.1 i (by omega)
      obtain ⟨d1, d2, _⟩ := nt_d1 (sg i) (by omega)
      unfold bX3_layTurn_93 jX3_layTurn_141
      try dsimp only
      rw [if_neg (nI_pos (by omega)), pz_gd (pz_in (show i < 42 by omega) (by decide)), nI_clamp (show i < 2 ^ 31 by omega), hO i (by omega), pz_gd (pz_in (show sg i < 42 by omega) (by decide)), nI_clamp (show sg i < 2 ^ 31 by omega), (hk _ b).2.1, s1, if_pos rfl, d2, s2, if_pos (show nI 1 = 1 from rfl), d1, at_1 (show k < 12 by omega) hc ht, pz_bs, Int32.sub_eq_add_neg]
      simp only [pz_let]) (fun j hj s ts tu => by
      try dsimp only at s ⊢
      obtain ⟨i, hi⟩ : ∃ i, 2 * T - j = i + 1 := ⟨2 * T - j - 1, by omega⟩
      rw [show 2 * T - (j + 1) = i by omega]
      rw [show 2 * T - 1 - j = i by omega] at s
      rw [hi, nI_sub1]
      have b := ho.1 i (by omega)
      obtain ⟨d1, d2, _⟩ := nt_d1 (sg i) (by omega)
      unfold bX3_layTurn_93 jX3_layTurn_141
      try dsimp only
      rw [if_neg (nI_pos (by omega)), pz_gd (pz_in (show i < 42 by omega) (by decide)), nI_clamp (show i < 2 ^ 31 by omega), hO i (by omega), pz_gd (pz_in (show sg i < 42 by omega) (by decide)), nI_clamp (show sg i < 2 ^ 31 by omega), (hk _ b).2.1, Int32.sub_eq_add_neg]
      have kb := (hk _ b).1
      by_cases c1 : kp (sg i) = k
      · have c2 : sg i % 2 = 0 := by
          have : ¬ sg i % 2 = 1 := fun e => s ⟨c1, e⟩
          omega
        rw [c1, if_pos rfl, d2, c2, if_neg (show ¬ nI 0 = 1 by decide)]
        simp only [pz_let]
      · rw [if_neg (fun e => c1 (pz_inj (by omega) (by omega) e))]
        simp only [pz_let]) (fun ts tu => by
      try dsimp only
      rw [Nat.sub_self]
      unfold bX3_layTurn_93
      try dsimp only
      rw [if_pos (show nI 0 - 1 < 0 by decide)]) (fun i j hij hj s1 s2 => by
      try dsimp only at s1 s2 ⊢
      have := sd_lt q ho hk (show 2 * T - 1 - j < 2 * T - 1 - i by omega) (by omega) (by omega) (by rw [s1.1, s2.1])
      omega) (fun j hj s => by
      try dsimp only at s ⊢
      have b := ho.1 (2 * T - 1 - j) (by omega)
      refine ⟨by omega, ?_⟩
      rw [show 2 * (sg (2 * T - 1 - j) / 2) + 1 = sg (2 * T - 1 - j) by omega]
      exact s.1) (fun w hw => by
      obtain ⟨w1, w2⟩ := hw
      obtain ⟨p, p1, p2⟩ := ho.2.1 (2 * w + 1) (by omega)
      refine ⟨2 * T - 1 - p, by omega, ?_⟩
      try dsimp only
      rw [show 2 * T - 1 - (2 * T - 1 - p) = p by omega, p2]
      exact ⟨⟨w2, by omega⟩, by omega⟩) (fun a A h1 h2 => by
      have := rw_room hd l3 a A h1 h2
      have := rw_pp m k
      omega)
  have l1' : dk_loop (bX3_layTurn_11 o g (nI T) fi se (nI T) (nI k) (nI (2 * T))) 1000 (0, ts, tu) = some (ts1, tu1) := l1
  unfold fX3_layTurn jX3_layTurn_87
  simp only [pz_let, nI_two, l1', pz_bs, en]
  rcases rw_pp m k with p | p
  · obtain ⟨a, A, ts3, tu3, s1, s2, s3⟩ := sec ts1 tu1 (by rw [p]; exact t1)
    rw [p, if_pos (show nI 0 = 0 from rfl), s1, pz_bs]
    exact ⟨_, _, rfl, rw_mk hT hd l2 l3 (Or.inl ⟨p, rfl, rfl⟩) s2 s3⟩
  · obtain ⟨a, A, ts3, tu3, s1, s2, s3⟩ := sec (upd ts1 k (nI (b + 1))) (upd tu1 (22 * k + b) (nI T)) (by rw [p, tr_u1])
    rw [p, if_neg (show ¬ nI 1 = 0 by decide), at_1 (show k < 12 by omega) (show b < 22 by omega) t1, pz_bs]
    try dsimp only
    rw [s1, pz_bs]
    exact ⟨_, _, rfl, rw_mk hT hd l2 l3 (Or.inr ⟨p, rfl, rfl⟩) s2 s3⟩
theorem aw_1 {j : Nat} (hj : j < 22) (fi se cu wc : Nat → Int32) (x y : Int32) : fX4_addWire fi se cu wc (nI j) x y = some (nI j, upd fi j x, upd se j y, upd cu j 0, upd wc j 0, nI (j + 1)) := by
  have c5 : vp_nar .boolean 0 = 0 := by decide +kernel
  unfold fX4_addWire
  rw [pz_gd (pz_in hj (by decide)), nI_clamp (show j < 2 ^ 31 by omega), c5]
  simp only [pz_let, nI_1, nI_sub1]
theorem mn_6 (hm : m ≤ 12) (z w po : Int32) (fi se cu wc tu kc ts : Nat → Int32) : dk_loop (bX3_makeNet_6 o g (nI m) z fi se cu wc tu w po) 1000 (0, kc, ts, 0) = some (pz_cp (fun _ => 0) kc m, pz_cp (fun _ => 0) ts m, nI m) := by
  obtain ⟨r, l1, l2⟩ := pz_fin (body := bX3_makeNet_6 o g (nI m) z fi se cu wc tu w po) (fun j st => st = (nI j, pz_cp (fun _ => 0) kc j, pz_cp (fun _ => 0) ts j, nI j)) (fun r => r = (pz_cp (fun _ => 0) kc m, pz_cp (fun _ => 0) ts m, nI m)) m (by
    rintro j st hj rfl
    unfold bX3_makeNet_6 fX4_addKnot
    try dsimp only
    rcases Nat.lt_or_ge j m with c | c
    · right
      have c1 : upd (pz_cp (fun _ => 0) kc j) j 0 = pz_cp (fun _ => 0) kc (j + 1) := pz_cpS (fun _ => 0) kc j
      have c2 : upd (pz_cp (fun _ => 0) ts j) j 0 = pz_cp (fun _ => 0) ts (j + 1) := pz_cpS (fun _ => 0) ts j
      rw [if_neg (nI_ge c (by omega)), if_neg (show ¬ (12 : Int32) ≤ nI j from nI_ge (b := 12) (by omega) (by decide)), pz_gd (pz_in (show j < 12 by omega) (by decide)), nI_clamp (show j < 2 ^ 31 by omega)]
      simp only [pz_let, nI_1, pz_bs, c1, c2]
      exact ⟨c, _, rfl, rfl⟩
    · left
      have e : j = m := by omega
      subst e
      rw [if_pos (nI_le (Nat.le_refl _) (by omega))]
      exact ⟨_, rfl, rfl⟩) 1000 0 (0, kc, ts, 0) (by omega) (by rw [pz_cp0, pz_cp0]; rfl) (by omega)
  rw [l1, l2]
theorem mn_33 (hT : T ≤ 21) (hk : kp_Ok T Y Z m H kp g) (z po kn : Int32) (kc ts tu fi se cu wc : Nat → Int32) : dk_loop (bX3_makeNet_33 o g z (nI T) kc ts tu kn po) 1000 (0, fi, se, cu, wc, 0) = some (pz_cp (fun i => nI (kp (2 * i))) fi T, pz_cp (fun i => nI (kp (2 * i + 1))) se T, pz_cp (fun _ => 0) cu T, pz_cp (fun _ => 0) wc T, nI T) := by
  obtain ⟨r, l1, l2⟩ := pz_fin (body := bX3_makeNet_33 o g z (nI T) kc ts tu kn po) (fun j st => st = (nI j, pz_cp (fun i => nI (kp (2 * i))) fi j, pz_cp (fun i => nI (kp (2 * i + 1))) se j, pz_cp (fun _ => 0) cu j, pz_cp (fun _ => 0) wc j, nI j)) (fun r => r = (pz_cp (fun i => nI (kp (2 * i))) fi T, pz_cp (fun i => nI (kp (2 * i + 1))) se T, pz_cp (fun _ => 0) cu T, pz_cp (fun _ => 0) wc T, nI T)) T (by
    rintro j st hj rfl
    unfold bX3_makeNet_33
    try dsimp only
    rcases Nat.lt_or_ge j T with c | c
    · right
      have c1 : upd (pz_cp (fun i => nI (kp (2 * i))) fi j) j (nI (kp (2 * j))) = pz_cp (fun i => nI (kp (2 * i))) fi (j + 1) := pz_cpS (fun i => nI (kp (2 * i))) fi j
      have c2 : upd (pz_cp (fun i => nI (kp (2 * i + 1))) se j) j (nI (kp (2 * j + 1))) = pz_cp (fun i => nI (kp (2 * i + 1))) se (j + 1) := pz_cpS (fun i => nI (kp (2 * i + 1))) se j
      have c3 : upd (pz_cp (fun _ => 0) cu j) j 0 = pz_cp (fun _ => 0) cu (j + 1) := pz_cpS (fun _ => 0) cu j
      have c4 : upd (pz_cp (fun _ => 0) wc j) j 0 = pz_cp (fun _ => 0) wc (j + 1) := pz_cpS (fun _ => 0) wc j
      rw [if_neg (nI_ge c (by omega)), nI_two, nI_1 (2 * j), pz_gd (pz_in (show 2 * j < 42 by omega) (by decide)), pz_gd (pz_in (show 2 * j + 1 < 42 by omega) (by decide)), nI_clamp (show 2 * j < 2 ^ 31 by omega), nI_clamp (show 2 * j + 1 < 2 ^ 31 by omega), (hk (2 * j) (by omega)).2.1, (hk (2 * j + 1) (by omega)).2.1, aw_1 (show j < 22 by omega), pz_bs, c1, c2, c3, c4]
      simp only [pz_let, nI_1]
      exact ⟨c, _, rfl, rfl⟩
    · left
      have e : j = T := by omega
      subst e
      rw [if_pos (nI_le (Nat.le_refl _) (by omega))]
      exact ⟨_, rfl, rfl⟩) 1000 0 (0, fi, se, cu, wc, 0) (by omega) (by rw [pz_cp0, pz_cp0, pz_cp0, pz_cp0]; rfl) (by omega)
  rw [l1, l2]
def rw_All (T : Nat) (X : Nat → Int) (kp : Nat → Nat) (m j : Nat) (ts tu : Nat → Int32) : Prop := ∀ k, k < j → ∃ t rh, rw_Ok T X kp m k t rh ∧ ts k = nI t ∧ ∀ i, i < t → tu (22 * k + i) = nI (rh i)
theorem rw_next (hT : T ≤ 21) (hd : ∀ w, w < T → kp (2 * w) ≠ kp (2 * w + 1)) {j : Nat} {ts tu ts' tu' : Nat → Int32} (h : rw_All T X kp m j ts tu) (hR : rw_R T X kp m j ts tu ts' tu') : rw_All T X kp m (j + 1) ts' tu' := by
  obtain ⟨t, rh, r1, r2, r3, r4⟩ := hR
  intro k hk
  by_cases c : k = j
  · subst c
    exact ⟨t, rh, r1, by rw [r2, tr_u1], r3⟩
  · obtain ⟨t', rh', g1, g2, g3⟩ := h k (by omega)
    have := (rw_net hd g1).1
    exact ⟨t', rh', g1, by rw [r2, tr_u2 _ _ c]; exact g2, fun i hi => by rw [r4 _ (by omega)]; exact g3 i hi⟩
theorem mn_87 (q : rq_Ok T X Y Z) (ho : so_Ok X Y Z (2 * T) sg) (hO : ∀ p, p < 2 * T → o p = nI (sg p)) (hk : kp_Ok T Y Z m H kp g) (hm : m ≤ 12) {fi se ts tu : Nat → Int32} (hfi : fi T = 0) (hse : se T = nI (m - 1)) (h0 : ∀ k, k < m → ts k = nI 0) (z w : Int32) (cu wc kc : Nat → Int32) : ∃ ts' tu', dk_loop (bX3_makeNet_87 o g z (nI T) fi se cu wc kc (nI m) w (nI T)) 1000 (0, ts, tu) = some (ts', tu') ∧ rw_All T X kp m m ts' tu' ∧ ∀ k, m ≤ k → ts' k = ts k := by
  have hT := q.2.1
  have hd := kp_ne q hk
  obtain ⟨⟨ts', tu'⟩, l1, l2, l3⟩ := pz_fin (body := bX3_makeNet_87 o g z (nI T) fi se cu wc kc (nI m) w (nI T)) (fun j st => st.1 = nI j ∧ rw_All T X kp m j st.2.1 st.2.2 ∧ ∀ k, j ≤ k → st.2.1 k = ts k) (fun r => rw_All T X kp m m r.1 r.2 ∧ ∀ k, m ≤ k → r.1 k = ts k) m (by
    rintro j ⟨x, ts1, tu1⟩ hj ⟨i1, i2, i3⟩
    dsimp only at i1 i2 i3
    subst i1
    unfold bX3_makeNet_87
    try dsimp only
    rcases Nat.lt_or_ge j m with c | c
    · right
      obtain ⟨ts2, tu2, l1, l2⟩ := lt_all q ho hO hk hm c hfi hse (show ts1 j = nI 0 by rw [i3 j (Nat.le_refl _), h0 j c]) (tu := tu1)
      rw [if_neg (nI_ge c (by omega)), l1, pz_bs]
      simp only [pz_let, nI_1]
      refine ⟨c, _, rfl, rfl, rw_next hT hd i2 l2, fun k hk => ?_⟩
      obtain ⟨t, rh, r1, r2, r3, r4⟩ := l2
      try dsimp only
      rw [r2, tr_u2 ts1 _ (show k ≠ j by omega)]
      exact i3 k (by omega)
    · left
      have e : j = m := by omega
      subst e
      rw [if_pos (nI_le (Nat.le_refl _) (by omega))]
      exact ⟨_, rfl, i2, i3⟩) 1000 0 (0, ts, tu) (by omega) ⟨rfl, fun k hk => absurd hk (by omega), fun k _ => rfl⟩ (by omega)
  exact ⟨ts', tu', l1, l2, l3⟩
theorem mn_all (q : rq_Ok T X Y Z) (ho : so_Ok X Y Z (2 * T) sg) (hO : ∀ p, p < 2 * T → o p = nI (sg p)) (hk : kp_Ok T Y Z m H kp g) (hm : m ≤ 12) (h2 : 2 ≤ m) (fi se cu wc kc ts tu : Nat → Int32) (kn w po : Int32) : ∃ ts' tu', fX3_makeNet o g (nI m) (nI T) fi se cu wc kc ts tu kn w po = some (upd (pz_cp (fun i => nI (kp (2 * i))) fi T) T 0, upd (pz_cp (fun i => nI (kp (2 * i + 1))) se T) T (nI (m - 1)), pz_cp (fun _ => 0) cu (T + 1), pz_cp (fun _ => 0) wc (T + 1), pz_cp (fun _ => 0) kc m, ts', tu', nI m, nI (T + 1), nI T) ∧ rw_All T X kp m m ts' tu' ∧ ∀ k, m ≤ k → ts' k = ts k := by
  have hT := q.2.1
  have c3 : upd (pz_cp (fun _ => 0) cu T) T 0 = pz_cp (fun _ => 0) cu (T + 1) := pz_cpS (fun _ => 0) cu T
  have c4 : upd (pz_cp (fun _ => 0) wc T) T 0 = pz_cp (fun _ => 0) wc (T + 1) := pz_cpS (fun _ => 0) wc T
  have e1 : nI m - 1 = nI (m - 1) := by
    obtain ⟨i, rfl⟩ : ∃ i, m = i + 1 := ⟨m - 1, by omega⟩
    rw [nI_sub1, Nat.add_sub_cancel]
  obtain ⟨ts', tu', l1, l2, l3⟩ := mn_87 q ho hO hk hm (fi := upd (pz_cp (fun i => nI (kp (2 * i))) fi T) T 0) (se := upd (pz_cp (fun i => nI (kp (2 * i + 1))) se T) T (nI (m - 1))) (ts := pz_cp (fun _ => 0) ts m) (tu := tu) (tr_u1 _ _ _) (tr_u1 _ _ _) (fun k hk => by rw [pz_cpl hk]; rfl) (nI m) (nI (T + 1)) (pz_cp (fun _ => 0) cu (T + 1)) (pz_cp (fun _ => 0) wc (T + 1)) (pz_cp (fun _ => 0) kc m)
  unfold fX3_makeNet jX3_makeNet_31 fX4_makeEmpty
  simp only [pz_bs, mn_6 hm, mn_33 hT hk, aw_1 (show T < 22 by omega), c3, c4, e1, l1]
  refine ⟨ts', tu', rfl, l2, fun k hk => ?_⟩
  rw [l3 k hk]
  unfold pz_cp
  rw [if_neg (by omega)]
end

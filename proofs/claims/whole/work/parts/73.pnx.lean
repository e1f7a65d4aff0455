/-! ===== PURE 13: the net in numbers; the dart behind ===== -/
def pl_ix (f : Nat → Nat) (w : Nat) : Nat → Nat
  | 0 => 0
  | t + 1 => if pl_ix f w t < t then pl_ix f w t else if f t = w then t else t + 1
theorem pl_ix_hit (f : Nat → Nat) (w : Nat) : ∀ t i, i < t → f i = w → pl_ix f w t < t ∧ f (pl_ix f w t) = w
  | 0, i, hi, _ => absurd hi (by omega)
  | t + 1, i, hi, h => by
    rw [pl_ix]
    by_cases g : pl_ix f w t < t
    · rw [if_pos g]
      refine ⟨by omega, ?_⟩
      have key : ∀ t, pl_ix f w t < t → f (pl_ix f w t) = w := by
        intro t
        induction t with
        | zero => intro h; omega
        | succ t ih =>
          intro h
          rw [pl_ix] at h ⊢
          by_cases g : pl_ix f w t < t
          · rw [if_pos g]; exact ih g
          · rw [if_neg g] at h ⊢
            by_cases g2 : f t = w
            · rw [if_pos g2]; exact g2
            · rw [if_neg g2] at h; omega
      exact key t g
    · rw [if_neg g]
      by_cases q : i = t
      · subst q
        rw [if_pos h]
        exact ⟨by omega, h⟩
      · exact absurd (pl_ix_hit f w t i (by omega) h).1 g
/-- knots, wires, turns in numbers -/
def nt_Ok (K n : Nat) (a b t : Nat → Nat) (u : Nat → Nat → Nat) : Prop :=
  (∀ w, w < n → a w < K ∧ b w < K ∧ a w ≠ b w) ∧ (∀ k, k < K → ∀ i, i < t k → u k i < n ∧ (a (u k i) = k ∨ b (u k i) = k)) ∧
  (∀ k, k < K → ∀ i j, i < t k → j < t k → u k i = u k j → i = j) ∧ (∀ k, k < K → ∀ w, w < n → (a w = k ∨ b w = k) → ∃ i, i < t k ∧ u k i = w)
def nt_Is (K n : Nat) (a b t : Nat → Nat) (u : Nat → Nat → Nat) (fi se ts tu : Nat → Int32) : Prop :=
  (∀ w, w < n → fi w = nI (a w) ∧ se w = nI (b w)) ∧ (∀ k, k < K → t k ≤ n ∧ ts k = nI (t k)) ∧ (∀ k, k < K → ∀ i, i < t k → tu (22 * k + i) = nI (u k i))
def pl_nw (t : Nat → Nat) (u : Nat → Nat → Nat) (k w : Nat) : Nat := u k (if pl_ix (u k) w (t k) + 1 < t k then pl_ix (u k) w (t k) + 1 else 0)
def pl_nx (a b t : Nat → Nat) (u : Nat → Nat → Nat) (d : Nat) : Nat := pl_out a (pl_en a b d) (pl_nw t u (pl_en a b d) (d / 2))
section
variable {K n : Nat} {a b t : Nat → Nat} {u : Nat → Nat → Nat}
theorem nt_en (h : nt_Ok K n a b t u) {d : Nat} (hd : d < 2 * n) : pl_en a b d < K ∧ (a (d / 2) = pl_en a b d ∨ b (d / 2) = pl_en a b d) := by
  obtain ⟨h1, h2, _⟩ := h.1 (d / 2) (by omega)
  unfold pl_en
  by_cases g : d % 2 = 0
  · rw [if_pos g]; exact ⟨h2, Or.inr rfl⟩
  · rw [if_neg g]; exact ⟨h1, Or.inl rfl⟩
theorem nt_out (h : nt_Ok K n a b t u) {k w : Nat} (hw : w < n) (hk : a w = k ∨ b w = k) : pl_out a k w < 2 * n ∧ pl_st a b (pl_out a k w) = k ∧ pl_out a k w / 2 = w := by
  unfold pl_out
  by_cases g : a w = k
  · rw [if_pos g, pl_st0]
    exact ⟨by omega, g, by omega⟩
  · rw [if_neg g, pl_st1]
    exact ⟨by omega, hk.resolve_left g, by omega⟩
theorem nt_nw (h : nt_Ok K n a b t u) {k w : Nat} (hk : k < K) (hw : w < n) (hkw : a w = k ∨ b w = k) : ∃ i, i < t k ∧ u k i = w ∧ pl_ix (u k) w (t k) = i ∧ pl_nw t u k w = u k (if i + 1 < t k then i + 1 else 0) := by
  obtain ⟨i, h1, h2⟩ := h.2.2.2 k hk w hw hkw
  obtain ⟨h3, h4⟩ := pl_ix_hit (u k) w (t k) i h1 h2
  exact ⟨_, h3, h4, rfl, rfl⟩
theorem nt_nx (h : nt_Ok K n a b t u) {d : Nat} (hd : d < 2 * n) : pl_nx a b t u d < 2 * n ∧ pl_st a b (pl_nx a b t u d) = pl_en a b d ∧ pl_nx a b t u d / 2 = pl_nw t u (pl_en a b d) (d / 2) := by
  obtain ⟨e1, e2⟩ := nt_en h hd
  obtain ⟨i, h1, h2, _, h3⟩ := nt_nw h e1 (show d / 2 < n by omega) e2
  have hi : (if i + 1 < t (pl_en a b d) then i + 1 else 0) < t (pl_en a b d) := by
    by_cases g : i + 1 < t (pl_en a b d)
    · rw [if_pos g]; exact g
    · rw [if_neg g]; omega
  obtain ⟨w1, w2⟩ := h.2.1 _ e1 _ hi
  have := nt_out h w1 w2
  unfold pl_nx
  rw [h3]
  exact this
theorem nt_inj (h : nt_Ok K n a b t u) {d e : Nat} (hd : d < 2 * n) (he : e < 2 * n) (hde : pl_nx a b t u d = pl_nx a b t u e) : d = e := by
  obtain ⟨d1, d2, d3⟩ := nt_nx h hd
  obtain ⟨e1, e2, e3⟩ := nt_nx h he
  rw [hde] at d2 d3
  have hk : pl_en a b d = pl_en a b e := by rw [← d2, e2]
  have hw : pl_nw t u (pl_en a b d) (d / 2) = pl_nw t u (pl_en a b e) (e / 2) := by rw [← d3, e3]
  obtain ⟨k1, k2⟩ := nt_en h hd
  obtain ⟨k3, k4⟩ := nt_en h he
  obtain ⟨i, i1, i2, _, i3⟩ := nt_nw h k1 (show d / 2 < n by omega) k2
  obtain ⟨j, j1, j2, _, j3⟩ := nt_nw h k3 (show e / 2 < n by omega) k4
  rw [i3, j3, hk] at hw
  rw [hk] at i1 i2
  have hx : ∀ i, i < t (pl_en a b e) → (if i + 1 < t (pl_en a b e) then i + 1 else 0) < t (pl_en a b e) := fun i hi => by
    by_cases g : i + 1 < t (pl_en a b e)
    · rw [if_pos g]; exact g
    · rw [if_neg g]; omega
  have hij := h.2.2.1 _ k3 _ _ (hx i i1) (hx j j1) hw
  have ij : i = j := by
    by_cases g : i + 1 < t (pl_en a b e)
    · rw [if_pos g] at hij
      by_cases g2 : j + 1 < t (pl_en a b e)
      · rw [if_pos g2] at hij; omega
      · rw [if_neg g2] at hij; omega
    · rw [if_neg g] at hij
      by_cases g2 : j + 1 < t (pl_en a b e)
      · rw [if_pos g2] at hij; omega
      · omega
  subst ij
  have w0 : d / 2 = e / 2 := by rw [← i2, j2]
  -- the same wire, coming to the same knot
  have ne := (h.1 (d / 2) (by omega)).2.2
  unfold pl_en at hk
  rw [w0] at hk ne
  by_cases g1 : d % 2 = 0
  · by_cases g2 : e % 2 = 0
    · omega
    · rw [if_pos g1, if_neg g2] at hk
      exact absurd hk.symm ne
  · by_cases g2 : e % 2 = 0
    · rw [if_neg g1, if_pos g2] at hk
      exact absurd hk ne
    · omega
theorem nt_d1 : ∀ d, d < 44 → (nI d >>> ((1 : Int32) &&& 31)) = nI (d / 2) ∧ (nI d &&& 1) = nI (d % 2) ∧ nI d / 2 = nI (d / 2) ∧ nI d - nI d / 2 * 2 = nI (d % 2) := by decide
theorem nt_mod {d : Nat} : (nI (d % 2) = 0) ↔ d % 2 = 0 := by
  constructor
  · intro h
    exact pz_inj (by omega) (by decide) h
  · intro h
    rw [h]
    rfl
variable {fi se ts tu : Nat → Int32}
theorem nt_dart (w : Nat) (k : Nat) (hw : w < 22) (hk : k < 12) (h : ∀ w, w < n → a w < K ∧ b w < K ∧ a w ≠ b w) (hK : K ≤ 12) (hwn : w < n) (hf : fi w = nI (a w)) : (if fi w = nI k then some (2 * nI w) else some (2 * nI w + 1)) = some (nI (pl_out a k w)) := by
  unfold pl_out
  have e0 : (2 : Int32) * nI w = nI (2 * w) := pk_mul 2 w
  have ha := (h w hwn).1
  by_cases g : a w = k
  · rw [if_pos g, if_pos (by rw [hf, g]), e0]
  · rw [if_neg g, if_neg (by rw [hf]; exact pz_nz (by omega) (by omega) g), e0, nI_1]
theorem nt_spot {k w : Nat} {v : Int32} (h : nt_Ok K n a b t u) (hs : nt_Is K n a b t u fi se ts tu) (hn : n ≤ 22) (hk : k < K) (hw : w < n) (hkw : a w = k ∨ b w = k) (hv : pz_isSpot tu k (t k) (nI w) v) : v = nI (pl_ix (u k) w (t k)) := by
  obtain ⟨i, h1, h2, h3, _⟩ := nt_nw h hk hw hkw
  rw [h3]
  rcases hv with ⟨j, j1, j2, j3, _⟩ | ⟨_, j2⟩
  · rw [j3]
    rw [hs.2.2 k hk j j1] at j2
    have := pz_inj (by have := (h.2.1 k hk j j1).1; omega) (by omega) j2
    rw [h.2.2.1 k hk j i j1 h1 (by rw [this, h2])]
  · exact absurd (by rw [hs.2.2 k hk i h1, h2]) (j2 i h1)
theorem nt_beh4 (h : nt_Ok K n a b t u) (hs : nt_Is K n a b t u fi se ts tu) (hK : K ≤ 12) (hn : n ≤ 22) {d : Nat} (hd : d < 2 * n) : fX4_dartBehind fi se ts tu (nI d) = some (nI (pl_nx a b t u d)) := by
  obtain ⟨e1, e2⟩ := nt_en h hd
  obtain ⟨i, i1, i2, i3, i4⟩ := nt_nw h e1 (show d / 2 < n by omega) e2
  obtain ⟨tn, tk⟩ := hs.2.1 _ e1
  have hi : (if i + 1 < t (pl_en a b d) then i + 1 else 0) < t (pl_en a b d) := by
    by_cases g : i + 1 < t (pl_en a b d)
    · rw [if_pos g]; exact g
    · rw [if_neg g]; omega
  obtain ⟨w1, w2⟩ := h.2.1 _ e1 _ hi
  have step : jX4_dartBehind_25 fi se ts tu (nI (d / 2)) (nI (pl_en a b d)) = some (nI (pl_nx a b t u d)) := by
    unfold jX4_dartBehind_25
    obtain ⟨v, v1, v2⟩ := pz_spot4 (ts := ts) (tu := tu) (show pl_en a b d < 12 by omega) tk (by omega) (nI (d / 2))
    have v3 := nt_spot h hs hn e1 (show d / 2 < n by omega) e2 v2
    rw [v1, pz_bs, pz_let, v3, i3, nI_1, pz_gd (pz_in (show pl_en a b d < 12 by omega) (by decide)), nI_clamp (by omega), tk]
    have j55 : ∀ j, j < t (pl_en a b d) → jX4_dartBehind_55 fi se ts tu (nI (pl_en a b d)) (nI (pl_en a b d)) (nI j) = some (nI (pl_out a (pl_en a b d) (u (pl_en a b d) j))) := by
      intro j hj
      obtain ⟨x1, x2⟩ := h.2.1 _ e1 _ hj
      unfold jX4_dartBehind_55 fX4_wireInTurn
      rw [pz_22, pz_gd (pz_in (show 22 * pl_en a b d + j < 264 by omega) (by decide)), pz_bs, nI_clamp (by omega), hs.2.2 _ e1 j hj, pz_gd (pz_in (by omega) (by decide)), nI_clamp (by omega)]
      exact nt_dart (u (pl_en a b d) j) (pl_en a b d) (by omega) (by omega) h.1 hK x1 (hs.1 _ x1).1
    unfold pl_nx
    rw [i4]
    by_cases g : i + 1 < t (pl_en a b d)
    · rw [if_neg (nI_ge g (by omega)), if_pos g]
      exact j55 (i + 1) g
    · rw [if_pos (nI_le (by omega) (by omega)), if_neg g]
      exact j55 0 (by omega)
  obtain ⟨d1, d2, _, _⟩ := nt_d1 d (by omega)
  unfold fX4_dartBehind
  rw [d1, d2, pz_let]
  obtain ⟨f1, f2⟩ := hs.1 (d / 2) (by omega)
  by_cases g : d % 2 = 0
  · rw [if_pos (nt_mod.mpr g), pz_gd (pz_in (show d / 2 < 22 by omega) (by decide)), nI_clamp (by omega), f2]
    have : pl_en a b d = b (d / 2) := if_pos g
    rw [this] at step
    exact step
  · rw [if_neg (fun q => g (nt_mod.mp q)), pz_gd (pz_in (show d / 2 < 22 by omega) (by decide)), nI_clamp (by omega), f1]
    have : pl_en a b d = a (d / 2) := if_neg g
    rw [this] at step
    exact step
theorem nt_beh7 (h : nt_Ok K n a b t u) (hs : nt_Is K n a b t u fi se ts tu) (hK : K ≤ 12) (hn : n ≤ 22) {d : Nat} (hd : d < 2 * n) : fX7_behind fi se tu ts (nI d) = some (nI (pl_nx a b t u d)) := by
  obtain ⟨e1, e2⟩ := nt_en h hd
  obtain ⟨i, i1, i2, i3, i4⟩ := nt_nw h e1 (show d / 2 < n by omega) e2
  obtain ⟨tn, tk⟩ := hs.2.1 _ e1
  obtain ⟨_, _, d3, d4⟩ := nt_d1 d (by omega)
  obtain ⟨f1, f2⟩ := hs.1 (d / 2) (by omega)
  have c : fX7_comesTo fi se (nI d) = some (nI (pl_en a b d)) := by
    unfold fX7_comesTo
    rw [d4, d3, pz_gd (pz_in (show d / 2 < 22 by omega) (by decide)), nI_clamp (by omega), f1, f2, pz_gd (pz_in (show d / 2 < 22 by omega) (by decide))]
    unfold pl_en
    by_cases g : d % 2 = 0
    · rw [if_pos (nt_mod.mpr g), if_pos g]
    · rw [if_neg (fun q => g (nt_mod.mp q)), if_neg g]
  obtain ⟨v, v1, v2⟩ := pz_spot7 (ts := ts) (tu := tu) (show pl_en a b d < 12 by omega) tk (by omega) (nI (d / 2))
  have v3 := nt_spot h hs hn e1 (show d / 2 < n by omega) e2 v2
  unfold fX7_behind
  rw [c, pz_bs, d3, v1, pz_bs, pz_let, v3, i3, nI_1, pz_gd (pz_in (show pl_en a b d < 12 by omega) (by decide)), nI_clamp (show pl_en a b d < 2 ^ 31 by omega), tk]
  have j40 : ∀ j, j < t (pl_en a b d) → jX7_behind_40 fi se tu ts (nI (pl_en a b d)) (22 * nI (pl_en a b d)) (nI j) = some (nI (pl_out a (pl_en a b d) (u (pl_en a b d) j))) := by
    intro j hj
    obtain ⟨x1, x2⟩ := h.2.1 _ e1 _ hj
    unfold jX7_behind_40
    rw [pz_22', pz_gd (pz_in (show 22 * pl_en a b d + j < 264 by omega) (by decide)), pz_let, nI_clamp (by omega), hs.2.2 _ e1 j hj, pz_gd (pz_in (by omega) (by decide)), nI_clamp (by omega)]
    exact nt_dart (u (pl_en a b d) j) (pl_en a b d) (by omega) (by omega) h.1 hK x1 (hs.1 _ x1).1
  unfold pl_nx
  rw [i4]
  by_cases g : i + 1 < t (pl_en a b d)
  · rw [if_neg (pz_nz (by omega) (by omega) (by omega)), if_pos g]
    exact j40 (i + 1) g
  · rw [if_pos (by congr 1; omega), if_neg g]
    exact j40 0 (by omega)
theorem nt_cnt {k : Nat} : ∀ m, pz_cnt fi se (nI k) m = ds_cnt m (fun w => decide (fi w = nI k ∨ se w = nI k))
  | 0 => rfl
  | m + 1 => by
    rw [pz_cnt, ds_cnt, nt_cnt m]
    by_cases g : fi m = nI k ∨ se m = nI k
    · rw [if_pos g, decide_eq_true g, if_pos rfl]
    · rw [if_neg g, decide_eq_false g]
      rfl
/-- from the invariant's net, its turns whole -/
theorem nt_of {cu : Nat → Int32} {po : Int32} (ok : NetOk K n fi se cu ts tu po) (hw : pz_whole fi se ts K n) : ∃ (a b t : Nat → Nat) (u : Nat → Nat → Nat), nt_Ok K n a b t u ∧ nt_Is K n a b t u fi se ts tu := by
  obtain ⟨o1, o2, _, o4, _, o6⟩ := ok
  have fA : ∀ w, w < n → (fi w).toNatClampNeg < K ∧ (se w).toNatClampNeg < K ∧ (fi w).toNatClampNeg ≠ (se w).toNatClampNeg ∧ fi w = nI (fi w).toNatClampNeg ∧ se w = nI (se w).toNatClampNeg := by
    intro w h
    obtain ⟨a, b, h1, h2, h3, h4, h5⟩ := o4 w h
    rw [h4, h5, nI_clamp (by omega), nI_clamp (by omega)]
    exact ⟨h1, h2, h3, rfl, rfl⟩
  have fT : ∀ k, k < K → (ts k).toNatClampNeg ≤ n ∧ ts k = nI (ts k).toNatClampNeg ∧ (∀ i, i < (ts k).toNatClampNeg → ∃ w, w < n ∧ tu (22 * k + i) = nI w ∧ (fi w = nI k ∨ se w = nI k)) ∧ (∀ i j, i < (ts k).toNatClampNeg → j < (ts k).toNatClampNeg → tu (22 * k + i) = tu (22 * k + j) → i = j) := by
    intro k hk
    obtain ⟨t, t1, t2, t3, t4⟩ := o6 k hk
    rw [t2, nI_clamp (by omega)]
    exact ⟨t1, rfl, t3, t4⟩
  have fU : ∀ k, k < K → ∀ i, i < (ts k).toNatClampNeg → (tu (22 * k + i)).toNatClampNeg < n ∧ tu (22 * k + i) = nI (tu (22 * k + i)).toNatClampNeg ∧ (fi (tu (22 * k + i)).toNatClampNeg = nI k ∨ se (tu (22 * k + i)).toNatClampNeg = nI k) := by
    intro k hk i hi
    obtain ⟨w, w1, w2, w3⟩ := (fT k hk).2.2.1 i hi
    rw [w2, nI_clamp (by omega)]
    exact ⟨w1, rfl, w3⟩
  have at_k : ∀ w k, w < n → k < K → ((fi w = nI k ∨ se w = nI k) ↔ ((fi w).toNatClampNeg = k ∨ (se w).toNatClampNeg = k)) := by
    intro w k h1 h2
    obtain ⟨a1, a2, _, a4, a5⟩ := fA w h1
    constructor
    · intro h
      rcases h with h | h
      · left; rw [h, nI_clamp (by omega)]
      · right; rw [h, nI_clamp (by omega)]
    · intro h
      rcases h with h | h
      · left; rw [a4, h]
      · right; rw [a5, h]
  refine ⟨fun w => (fi w).toNatClampNeg, fun w => (se w).toNatClampNeg, fun k => (ts k).toNatClampNeg, fun k i => (tu (22 * k + i)).toNatClampNeg, ⟨fun w h => ⟨(fA w h).1, (fA w h).2.1, (fA w h).2.2.1⟩, fun k hk i hi => ⟨(fU k hk i hi).1, (at_k _ k (fU k hk i hi).1 hk).mp (fU k hk i hi).2.2⟩, fun k hk i j hi hj e => ?_, fun k hk w hwn hwk => ?_⟩, fun w h => ⟨(fA w h).2.2.2.1, (fA w h).2.2.2.2⟩, fun k hk => ⟨(fT k hk).1, (fT k hk).2.1⟩, fun k hk i hi => (fU k hk i hi).2.1⟩
  · refine (fT k hk).2.2.2 i j hi hj ?_
    rw [(fU k hk i hi).2.1, (fU k hk j hj).2.1]
    exact congrArg nI e
  · refine Classical.byContradiction (fun hno => ?_)
    have hc : ds_cnt n (fun w => decide (fi w = nI k ∨ se w = nI k)) = (ts k).toNatClampNeg := by
      have q := hw k hk
      rw [nt_cnt] at q
      have le := ds_cnt_le (fun w => decide (fi w = nI k ∨ se w = nI k)) n
      rw [← q, nI_clamp (by omega)]
    have o := ds_cnt_off (fun w => decide (fi w = nI k ∨ se w = nI k)) w (decide_eq_true ((at_k w k hwn hk).mpr hwk)) n hwn
    have ge := ds_cnt_ge (ts k).toNatClampNeg n (ds_off (fun w => decide (fi w = nI k ∨ se w = nI k)) w) (fun i => (tu (22 * k + i)).toNatClampNeg) (fun i hi => ⟨(fU k hk i hi).1, by
      unfold ds_off
      dsimp only
      rw [if_neg (fun e => hno ⟨i, hi, e⟩)]
      exact decide_eq_true (fU k hk i hi).2.2⟩) (fun i j hi hj e => (fT k hk).2.2.2 i j hi hj (by
        rw [(fU k hk i hi).2.1, (fU k hk j hj).2.1]
        exact congrArg nI e))
    omega
end

/-! ===== BAR: the reference's determinant, as numbers ===== -/
theorem ds_swp (m p q : Nat) (A : Nat → Nat → Int) (hp : p < m) (hq : q < m) (hn : p ≠ q) : ds_det m (ds_sw A p q) = - ds_det m A := by
  have two : ∀ x y : Nat → Int, ds_det m (ds_set (ds_set A p x) q y) = ds_det m (ds_set (ds_set A q y) p x) := fun x y => ds_det_congr m (fun r c _ _ => by
    unfold ds_set
    by_cases g : r = q
    · rw [if_pos g, if_neg (show ¬ r = p by omega), if_pos g]
    · rw [if_neg g]
      by_cases g2 : r = p
      · rw [if_pos g2, if_pos g2]
      · rw [if_neg g2, if_neg g2, if_neg g])
  have same : ∀ x : Nat → Int, ds_det m (ds_set (ds_set A p x) q x) = 0 := fun x => ds_alike m p q _ hp hq hn (fun c _ => by
    unfold ds_set
    rw [if_neg hn, if_pos rfl, if_pos rfl])
  have l1 : ∀ x y z : Nat → Int, ds_det m (ds_set (ds_set A p x) q (fun c => 1 * y c + 1 * z c)) = 1 * ds_det m (ds_set (ds_set A p x) q y) + 1 * ds_det m (ds_set (ds_set A p x) q z) := fun x y z => ds_det_lin m q (ds_set A p x) y z 1 1 hq
  have l2 : ∀ x y z : Nat → Int, ds_det m (ds_set (ds_set A p (fun c => 1 * y c + 1 * z c)) q x) = 1 * ds_det m (ds_set (ds_set A p y) q x) + 1 * ds_det m (ds_set (ds_set A p z) q x) := fun x y z => by
    rw [two, two, two]
    exact ds_det_lin m p (ds_set A q x) y z 1 1 hp
  have e := same (fun c => 1 * A p c + 1 * A q c)
  rw [l1, l2, l2, same, same] at e
  have e1 : ds_det m (ds_set (ds_set A p (A p)) q (A q)) = ds_det m A := ds_det_congr m (fun r c _ _ => by
    unfold ds_set
    by_cases g : r = q
    · rw [if_pos g, g]
    · rw [if_neg g]
      by_cases g2 : r = p
      · rw [if_pos g2, g2]
      · rw [if_neg g2])
  have e2 : ds_det m (ds_set (ds_set A p (A q)) q (A p)) = ds_det m (ds_sw A p q) := ds_det_congr m (fun r c _ _ => by
    unfold ds_set ds_sw
    by_cases g : r = q
    · rw [if_pos g, if_neg (show ¬ r = p by omega), if_pos g]
    · rw [if_neg g]
      by_cases g2 : r = p
      · rw [if_pos g2, if_pos g2]
      · rw [if_neg g2, if_neg g2, if_neg g])
  rw [e1, e2] at e
  omega
def ba_g (i r x : Nat) : Nat := if x < i then x else r
/-- the bordered minor -/
def ba_br (i : Nat) (P : Nat → Nat → Int) (r c : Nat) : Int := ds_det (i + 1) (fun x y => P (ba_g i r x) (ba_g i c y))
theorem ba_val (N j : Nat) (P : Nat → Nat → Int) (r c : Nat) (T : Nat → Int) (σ τ : Int) (k : Nat → Int) (hj : j ≤ c) (hc : c < N) (hT : ∀ c, c < N → σ * T c = τ * P r c + ds_sum j (fun l => k l * P l c)) (h0 : ∀ c, c < j → T c = 0) : σ * T c * ds_det j P = τ * ba_br j P r c := by
  let X : Nat → Nat → Int := fun x y => P (ba_g j r x) (ba_g j c y)
  have e1 : ds_det (j + 1) (ds_set X j (fun y => σ * T (ba_g j c y))) = σ * T c * ds_det j P := by
    rw [ds_det_last j _ (fun y hy => by
      unfold ds_set
      rw [if_pos rfl]
      unfold ba_g
      dsimp only
      rw [if_pos hy, h0 y hy, Int.mul_zero])]
    have a1 : ds_set X j (fun y => σ * T (ba_g j c y)) j j = σ * T c := by
      unfold ds_set
      rw [if_pos rfl]
      unfold ba_g
      dsimp only
      rw [if_neg (by omega)]
    rw [a1]
    congr 1
    refine ds_det_congr j (fun x y hx hy => ?_)
    unfold ds_set
    rw [if_neg (by omega)]
    show P (ba_g j r x) (ba_g j c y) = P x y
    unfold ba_g
    rw [if_pos hx, if_pos hy]
  have e2 : ds_det (j + 1) (ds_set X j (fun y => σ * T (ba_g j c y))) = τ * ds_det (j + 1) X := by
    have l := ds_det_lin (j + 1) j X (X j) (fun y => ds_sum j (fun l => k l * X l y)) τ 1 (by omega)
    rw [ds_set_self, ds_det_sum (j + 1) j X (by omega) k X j] at l
    have z : ds_sum j (fun l => k l * ds_det (j + 1) (ds_set X j (X l))) = 0 := by
      rw [← ds_zero j]
      exact ds_congr (fun l hl => by rw [ds_set_row (j + 1) l j X (by omega) (by omega) (by omega), Int.mul_zero])
    rw [z, Int.mul_zero, Int.add_zero] at l
    rw [← l]
    refine ds_det_congr (j + 1) (fun x y hx hy => ?_)
    unfold ds_set
    by_cases g : x = j
    · rw [if_pos g, if_pos g]
      have hyN : ba_g j c y < N := by
        unfold ba_g
        by_cases q : y < j
        · rw [if_pos q]; omega
        · rw [if_neg q]; exact hc
      show σ * T (ba_g j c y) = τ * P (ba_g j r j) (ba_g j c y) + 1 * ds_sum j (fun l => k l * P (ba_g j r l) (ba_g j c y))
      rw [hT _ hyN, Int.one_mul, show ba_g j r j = r from if_neg (by omega)]
      congr 1
      refine ds_congr (fun l hl => ?_)
      rw [show ba_g j r l = l from if_pos hl]
    · rw [if_neg g, if_neg g]
  rw [← e1, e2]
  rfl
def ba_inv (N : Nat) (T0 : Nat → Nat → Int) (i : Nat) (P V : Nat → Nat → Int) : Prop :=
  ds_det i P ≠ 0 ∧ (∃ π : Nat → Nat, (∀ r, r < N → π r < N) ∧ (∀ a b, a < N → b < N → π a = π b → a = b) ∧ ∀ r c, P r c = T0 (π r) c) ∧
  ∀ r, i ≤ r → r < N → (∀ c, c < i → V r c = 0) ∧ ∃ s : Int, s ≠ 0 ∧ ∃ k : Nat → Int, ∀ c, c < N → s * V r c = s * ds_det i P * P r c + ds_sum i (fun l => k l * P l c)
theorem ba_0 (N : Nat) (T0 : Nat → Nat → Int) : ba_inv N T0 0 T0 T0 := by
  refine ⟨by rw [show ds_det 0 T0 = 1 from rfl]; decide, ⟨fun r => r, fun _ h => h, fun _ _ _ _ h => h, fun _ _ => rfl⟩, fun r _ _ => ⟨fun c hc => absurd hc (by omega), 1, by decide, fun _ => 0, fun c _ => ?_⟩⟩
  rw [show ds_det 0 T0 = 1 from rfl]
  show 1 * T0 r c = 1 * 1 * T0 r c + 0
  omega
theorem ba_br_val {N i : Nat} {T0 P V : Nat → Nat → Int} (h : ba_inv N T0 i P V) {r c : Nat} (h1 : i ≤ r) (h2 : r < N) (h3 : i ≤ c) (h4 : c < N) : V r c = ba_br i P r c := by
  obtain ⟨hD, _, hV⟩ := h
  obtain ⟨hz, s, hs, k, hk⟩ := hV r h1 h2
  have e := ba_val N i P r c (V r) s (s * ds_det i P) k h3 h4 hk hz
  have e2 : s * ds_det i P * V r c = s * ds_det i P * ba_br i P r c := by rw [← e]; grind
  exact Int.eq_of_mul_eq_mul_left (Int.mul_ne_zero hs hD) e2
theorem ba_swap {N i b : Nat} {T0 P V : Nat → Nat → Int} (h : ba_inv N T0 i P V) (hb : i ≤ b) (hb2 : b < N) : ba_inv N T0 i (ds_sw P i b) (ds_sw V i b) := by
  obtain ⟨hD, ⟨π, p1, p2, p3⟩, hV⟩ := h
  have eD : ds_det i (ds_sw P i b) = ds_det i P := ds_det_congr i (fun r c hr _ => by
    unfold ds_sw
    rw [if_neg (by omega), if_neg (by omega)])
  have eL : ∀ l c, l < i → ds_sw P i b l c = P l c := fun l c hl => by
    unfold ds_sw
    rw [if_neg (by omega), if_neg (by omega)]
  refine ⟨by rw [eD]; exact hD, ⟨fun r => if r = i then π b else if r = b then π i else π r, ?_, ?_, ?_⟩, ?_⟩
  · intro r hr
    dsimp only
    by_cases g : r = i
    · rw [if_pos g]; exact p1 b hb2
    · rw [if_neg g]
      by_cases g2 : r = b
      · rw [if_pos g2]; exact p1 i (by omega)
      · rw [if_neg g2]; exact p1 r hr
  · intro x y hx hy e
    dsimp only at e
    have key : ∀ u v, u < N → v < N → π u = π v → u = v := p2
    by_cases g1 : x = i
    · rw [if_pos g1] at e
      by_cases g2 : y = i
      · omega
      · rw [if_neg g2] at e
        by_cases g3 : y = b
        · rw [if_pos g3] at e
          have := key b i hb2 (by omega) e
          omega
        · rw [if_neg g3] at e
          have := key b y hb2 hy e
          omega
    · rw [if_neg g1] at e
      by_cases g4 : x = b
      · rw [if_pos g4] at e
        by_cases g2 : y = i
        · rw [if_pos g2] at e
          have := key i b (by omega) hb2 e
          omega
        · rw [if_neg g2] at e
          by_cases g3 : y = b
          · omega
          · rw [if_neg g3] at e
            have := key i y (by omega) hy e
            omega
      · rw [if_neg g4] at e
        by_cases g2 : y = i
        · rw [if_pos g2] at e
          have := key x b hx hb2 e
          omega
        · rw [if_neg g2] at e
          by_cases g3 : y = b
          · rw [if_pos g3] at e
            have := key x i hx (by omega) e
            omega
          · rw [if_neg g3] at e
            exact key x y hx hy e
  · intro r c
    unfold ds_sw
    dsimp only
    by_cases g : r = i
    · rw [if_pos g, if_pos g, p3]
    · rw [if_neg g, if_neg g]
      by_cases g2 : r = b
      · rw [if_pos g2, if_pos g2, p3]
      · rw [if_neg g2, if_neg g2, p3]
  · intro r h1 h2
    have hx : ∃ u, i ≤ u ∧ u < N ∧ (∀ c, ds_sw V i b r c = V u c) ∧ (∀ c, ds_sw P i b r c = P u c) := by
      unfold ds_sw
      by_cases g : r = i
      · exact ⟨b, hb, hb2, fun c => if_pos g, fun c => if_pos g⟩
      · by_cases g2 : r = b
        · exact ⟨i, Nat.le_refl _, by omega, fun c => by rw [if_neg g, if_pos g2], fun c => by rw [if_neg g, if_pos g2]⟩
        · exact ⟨r, h1, h2, fun c => by rw [if_neg g, if_neg g2], fun c => by rw [if_neg g, if_neg g2]⟩
    obtain ⟨u, u1, u2, u3, u4⟩ := hx
    obtain ⟨z, s, hs, k, hk⟩ := hV u u1 u2
    refine ⟨fun c hc => by rw [u3]; exact z c hc, s, hs, k, fun c hc => ?_⟩
    rw [u3, u4, eD, hk c hc]
    congr 1
    exact ds_congr (fun l hl => by rw [eL l c hl])
theorem ba_swdet {N i b : Nat} {P : Nat → Nat → Int} (hb : i ≤ b) (hb2 : b < N) : ds_det N (ds_sw P i b) = if b = i then ds_det N P else - ds_det N P := by
  by_cases g : b = i
  · rw [if_pos g]
    refine ds_det_congr N (fun r c _ _ => ?_)
    unfold ds_sw
    by_cases g2 : r = i
    · rw [if_pos g2, g2, g]
    · rw [if_neg g2, if_neg (by omega)]
  · rw [if_neg g]
    exact ds_swp N i b P (by omega) hb2 (fun h => g h.symm)
theorem ba_piv {N i : Nat} {T0 P V : Nat → Nat → Int} (h : ba_inv N T0 i P V) (hi : i < N) : V i i = ds_det (i + 1) P := by
  rw [ba_br_val h (Nat.le_refl _) hi (Nat.le_refl _) hi]
  unfold ba_br
  refine ds_det_congr (i + 1) (fun x y hx hy => ?_)
  have e : ∀ z, z < i + 1 → ba_g i i z = z := fun z hz => by
    unfold ba_g
    by_cases q : z < i
    · rw [if_pos q]
    · rw [if_neg q]; omega
  rw [e x hx, e y hy]
theorem ba_step {N i : Nat} {T0 P V : Nat → Nat → Int} (h : ba_inv N T0 i P V) (hi : i < N) (hp : V i i ≠ 0) :
    ∃ V', ba_inv N T0 (i + 1) P V' ∧ ∀ r c, i < r → r < N → i < c → c < N → ds_det i P * V' r c = V r c * V i i - V r i * V i c := by
  have hpv := ba_piv h hi
  obtain ⟨hD, hπ, hV⟩ := h
  obtain ⟨zi, si, hsi, ki, hki⟩ := hV i (Nat.le_refl _) hi
  have hD1 : ds_det (i + 1) P ≠ 0 := by rw [← hpv]; exact hp
  have key : ∀ r, i < r → r < N → ∃ s : Int, s ≠ 0 ∧ ∃ k : Nat → Int, ∀ c, c < N → s * (V r c * V i i - V r i * V i c) = s * ds_det i P * ds_det (i + 1) P * P r c + ds_sum (i + 1) (fun l => k l * P l c) := by
    intro r h1 h2
    obtain ⟨zr, sr, hsr, kr, hkr⟩ := hV r (by omega) h2
    refine ⟨si * sr, Int.mul_ne_zero hsi hsr, fun l => if l < i then V i i * si * kr l - V r i * sr * ki l else - (V r i * sr * si * ds_det i P), fun c hc => ?_⟩
    have a := hkr c hc
    have b := hki c hc
    rw [ds_sum]
    dsimp only
    rw [if_neg (show ¬ i < i by omega)]
    have e : ds_sum i (fun l => (if l < i then V i i * si * kr l - V r i * sr * ki l else - (V r i * sr * si * ds_det i P)) * P l c) = V i i * si * ds_sum i (fun l => kr l * P l c) - V r i * sr * ds_sum i (fun l => ki l * P l c) := by
      rw [← ds_mul, ← ds_mul, ← ds_sub]
      exact ds_congr (fun l hl => by
        rw [if_pos hl]
        grind)
    rw [e, ← hpv]
    have a2 : ds_sum i (fun l => kr l * P l c) = sr * V r c - sr * ds_det i P * P r c := by omega
    have b2 : ds_sum i (fun l => ki l * P l c) = si * V i c - si * ds_det i P * P i c := by omega
    rw [a2, b2]
    grind
  have zero : ∀ r, i < r → r < N → ∀ c, c < i + 1 → V r c * V i i - V r i * V i c = 0 := by
    intro r h1 h2 c hc
    obtain ⟨zr, _⟩ := hV r (by omega) h2
    rcases Nat.lt_or_ge c i with g | g
    · rw [zr c g, zi c g]
      omega
    · have : c = i := by omega
      subst this
      rw [Int.mul_comm]
      omega
  have val : ∀ r, i < r → r < N → ∀ c, i + 1 ≤ c → c < N → ds_det i P * ba_br (i + 1) P r c = V r c * V i i - V r i * V i c := by
    intro r h1 h2 c h3 h4
    obtain ⟨s, hs, k, hk⟩ := key r h1 h2
    have e := ba_val N (i + 1) P r c (fun c => V r c * V i i - V r i * V i c) s (s * ds_det i P * ds_det (i + 1) P) k h3 h4 hk (zero r h1 h2)
    have e2 : s * ds_det (i + 1) P * (ds_det i P * ba_br (i + 1) P r c) = s * ds_det (i + 1) P * (V r c * V i i - V r i * V i c) := by
      have e3 : s * (V r c * V i i - V r i * V i c) * ds_det (i + 1) P = s * ds_det i P * ds_det (i + 1) P * ba_br (i + 1) P r c := e
      grind
    exact Int.eq_of_mul_eq_mul_left (Int.mul_ne_zero hs hD1) e2
  refine ⟨fun r c => if c ≤ i then 0 else ba_br (i + 1) P r c, ⟨hD1, hπ, fun r h1 h2 => ⟨fun c hc => if_pos (by omega), ?_⟩⟩, fun r c h1 h2 h3 h4 => ?_⟩
  · obtain ⟨s, hs, k, hk⟩ := key r (by omega) h2
    refine ⟨s * ds_det i P, Int.mul_ne_zero hs hD, k, fun c hc => ?_⟩
    rw [← hk c hc]
    dsimp only
    rcases Nat.lt_or_ge i c with g | g
    · rw [if_neg (by omega), ← val r (by omega) h2 c g hc]
      grind
    · rw [if_pos g, zero r (by omega) h2 c (by omega)]
      omega
  · dsimp only
    rw [if_neg (by omega)]
    exact val r h1 h2 c h3 h4
theorem ba_none {N i : Nat} {T0 P V : Nat → Nat → Int} (h : ba_inv N T0 i P V) (hi : i < N) (hz : ∀ r, i ≤ r → r < N → V r i = 0) : ds_det N P = 0 := by
  obtain ⟨hD, _, hV⟩ := h
  -- W: rows of V times their scale
  have hs : ∃ s : Nat → Int, ∃ k : Nat → Nat → Int, ∀ r, i ≤ r → r < N → s r ≠ 0 ∧ ∀ c, c < N → s r * V r c = s r * ds_det i P * P r c + ds_sum i (fun l => k r l * P l c) := by
    refine ⟨fun r => if hr : i ≤ r ∧ r < N then Classical.choose (hV r hr.1 hr.2).2 else 0, fun r => if hr : i ≤ r ∧ r < N then Classical.choose (Classical.choose_spec (hV r hr.1 hr.2).2).2 else fun _ => 0, fun r h1 h2 => ?_⟩
    dsimp only
    rw [dif_pos ⟨h1, h2⟩, dif_pos ⟨h1, h2⟩]
    exact ⟨(Classical.choose_spec (hV r h1 h2).2).1, Classical.choose_spec (Classical.choose_spec (hV r h1 h2).2).2⟩
  obtain ⟨s, k, hs⟩ := hs
  have back : ∀ t, i + t ≤ N → ds_det N (fun r c => if i ≤ r ∧ r < i + t then s r * V r c else P r c) = 0 → ds_det N P = 0 := by
    intro t
    induction t with
    | zero =>
      intro _ h0
      rw [← h0]
      exact ds_det_congr N (fun r c _ _ => by rw [if_neg (by omega)])
    | succ t ih =>
      intro ht h0
      refine ih (by omega) ?_
      let X : Nat → Nat → Int := fun r c => if i ≤ r ∧ r < i + t then s r * V r c else P r c
      obtain ⟨hs1, hs2⟩ := hs (i + t) (by omega) (by omega)
      have l := ds_det_lin N (i + t) X (X (i + t)) (fun y => ds_sum i (fun l => k (i + t) l * X l y)) (s (i + t) * ds_det i P) 1 (by omega)
      rw [ds_set_self, ds_det_sum N (i + t) X (by omega) (k (i + t)) X i] at l
      have z : ds_sum i (fun l => k (i + t) l * ds_det N (ds_set X (i + t) (X l))) = 0 := by
        rw [← ds_zero i]
        exact ds_congr (fun l hl => by rw [ds_set_row N l (i + t) X (by omega) (by omega) (by omega), Int.mul_zero])
      rw [z, Int.mul_zero, Int.add_zero] at l
      have e : ds_det N (ds_set X (i + t) (fun c => s (i + t) * ds_det i P * X (i + t) c + 1 * ds_sum i (fun l => k (i + t) l * X l c))) = 0 := by
        rw [← h0]
        refine ds_det_congr N (fun r c hr hc => ?_)
        unfold ds_set
        by_cases g : r = i + t
        · rw [if_pos g, if_pos (by omega), g, hs2 c hc]
          show s (i + t) * ds_det i P * (if i ≤ i + t ∧ i + t < i + t then _ else P (i + t) c) + 1 * ds_sum i (fun l => k (i + t) l * (if i ≤ l ∧ l < i + t then _ else P l c)) = _
          rw [if_neg (by omega), Int.one_mul]
          congr 1
          exact ds_congr (fun l hl => by rw [if_neg (by omega)])
        · rw [if_neg g]
          show (if i ≤ r ∧ r < i + t then _ else _) = _
          by_cases g2 : i ≤ r ∧ r < i + t
          · rw [if_pos g2, if_pos (by omega)]
          · rw [if_neg g2, if_neg (by omega)]
      rw [e] at l
      exact (Int.mul_eq_zero.mp l.symm).resolve_left (Int.mul_ne_zero hs1 hD)
  refine back (N - i) (by omega) (ds_block i N _ hi (fun r c h1 h2 h3 => ?_))
  rw [if_pos (by omega)]
  rcases Nat.lt_or_ge c i with g | g
  · rw [(hV r h1 h2).1 c g, Int.mul_zero]
  · rw [show c = i by omega, hz r h1 h2, Int.mul_zero]
theorem ba_bound {N i : Nat} {T0 P V : Nat → Nat → Int} {B : Nat} (h : ba_inv N T0 i P V) (hB : ∀ (k : Nat) (ρ γ : Nat → Nat), k ≤ N → (∀ x, x < k → ρ x < N) → (∀ x, x < k → γ x < N) → (∀ a b, a < k → b < k → ρ a = ρ b → a = b) → (∀ a b, a < k → b < k → γ a = γ b → a = b) → (ds_det k (fun x y => T0 (ρ x) (γ y))).natAbs ≤ B) {r c : Nat} (h1 : i ≤ r) (h2 : r < N) (h3 : i ≤ c) (h4 : c < N) : (V r c).natAbs ≤ B := by
  rw [ba_br_val h h1 h2 h3 h4]
  obtain ⟨_, ⟨π, p1, p2, p3⟩, _⟩ := h
  have gl : ∀ z, i ≤ z → z < N → ∀ x, x < i + 1 → ba_g i z x < N := fun z _ hz x hx => by
    unfold ba_g
    by_cases q : x < i
    · rw [if_pos q]; omega
    · rw [if_neg q]; exact hz
  have gi : ∀ z, i ≤ z → ∀ a b, a < i + 1 → b < i + 1 → ba_g i z a = ba_g i z b → a = b := fun z hz a b ha hb e => by
    unfold ba_g at e
    by_cases q : a < i
    · rw [if_pos q] at e
      by_cases q2 : b < i
      · rw [if_pos q2] at e; exact e
      · rw [if_neg q2] at e; omega
    · rw [if_neg q] at e
      by_cases q2 : b < i
      · rw [if_pos q2] at e; omega
      · omega
  have e : ba_br i P r c = ds_det (i + 1) (fun x y => T0 (π (ba_g i r x)) (ba_g i c y)) := by
    unfold ba_br
    exact ds_det_congr _ (fun x y _ _ => by rw [p3])
  rw [e]
  exact hB (i + 1) (fun x => π (ba_g i r x)) (ba_g i c) (by omega) (fun x hx => p1 _ (gl r h1 h2 x hx)) (gl c h3 h4) (fun a b ha hb q => gi r h1 a b ha hb (p2 _ _ (gl r h1 h2 a ha) (gl r h1 h2 b hb) q)) (gi c h3)

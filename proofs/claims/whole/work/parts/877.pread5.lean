/-! ===== PURE 31e: read, rows of a turn; the class lays them ===== -/
theorem up_up (f : Nat → Int32) (i : Nat) (v w : Int32) : upd (upd f i v) i w = upd f i w := by
  funext k
  by_cases g : k = i
  · rw [g, tr_u1, tr_u1]
  · rw [tr_u2 _ _ g, tr_u2 _ _ g, tr_u2 _ _ g]
theorem up_id (f : Nat → Int32) (i : Nat) : upd f i (f i) = f := by
  funext k
  by_cases g : k = i
  · rw [g, tr_u1]
  · rw [tr_u2 _ _ g]
def bup (B : Nat → Nat) (b w : Nat) : Nat → Nat := fun i => if i = b then w else B i
theorem bup_1 (B : Nat → Nat) (b w : Nat) : bup B b w b = w := by unfold bup; rw [if_pos rfl]
theorem bup_2 (B : Nat → Nat) {b i : Nat} (w : Nat) (h : i ≠ b) : bup B b w i = B i := by unfold bup; rw [if_neg h]
def er_Ok (P : Nat → Prop) (ky : Nat → Int) (b : Nat) (B : Nat → Nat) : Prop := (∀ i, i < b → P (B i)) ∧ (∀ w, P w → ∃ i, i < b ∧ B i = w) ∧ (∀ i j, i < j → j < b → ky (B i) < ky (B j))
theorem er_un {P : Nat → Prop} {ky : Nat → Int} {b b' : Nat} {B B' : Nat → Nat} (h : er_Ok P ky b B) (h' : er_Ok P ky b' B') : b = b' ∧ ∀ i, i < b → B i = B' i := by
  refine un_srt (α := Nat) (lt := fun x y => ky x < ky y) (fun x => Int.lt_irrefl _) (fun x y z h1 h2 => Int.lt_trans h1 h2) h.2.2 h'.2.2 (fun p hp => ?_) (fun p hp => ?_)
  · obtain ⟨q, q1, q2⟩ := h'.2.1 _ (h.1 p hp)
    exact ⟨q, q1, q2.symm⟩
  · obtain ⟨q, q1, q2⟩ := h.2.1 _ (h'.1 p hp)
    exact ⟨q, q1, q2.symm⟩
theorem er_inj {P : Nat → Prop} {ky : Nat → Int} {b : Nat} {B : Nat → Nat} (h : er_Ok P ky b B) : ∀ i j, i < b → j < b → B i = B j → i = j := by
  intro i j hi hj e
  rcases Nat.lt_trichotomy i j with g | g | g
  · have := h.2.2 i j g hj
    rw [e] at this
    omega
  · exact g
  · have := h.2.2 j i g hi
    rw [e] at this
    omega
theorem er_iff {P P' : Nat → Prop} {ky : Nat → Int} {b : Nat} {B : Nat → Nat} (h : er_Ok P ky b B) (hp : ∀ w, P w ↔ P' w) : er_Ok P' ky b B := ⟨fun i hi => (hp _).mp (h.1 i hi), fun w hw => h.2.1 w ((hp w).mpr hw), h.2.2⟩
theorem er_add {P P' : Nat → Prop} {ky : Nat → Int} {b : Nat} {B : Nat → Nat} (h : er_Ok P ky b B) {w0 : Nat} (hp : ∀ w, P' w ↔ (P w ∨ w = w0)) (hlt : ∀ w, P w → ky w < ky w0) : er_Ok P' ky (b + 1) (bup B b w0) := by
  refine ⟨fun i hi => ?_, fun w hw => ?_, fun i j hij hj => ?_⟩
  · by_cases g : i = b
    · rw [g, bup_1]; exact (hp _).mpr (Or.inr rfl)
    · rw [bup_2 _ _ g]; exact (hp _).mpr (Or.inl (h.1 i (by omega)))
  · rcases (hp w).mp hw with g | g
    · obtain ⟨i, i1, i2⟩ := h.2.1 w g
      exact ⟨i, by omega, by rw [bup_2 _ _ (by omega)]; exact i2⟩
    · exact ⟨b, by omega, by rw [bup_1, g]⟩
  · rw [bup_2 B w0 (show i ≠ b by omega)]
    by_cases g : j = b
    · rw [g, bup_1]; exact hlt _ (h.1 i (by omega))
    · rw [bup_2 _ _ g]; exact h.2.2 i j hij (by omega)
def ap_St (k b0 : Nat) (ts0 tu0 : Nat → Int32) (b : Nat) (B : Nat → Nat) (ts tu : Nat → Int32) : Prop := ts = upd ts0 k (nI (b0 + b)) ∧ (∀ i, i < b → tu (22 * k + (b0 + i)) = nI (B i)) ∧ (∀ j, (j < 22 * k + b0 ∨ 22 * k + (b0 + b) ≤ j) → tu j = tu0 j)
theorem ap_0 {k b0 : Nat} {ts tu : Nat → Int32} (h : ts k = nI b0) (B : Nat → Nat) : ap_St k b0 ts tu 0 B ts tu := ⟨by rw [Nat.add_zero, ← h, up_id], fun i hi => absurd hi (by omega), fun j _ => rfl⟩
theorem ap_add {k b0 b : Nat} {ts0 tu0 ts tu : Nat → Int32} {B : Nat → Nat} (h : ap_St k b0 ts0 tu0 b B ts tu) (w : Nat) : ap_St k b0 ts0 tu0 (b + 1) (bup B b w) (upd ts k (nI (b0 + b + 1))) (upd tu (22 * k + (b0 + b)) (nI w)) := by
  obtain ⟨h1, h2, h3⟩ := h
  refine ⟨by rw [h1, up_up, Nat.add_assoc], fun i hi => ?_, fun j hj => ?_⟩
  · by_cases g : i = b
    · rw [g, bup_1, tr_u1]
    · rw [bup_2 _ _ g, tr_u2 tu _ (show 22 * k + (b0 + i) ≠ 22 * k + (b0 + b) by omega)]
      exact h2 i (by omega)
  · rw [tr_u2 tu _ (show j ≠ 22 * k + (b0 + b) by omega)]
    exact h3 j (by omega)
theorem ap_n {k b0 b : Nat} {ts0 tu0 ts tu : Nat → Int32} {B : Nat → Nat} (h : ap_St k b0 ts0 tu0 b B ts tu) : ts k = nI (b0 + b) := by rw [h.1, tr_u1]
theorem at_1 {k c : Nat} {ts tu : Nat → Int32} (hk : k < 12) (hc : c < 22) (h : ts k = nI c) (x : Int32) : fX4_addToTurn ts tu (nI k) x = some (upd ts k (nI (c + 1)), upd tu (22 * k + c) x) := by
  unfold fX4_addToTurn
  rw [pz_gd (pz_in hk (by decide)), nI_clamp (show k < 2 ^ 31 by omega), h, if_neg (show ¬ (22 : Int32) ≤ nI c from nI_ge (b := 22) hc (by decide)), pz_22, pz_gd (pz_in (show 22 * k + c < 264 by omega) (by decide)), nI_clamp (show 22 * k + c < 2 ^ 31 by omega)]
  simp only [pz_let, nI_1]
/-- a loop that appends some of its wires -/
theorem ap_loop {body : Int32 × (Nat → Int32) × (Nat → Int32) → Option (((Nat → Int32) × (Nat → Int32)) ⊕ (Int32 × (Nat → Int32) × (Nat → Int32)))} {k b0 N : Nat} {ts0 tu0 : Nat → Int32} (st : Nat → Int32) (sel : Nat → Prop) (wv : Nat → Nat) (P : Nat → Prop) (ky : Nat → Int) (hN : N < 1000) (h0 : ts0 k = nI b0)
    (hy : ∀ j, j < N → sel j → ∀ c ts tu, c < 22 → ts k = nI c → body (st j, ts, tu) = some (.inr (st (j + 1), upd ts k (nI (c + 1)), upd tu (22 * k + c) (nI (wv j)))))
    (hn : ∀ j, j < N → ¬ sel j → ∀ ts tu, body (st j, ts, tu) = some (.inr (st (j + 1), ts, tu)))
    (he : ∀ ts tu, body (st N, ts, tu) = some (.inl (ts, tu)))
    (hlt : ∀ i j, i < j → j < N → sel i → sel j → ky (wv i) < ky (wv j))
    (hw : ∀ j, j < N → sel j → P (wv j)) (hP : ∀ w, P w → ∃ j, j < N ∧ sel j ∧ wv j = w)
    (hroom : ∀ b (B : Nat → Nat), (∀ i, i < b → P (B i)) → (∀ i j, i < b → j < b → B i = B j → i = j) → b0 + b ≤ 22) :
    ∃ b B ts tu, dk_loop body 1000 (st 0, ts0, tu0) = some (ts, tu) ∧ ap_St k b0 ts0 tu0 b B ts tu ∧ er_Ok P ky b B := by
  obtain ⟨⟨ts, tu⟩, l1, b, B, l2, l3⟩ := pz_fin (body := body) (fun j s => s.1 = st j ∧ ∃ b B, ap_St k b0 ts0 tu0 b B s.2.1 s.2.2 ∧ er_Ok (fun w => ∃ i, i < j ∧ sel i ∧ wv i = w) ky b B) (fun s => ∃ b B, ap_St k b0 ts0 tu0 b B s.1 s.2 ∧ er_Ok P ky b B) N (by
    rintro j ⟨x, ts, tu⟩ hj ⟨i1, b, B, i2, i3⟩
    dsimp only at i1 i2
    subst i1
    rcases Nat.lt_or_ge j N with c | c
    · right
      refine ⟨c, ?_⟩
      by_cases s : sel j
      · have e := er_add (P' := fun w => ∃ i, i < j + 1 ∧ sel i ∧ wv i = w) i3 (w0 := wv j) (fun w => by
          constructor
          · rintro ⟨i, g1, g2, g3⟩
            by_cases g : i = j
            · exact Or.inr (by rw [← g3, g])
            · exact Or.inl ⟨i, by omega, g2, g3⟩
          · rintro (⟨i, g1, g2, g3⟩ | g)
            · exact ⟨i, by omega, g2, g3⟩
            · exact ⟨j, by omega, s, g.symm⟩) (fun w => by
          rintro ⟨i, g1, g2, g3⟩
          rw [← g3]
          exact hlt i j g1 c g2 s)
        have r := hroom (b + 1) _ (fun i hi => by
          obtain ⟨i', g1, g2, g3⟩ := e.1 i hi
          rw [← g3]
          exact hw i' (by omega) g2) (er_inj e)
        exact ⟨_, hy j c s (b0 + b) ts tu (by omega) (ap_n i2), rfl, b + 1, _, ap_add i2 (wv j), e⟩
      · refine ⟨_, hn j c s ts tu, rfl, b, B, i2, er_iff i3 (fun w => ⟨?_, ?_⟩)⟩
        · rintro ⟨i, g1, g2⟩
          exact ⟨i, by omega, g2⟩
        · rintro ⟨i, g1, g2, g3⟩
          have n : i ≠ j := fun e => s (e ▸ g2)
          exact ⟨i, by omega, g2, g3⟩
    · left
      have e : j = N := by omega
      subst e
      refine ⟨_, he ts tu, b, B, i2, er_iff i3 (fun w => ⟨?_, hP w⟩)⟩
      rintro ⟨i, g1, g2, g3⟩
      rw [← g3]
      exact hw i g1 g2) 1000 0 (st 0, ts0, tu0) (by omega) ⟨rfl, 0, fun _ => 0, ap_0 h0 _, fun i hi => absurd hi (by omega), fun w hw => by obtain ⟨i, g, _⟩ := hw; omega, fun i j _ hj => absurd hj (by omega)⟩ (by omega)
  exact ⟨b, B, ts, tu, l1, l2, l3⟩
def rw_p (m k : Nat) : Nat := if k = 0 ∨ k = m - 1 then 1 else 0
def rw_B (T : Nat) (kp : Nat → Nat) (k w : Nat) : Prop := w < T ∧ kp (2 * w) = k
def rw_A (T : Nat) (kp : Nat → Nat) (k w : Nat) : Prop := w < T ∧ kp (2 * w + 1) = k
def rw_Ok (T : Nat) (X : Nat → Int) (kp : Nat → Nat) (m k t : Nat) (rh : Nat → Nat) : Prop := ∃ b B a A, er_Ok (rw_B T kp k) X b B ∧ er_Ok (rw_A T kp k) (fun w => - X w) a A ∧ t = b + rw_p m k + a ∧ (∀ i, i < b → rh i = B i) ∧ (rw_p m k = 1 → rh b = T) ∧ (∀ i, i < a → rh (b + rw_p m k + i) = A i)
def rw_R (T : Nat) (X : Nat → Int) (kp : Nat → Nat) (m k : Nat) (ts tu ts' tu' : Nat → Int32) : Prop := ∃ t rh, rw_Ok T X kp m k t rh ∧ ts' = upd ts k (nI t) ∧ (∀ i, i < t → tu' (22 * k + i) = nI (rh i)) ∧ (∀ j, (j < 22 * k ∨ 22 * k + 22 ≤ j) → tu' j = tu j)
theorem rw_pp (m k : Nat) : rw_p m k = 0 ∨ rw_p m k = 1 := by
  unfold rw_p
  split
  · exact Or.inr rfl
  · exact Or.inl rfl
section
variable {T : Nat} {X : Nat → Int} {kp : Nat → Nat} {m k : Nat}
theorem rw_room (hd : ∀ w, w < T → kp (2 * w) ≠ kp (2 * w + 1)) {b : Nat} {B : Nat → Nat} (e1 : er_Ok (rw_B T kp k) X b B) (a : Nat) (A : Nat → Nat) (h1 : ∀ i, i < a → rw_A T kp k (A i)) (h2 : ∀ i j, i < a → j < a → A i = A j → i = j) : b + a ≤ T := by
  refine pz_pigeon T (b + a) (fun i => if i < b then B i else A (i - b)) (fun i hi => ?_) (fun i j hi hj e => ?_)
  · by_cases g : i < b
    · rw [if_pos g]; exact (e1.1 i g).1
    · rw [if_neg g]; exact (h1 (i - b) (by omega)).1
  · have no : ∀ i j, i < b → j < a → B i ≠ A j := fun i j hi hj e => by
      have x1 := e1.1 i hi
      have x2 := h1 j hj
      rw [← e] at x2
      exact hd _ x1.1 (by rw [x1.2, x2.2])
    by_cases g : i < b
    · by_cases g2 : j < b
      · rw [if_pos g, if_pos g2] at e
        exact er_inj e1 i j g g2 e
      · rw [if_pos g, if_neg g2] at e
        exact absurd e (no i (j - b) g (by omega))
    · by_cases g2 : j < b
      · rw [if_neg g, if_pos g2] at e
        exact absurd e.symm (no j (i - b) g2 (by omega))
      · rw [if_neg g, if_neg g2] at e
        have := h2 (i - b) (j - b) (by omega) (by omega) e
        omega
theorem rw_mk (hT : T ≤ 21) (hd : ∀ w, w < T → kp (2 * w) ≠ kp (2 * w + 1)) {b a : Nat} {B A : Nat → Nat} {ts tu ts1 tu1 ts2 tu2 ts3 tu3 : Nat → Int32} (h1 : ap_St k 0 ts tu b B ts1 tu1) (e1 : er_Ok (rw_B T kp k) X b B) (hp : (rw_p m k = 0 ∧ ts2 = ts1 ∧ tu2 = tu1) ∨ (rw_p m k = 1 ∧ ts2 = upd ts1 k (nI (b + 1)) ∧ tu2 = upd tu1 (22 * k + b) (nI T))) (h3 : ap_St k (b + rw_p m k) ts2 tu2 a A ts3 tu3) (e3 : er_Ok (rw_A T kp k) (fun w => - X w) a A) : rw_R T X kp m k ts tu ts3 tu3 := by
  have rm := rw_room hd e1 a A e3.1 (er_inj e3)
  obtain ⟨a1, a2, a3⟩ := h1
  obtain ⟨c1, c2, c3⟩ := h3
  have pp := rw_pp m k
  have t2 : ∀ j, j ≠ 22 * k + b → tu2 j = tu1 j := fun j hj => by
    rcases hp with ⟨_, _, g⟩ | ⟨_, _, g⟩
    · rw [g]
    · rw [g, tr_u2 _ _ hj]
  refine ⟨b + rw_p m k + a, fun i => if i < b then B i else if i < b + rw_p m k then T else A (i - (b + rw_p m k)), ⟨b, B, a, A, e1, e3, rfl, fun i hi => if_pos hi, fun hp1 => ?_, fun i hi => ?_⟩, ?_, fun i hi => ?_, fun j hj => ?_⟩
  · dsimp only
    rw [if_neg (by omega), if_pos (by omega)]
  · dsimp only
    rw [if_neg (by omega), if_neg (by omega), Nat.add_sub_cancel_left]
  · rw [c1]
    rcases hp with ⟨_, g, _⟩ | ⟨_, g, _⟩
    · rw [g, a1, up_up]
    · rw [g, a1, up_up, up_up]
  · dsimp only
    by_cases g : i < b
    · rw [if_pos g, c3 _ (by omega), t2 _ (by omega)]
      have := a2 i g
      rw [Nat.zero_add] at this
      exact this
    · rw [if_neg g]
      by_cases g2 : i < b + rw_p m k
      · rw [if_pos g2, c3 _ (by omega)]
        rcases hp with ⟨q, _, _⟩ | ⟨q, _, g3⟩
        · omega
        · rw [g3, show i = b by omega, tr_u1]
      · rw [if_neg g2]
        have := c2 (i - (b + rw_p m k)) (by omega)
        rw [show b + rw_p m k + (i - (b + rw_p m k)) = i by omega] at this
        exact this
  · rw [c3 j (by omega), t2 j (by omega), a3 j (by omega)]
theorem rw_un {t t' : Nat} {rh rh' : Nat → Nat} (h : rw_Ok T X kp m k t rh) (h' : rw_Ok T X kp m k t' rh') : t = t' ∧ ∀ i, i < t → rh i = rh' i := by
  obtain ⟨b, B, a, A, h1, h2, h3, h4, h5, h6⟩ := h
  obtain ⟨b', B', a', A', g1, g2, g3, g4, g5, g6⟩ := h'
  obtain ⟨rfl, x1⟩ := er_un h1 g1
  obtain ⟨rfl, x2⟩ := er_un h2 g2
  have pp := rw_pp m k
  refine ⟨by omega, fun i hi => ?_⟩
  by_cases c : i < b
  · rw [h4 i c, g4 i c, x1 i c]
  · by_cases c2 : i < b + rw_p m k
    · rw [show i = b by omega, h5 (by omega), g5 (by omega)]
    · have y1 := h6 (i - (b + rw_p m k)) (by omega)
      have y2 := g6 (i - (b + rw_p m k)) (by omega)
      rw [show b + rw_p m k + (i - (b + rw_p m k)) = i by omega] at y1 y2
      rw [y1, y2, x2 _ (by omega)]
theorem rw_net (hd : ∀ w, w < T → kp (2 * w) ≠ kp (2 * w + 1)) {t : Nat} {rh : Nat → Nat} (h : rw_Ok T X kp m k t rh) : t ≤ T + 1 ∧ (∀ i, i < t → (rh i = T ∧ (k = 0 ∨ k = m - 1)) ∨ rw_B T kp k (rh i) ∨ rw_A T kp k (rh i)) ∧ (∀ i j, i < t → j < t → rh i = rh j → i = j) := by
  obtain ⟨b, B, a, A, h1, h2, h3, h4, h5, h6⟩ := h
  have rm := rw_room hd h1 a A h2.1 (er_inj h2)
  have pp := rw_pp m k
  have cs : ∀ i, i < t → (i < b ∧ rh i = B i ∧ rw_B T kp k (rh i)) ∨ (i = b ∧ rw_p m k = 1 ∧ rh i = T) ∨ (b + rw_p m k ≤ i ∧ rh i = A (i - (b + rw_p m k)) ∧ rw_A T kp k (rh i)) := by
    intro i hi
    by_cases c : i < b
    · exact Or.inl ⟨c, h4 i c, by rw [h4 i c]; exact h1.1 i c⟩
    · by_cases c2 : i < b + rw_p m k
      · exact Or.inr (Or.inl ⟨by omega, by omega, by rw [show i = b by omega]; exact h5 (by omega)⟩)
      · have y1 := h6 (i - (b + rw_p m k)) (by omega)
        rw [show b + rw_p m k + (i - (b + rw_p m k)) = i by omega] at y1
        exact Or.inr (Or.inr ⟨by omega, y1, by rw [y1]; exact h2.1 _ (by omega)⟩)
  refine ⟨by omega, fun i hi => ?_, fun i j hi hj e => ?_⟩
  · rcases cs i hi with ⟨_, _, g⟩ | ⟨_, g1, g2⟩ | ⟨_, _, g⟩
    · exact Or.inr (Or.inl g)
    · refine Or.inl ⟨g2, ?_⟩
      unfold rw_p at g1
      by_cases q : k = 0 ∨ k = m - 1
      · exact q
      · rw [if_neg q] at g1; omega
    · exact Or.inr (Or.inr g)
  · rcases cs i hi with ⟨i1, i2, i3⟩ | ⟨i1, i2, i3⟩ | ⟨i1, i2, i3⟩
    · rcases cs j hj with ⟨j1, j2, j3⟩ | ⟨j1, j2, j3⟩ | ⟨j1, j2, j3⟩
      · exact er_inj h1 i j i1 j1 (by rw [← i2, ← j2, e])
      · have := i3.1; omega
      · rw [← e] at j3
        exact absurd (by rw [i3.2, j3.2]) (hd _ i3.1)
    · rcases cs j hj with ⟨j1, j2, j3⟩ | ⟨j1, j2, j3⟩ | ⟨j1, j2, j3⟩
      · have := j3.1; omega
      · omega
      · have := j3.1; omega
    · rcases cs j hj with ⟨j1, j2, j3⟩ | ⟨j1, j2, j3⟩ | ⟨j1, j2, j3⟩
      · rw [← e] at j3
        exact absurd (by rw [i3.2, j3.2]) (hd _ i3.1)
      · have := i3.1; omega
      · have := er_inj h2 _ _ (by omega) (by omega) (show A (i - (b + rw_p m k)) = A (j - (b + rw_p m k)) by rw [← i2, ← j2, e])
        omega
end

/-! ===== PLANE: turns, darts, faces, as numbers ===== -/
theorem pl_perm : ∀ (N : Nat) (π : Nat → Nat) (f : Nat → Int), (∀ d, d < N → π d < N) → (∀ a b, a < N → b < N → π a = π b → a = b) → ds_sum N (fun d => f (π d)) = ds_sum N f
  | 0, _, _, _, _ => rfl
  | N + 1, π, f, h1, h2 => by
    have ih := pl_perm N (fun d => if π d = N then π N else π d) f (fun d hd => by
      have a := h1 d (by omega)
      have b := h1 N (by omega)
      by_cases g : π d = N
      · rw [if_pos g]
        have c : π N ≠ N := fun e => by
          have := h2 d N (by omega) (by omega) (by rw [g, e])
          omega
        omega
      · rw [if_neg g]
        omega) (fun a b ha hb e => by
      by_cases g : π a = N
      · rw [if_pos g] at e
        by_cases g2 : π b = N
        · exact h2 a b (by omega) (by omega) (by rw [g, g2])
        · rw [if_neg g2] at e
          have := h2 N b (by omega) (by omega) e
          omega
      · rw [if_neg g] at e
        by_cases g2 : π b = N
        · rw [if_pos g2] at e
          have := h2 a N (by omega) (by omega) e
          omega
        · rw [if_neg g2] at e
          exact h2 a b (by omega) (by omega) e)
    rw [ds_sum, ds_sum, ← ih]
    by_cases g : π N = N
    · rw [g]
      congr 1
      refine ds_congr (fun d hd => ?_)
      have : π d ≠ N := fun e => by
        have := h2 d N (by omega) (by omega) (by rw [e, g])
        omega
      rw [if_neg this]
    · have hex : ∃ d, d < N ∧ π d = N := by
        refine Classical.byContradiction (fun hno => ?_)
        have := pz_pigeon N (N + 1) π (fun d hd => by
          have a := h1 d hd
          have b : π d ≠ N := fun e => by
            by_cases q : d = N
            · rw [q] at e; exact g e
            · exact hno ⟨d, by omega, e⟩
          omega) h2
        omega
      obtain ⟨d0, hd0, e0⟩ := hex
      have e1 : ds_sum N (fun d => f (π d) - f (if π d = N then π N else π d)) = f N - f (π N) := by
        rw [ds_sum_one _ d0 N hd0 (fun i hi hn => by
          have : π i ≠ N := fun e => hn (h2 i d0 (by omega) (by omega) (by rw [e, e0]))
          rw [if_neg this]
          omega), if_pos e0, e0]
      rw [ds_sub] at e1
      omega
theorem pl_pairs (f : Nat → Int) : ∀ n : Nat, ds_sum (2 * n) f = ds_sum n (fun w => f (2 * w) + f (2 * w + 1))
  | 0 => rfl
  | n + 1 => by
    rw [show 2 * (n + 1) = 2 * n + 1 + 1 by omega, ds_sum, ds_sum, ds_sum, pl_pairs f n]
    omega
def pl_st (A B : Nat → Nat) (d : Nat) : Nat := if d % 2 = 0 then A (d / 2) else B (d / 2)
def pl_en (A B : Nat → Nat) (d : Nat) : Nat := if d % 2 = 0 then B (d / 2) else A (d / 2)
def pl_out (A : Nat → Nat) (k w : Nat) : Nat := if A w = k then 2 * w else 2 * w + 1
/-- darts that go round faces -/
def pl_Fc (n : Nat) (A B fc nx : Nat → Nat) : Prop := (∀ d, d < 2 * n → nx d < 2 * n ∧ pl_st A B (nx d) = pl_en A B d ∧ fc (nx d) = fc d) ∧ ∀ a b, a < 2 * n → b < 2 * n → nx a = nx b → a = b
theorem pl_st0 (A B : Nat → Nat) (w : Nat) : pl_st A B (2 * w) = A w := by unfold pl_st; rw [if_pos (by omega), show 2 * w / 2 = w by omega]
theorem pl_st1 (A B : Nat → Nat) (w : Nat) : pl_st A B (2 * w + 1) = B w := by unfold pl_st; rw [if_neg (by omega), show (2 * w + 1) / 2 = w by omega]
theorem pl_en0 (A B : Nat → Nat) (w : Nat) : pl_en A B (2 * w) = B w := by unfold pl_en; rw [if_pos (by omega), show 2 * w / 2 = w by omega]
theorem pl_en1 (A B : Nat → Nat) (w : Nat) : pl_en A B (2 * w + 1) = A w := by unfold pl_en; rw [if_neg (by omega), show (2 * w + 1) / 2 = w by omega]
/-- cuts and rings meet evenly -/
theorem pl_ortho {n : Nat} {A B fc nx : Nat → Nat} (h : pl_Fc n A B fc nx) (v q : Nat → Int) : ds_sum n (fun w => (v (fc (2 * w)) - v (fc (2 * w + 1))) * (q (A w) - q (B w))) = 0 := by
  have e1 : ds_sum (2 * n) (fun d => v (fc d) * q (pl_st A B d)) = ds_sum (2 * n) (fun d => v (fc d) * q (pl_en A B d)) := by
    rw [← pl_perm (2 * n) nx (fun d => v (fc d) * q (pl_st A B d)) (fun d hd => (h.1 d hd).1) h.2]
    exact ds_congr (fun d hd => by rw [(h.1 d hd).2.1, (h.1 d hd).2.2])
  rw [pl_pairs, pl_pairs] at e1
  have e2 : ds_sum n (fun w => (v (fc (2 * w)) - v (fc (2 * w + 1))) * (q (A w) - q (B w))) = ds_sum n (fun w => (v (fc (2 * w)) * q (pl_st A B (2 * w)) + v (fc (2 * w + 1)) * q (pl_st A B (2 * w + 1))) - (v (fc (2 * w)) * q (pl_en A B (2 * w)) + v (fc (2 * w + 1)) * q (pl_en A B (2 * w + 1)))) := ds_congr (fun w _ => by
    rw [pl_st0, pl_st1, pl_en0, pl_en1]
    grind)
  rw [e2, ds_sub, e1]
  omega
theorem ds_cnt_ge : ∀ (m n : Nat) (O : Nat → Bool) (f : Nat → Nat), (∀ i, i < m → f i < n ∧ O (f i) = true) → (∀ i j, i < m → j < m → f i = f j → i = j) → m ≤ ds_cnt n O
  | 0, _, _, _, _, _ => Nat.zero_le _
  | m + 1, n, O, f, h1, h2 => by
    obtain ⟨a, b⟩ := h1 m (by omega)
    rw [ds_cnt_off O (f m) b n a]
    have := ds_cnt_ge m n (ds_off O (f m)) f (fun i hi => ⟨(h1 i (by omega)).1, by
      unfold ds_off
      rw [if_neg (fun e => by have := h2 i m (by omega) (by omega) e; omega)]
      exact (h1 i (by omega)).2⟩) (fun i j hi hj e => h2 i j (by omega) (by omega) e)
    omega
theorem ds_cnt_not (O : Nat → Bool) : ∀ n, ds_cnt n O + ds_cnt n (fun i => !O i) = n
  | 0 => rfl
  | n + 1 => by
    rw [ds_cnt, ds_cnt]
    have := ds_cnt_not O n
    cases O n <;> simp <;> omega
theorem ds_cnt_mono {O P : Nat → Bool} : ∀ n, (∀ i, i < n → O i = true → P i = true) → ds_cnt n O ≤ ds_cnt n P
  | 0, _ => Nat.le_refl _
  | n + 1, h => by
    rw [ds_cnt, ds_cnt]
    have i1 := ds_cnt_mono n (fun i hi => h i (by omega))
    by_cases g : O n = true
    · rw [if_pos g, if_pos (h n (by omega) g)]
      omega
    · rw [if_neg g]
      omega
/-- wires of S join knots: at most one set less for each -/
theorem pl_uf (K : Nat) (A B : Nat → Nat) (S : Nat → Bool) (n : Nat) (hA : ∀ w, w < n → A w < K ∧ B w < K) : ∀ m, m ≤ n → ∃ l : Nat → Nat, (∀ k, k < K → l k < K ∧ l (l k) = l k) ∧ (∀ w, w < m → S w = true → l (A w) = l (B w)) ∧ K ≤ ds_cnt K (fun x => decide (l x = x)) + ds_cnt m S
  | 0, _ => ⟨fun k => k, fun k hk => ⟨hk, rfl⟩, fun w hw => absurd hw (by omega), by
      have : ∀ m, ds_cnt m (fun x => decide ((fun k => k) x = x)) = m := fun m => by
        induction m with
        | zero => rfl
        | succ m ih => rw [ds_cnt, ih]; simp
      rw [this K]
      exact Nat.le_add_right _ _⟩
  | m + 1, hm => by
    obtain ⟨l, h1, h2, h3⟩ := pl_uf K A B S n hA m (by omega)
    obtain ⟨ha, hb⟩ := hA m (by omega)
    by_cases g : S m = true ∧ l (A m) ≠ l (B m)
    · obtain ⟨g1, g2⟩ := g
      have key : ∀ k, k < K → (if l k = l (A m) then l (B m) else l k) = l (if l k = l (A m) then l (B m) else l k) := fun k hk => by
        by_cases q : l k = l (A m)
        · rw [if_pos q, (h1 _ hb).2]
        · rw [if_neg q, (h1 _ hk).2]
      refine ⟨fun k => if l k = l (A m) then l (B m) else l k, fun k hk => ⟨?_, ?_⟩, fun w hw hs => ?_, ?_⟩
      · dsimp only
        by_cases q : l k = l (A m)
        · rw [if_pos q]; exact (h1 _ hb).1
        · rw [if_neg q]; exact (h1 _ hk).1
      · dsimp only
        rw [← key k hk]
        by_cases q : l k = l (A m)
        · rw [if_pos q, if_neg (fun e => g2 e.symm)]
        · rw [if_neg q, if_neg q]
      · dsimp only
        by_cases q : w = m
        · rw [q, if_pos rfl, if_neg (fun e => g2 e.symm)]
        · rw [h2 w (by omega) hs]
      · have e1 : (fun x => decide (l x = x)) (l (A m)) = true := decide_eq_true (h1 _ ha).2
        have e2 := ds_cnt_off (fun x => decide (l x = x)) (l (A m)) e1 K (h1 _ ha).1
        have e3 : ds_cnt K (ds_off (fun x => decide (l x = x)) (l (A m))) = ds_cnt K (fun x => decide ((if l x = l (A m) then l (B m) else l x) = x)) := ds_cnt_congr K (fun x hx => by
          unfold ds_off
          by_cases q : x = l (A m)
          · rw [if_pos q, q, (h1 _ ha).2, if_pos rfl]
            exact (decide_eq_false (fun e => g2 e.symm)).symm
          · rw [if_neg q]
            by_cases q2 : l x = l (A m)
            · rw [if_pos q2]
              have n1 : ¬ l x = x := fun e => q (by rw [← q2, e])
              have n2 : ¬ l (B m) = x := fun e => by
                have := (h1 _ hb).2
                rw [e] at this
                rw [← e, e, this] at q2
                exact g2 (by rw [← q2, e])
              show decide (l x = x) = _
              rw [decide_eq_false n1, decide_eq_false n2]
            · rw [if_neg q2])
        rw [← e3, ds_cnt, if_pos g1]
        omega
    · refine ⟨l, h1, fun w hw hs => ?_, ?_⟩
      · by_cases q : w = m
        · rw [q]
          rw [q] at hs
          exact Classical.byContradiction (fun e => g ⟨hs, e⟩)
        · exact h2 w (by omega) hs
      · rw [ds_cnt]
        omega
/-- a flow is what the places of the faces say, if a tree of wires says so -/
theorem pl_cons {K n F : Nat} {A B fc nx : Nat → Nat} (hF : pl_Fc n A B fc nx) (hA : ∀ w, w < n → A w < K ∧ B w < K) (hE : K + F = n + 2)
    (hconn : ∀ q : Nat → Int, (∀ w, w < n → q (A w) = q (B w)) → ∀ k j, k < K → j < K → q k = q j)
    (o tw : Nat → Nat) (ho : ∀ i j, i < F → j < F → o i = o j → i = j)
    (ht : ∀ j, 1 ≤ j → j < F → tw j < n ∧ ∃ i, i < j ∧ ((fc (2 * tw j) = o i ∧ fc (2 * tw j + 1) = o j) ∨ (fc (2 * tw j) = o j ∧ fc (2 * tw j + 1) = o i)))
    (c p : Nat → Int) (hdiv : ∀ k, k < K → ds_sum n (fun w => c w * (ds_i k (A w) - ds_i k (B w))) = 0)
    (hp : ∀ j, 1 ≤ j → j < F → p (fc (2 * tw j + 1)) - p (fc (2 * tw j)) = c (tw j)) :
    ∀ w, w < n → p (fc (2 * w + 1)) - p (fc (2 * w)) = c w := by
  -- S1
  have S1 : ∀ q : Nat → Int, ds_sum n (fun w => (c w - (p (fc (2 * w + 1)) - p (fc (2 * w)))) * (q (A w) - q (B w))) = 0 := by
    intro q
    have e1 : ds_sum n (fun w => c w * (q (A w) - q (B w))) = 0 := by
      have e2 : ds_sum n (fun w => c w * (q (A w) - q (B w))) = ds_sum n (fun w => ds_sum K (fun k => q k * (c w * (ds_i k (A w) - ds_i k (B w))))) := ds_congr (fun w hw => by
        have a1 := ds_sum_e2 q (A w) K
        have a2 := ds_sum_e2 q (B w) K
        rw [if_pos (hA w hw).1] at a1
        rw [if_pos (hA w hw).2] at a2
        rw [← a1, ← a2, ← ds_sub, ← ds_mul]
        refine ds_congr (fun k _ => ?_)
        show c w * (q k * ds_i k (A w) - q k * ds_i k (B w)) = _
        grind)
      rw [e2, ds_swap (fun w k => q k * (c w * (ds_i k (A w) - ds_i k (B w)))) K n, ← ds_zero K]
      refine ds_congr (fun k hk => ?_)
      rw [ds_mul, hdiv k hk, Int.mul_zero]
    have e3 := pl_ortho hF p q
    have e4 : ds_sum n (fun w => (c w - (p (fc (2 * w + 1)) - p (fc (2 * w)))) * (q (A w) - q (B w))) = ds_sum n (fun w => c w * (q (A w) - q (B w)) + (p (fc (2 * w)) - p (fc (2 * w + 1))) * (q (A w) - q (B w))) := ds_congr (fun w _ => by grind)
    rw [e4, ds_add, e1, e3]
    rfl
  let isT : Nat → Prop := fun w => ∃ j, 1 ≤ j ∧ j < F ∧ tw j = w
  have hTi : ∀ i j, 1 ≤ i → i < F → 1 ≤ j → j < F → tw i = tw j → i = j := by
    have half : ∀ i j, 1 ≤ i → i < j → j < F → tw i ≠ tw j := by
      intro i j h1 h2 h3 e
      obtain ⟨_, x, hx, d1⟩ := ht i h1 (by omega)
      obtain ⟨_, y, hy, d2⟩ := ht j (by omega) h3
      rw [← e] at d2
      rcases d1 with ⟨a, b⟩ | ⟨a, b⟩ <;> rcases d2 with ⟨a2, b2⟩ | ⟨a2, b2⟩
      · have := ho i j (by omega) (by omega) (by rw [← b, b2])
        omega
      · have := ho x j (by omega) (by omega) (by rw [← a, a2])
        omega
      · have := ho x j (by omega) (by omega) (by rw [← b, b2])
        omega
      · have := ho i j (by omega) (by omega) (by rw [← a, a2])
        omega
    intro i j h1 h2 h3 h4 e
    rcases Nat.lt_trichotomy i j with g | g | g
    · exact absurd e (half i j h1 g h4)
    · exact g
    · exact absurd e.symm (half j i h3 g h2)
  -- S3
  have S3 : ∀ q : Nat → Int, (∀ w, w < n → ¬ isT w → q (A w) = q (B w)) → ∀ w, w < n → q (A w) = q (B w) := by
    intro q hq
    have back : ∀ d j, j + d = F → 1 ≤ j → ∀ l, j ≤ l → l < F → q (A (tw l)) = q (B (tw l)) := by
      intro d
      induction d with
      | zero => intro j h1 h2 l h3 h4; omega
      | succ d ih =>
        intro j h1 h2 l h3 h4
        by_cases g : l = j
        · subst g
          obtain ⟨hw, i, hi, hd⟩ := ht l h2 h4
          have e := pl_ortho hF (fun f => ds_i f (o l)) q
          rw [ds_sum_one _ (tw l) n hw (fun w hwn hne => by
            by_cases t : isT w
            · obtain ⟨m, m1, m2, m3⟩ := t
              rcases Nat.lt_trichotomy m l with g2 | g2 | g2
              · obtain ⟨_, x, hx, hd2⟩ := ht m m1 m2
                have n1 : ds_i (fc (2 * w)) (o l) = 0 := ds_i0 (fun e => by
                  rw [m3] at hd2
                  rcases hd2 with ⟨a, _⟩ | ⟨a, _⟩
                  · have := ho x l (by omega) (by omega) (by rw [← a, e]); omega
                  · have := ho m l (by omega) (by omega) (by rw [← a, e]); omega)
                have n2 : ds_i (fc (2 * w + 1)) (o l) = 0 := ds_i0 (fun e => by
                  rw [m3] at hd2
                  rcases hd2 with ⟨_, a⟩ | ⟨_, a⟩
                  · have := ho m l (by omega) (by omega) (by rw [← a, e]); omega
                  · have := ho x l (by omega) (by omega) (by rw [← a, e]); omega)
                rw [n1, n2]
                omega
              · exact absurd (by rw [← m3, g2]) hne
              · have := ih (l + 1) (by omega) (by omega) m (by omega) m2
                rw [m3] at this
                rw [this, Int.sub_self, Int.mul_zero]
            · rw [hq w hwn t, Int.sub_self, Int.mul_zero])] at e
          have ne : o i ≠ o l := fun e => by
            have := ho i l (by omega) (by omega) e
            omega
          rcases hd with ⟨a, b⟩ | ⟨a, b⟩
          · rw [a, b, ds_i0 ne, ds_i1] at e
            omega
          · rw [a, b, ds_i0 ne, ds_i1] at e
            omega
        · exact ih (j + 1) (by omega) (by omega) l (by omega) h4
    intro w hw
    by_cases t : isT w
    · obtain ⟨m, m1, m2, m3⟩ := t
      have := back (F - 1) 1 (by omega) (Nat.le_refl _) m m1 m2
      rw [m3] at this
      exact this
    · exact hq w hw t
  -- S4
  intro e he
  by_cases t : isT e
  · obtain ⟨m, m1, m2, m3⟩ := t
    have := hp m m1 m2
    rw [m3] at this
    exact this
  have hdec : ∃ T : Nat → Bool, ∀ w, T w = true ↔ isT w := ⟨fun w => @decide (isT w) (Classical.propDecidable _), fun w => @decide_eq_true_iff (isT w) (Classical.propDecidable _)⟩
  obtain ⟨T, hT⟩ := hdec
  have c1 : F - 1 ≤ ds_cnt n T := ds_cnt_ge (F - 1) n T (fun i => tw (i + 1)) (fun i hi => ⟨(ht (i + 1) (by omega) (by omega)).1, (hT _).mpr ⟨i + 1, by omega, by omega, rfl⟩⟩) (fun i j hi hj h => by
    have := hTi (i + 1) (j + 1) (by omega) (by omega) (by omega) (by omega) h
    omega)
  have c2 := ds_cnt_not T n
  have c3 : (fun i => !T i) e = true := by
    show (!T e) = true
    cases q : T e with
    | false => rfl
    | true => exact absurd ((hT e).mp q) t
  have c4 := ds_cnt_off (fun i => !T i) e c3 n he
  obtain ⟨l, l1, l2, l3⟩ := pl_uf K A B (ds_off (fun i => !T i) e) n hA n (Nat.le_refl _)
  -- two sets at least
  have two : ∃ x y, x < K ∧ y < K ∧ x ≠ y ∧ l x = x ∧ l y = y := by
    have n0 : ds_cnt K (fun x => decide (l x = x)) ≠ 0 := by omega
    obtain ⟨x, hx, hlx⟩ := ds_cnt_1 _ K n0
    have e2 := ds_cnt_off (fun x => decide (l x = x)) x hlx K hx
    obtain ⟨y, hy, hly⟩ := ds_cnt_1 (ds_off (fun x => decide (l x = x)) x) K (by omega)
    unfold ds_off at hly
    by_cases g : y = x
    · rw [if_pos g] at hly
      exact absurd hly (by decide)
    · rw [if_neg g] at hly
      exact ⟨x, y, hx, hy, fun h => g h.symm, of_decide_eq_true hlx, of_decide_eq_true hly⟩
  obtain ⟨x, y, hx, hy, hxy, hlx, hly⟩ := two
  have hS : ∀ w, w < n → w ≠ e → ¬ isT w → l (A w) = l (B w) := fun w hw hne hnt => l2 w hw (by
    unfold ds_off
    rw [if_neg hne]
    show (!T w) = true
    cases q : T w with
    | false => rfl
    | true => exact absurd ((hT w).mp q) hnt)
  have hne : ds_i (l (A e)) x ≠ ds_i (l (B e)) x := by
    intro h
    have a1 := S3 (fun k => ds_i (l k) x) (fun w hw hnt => by
      by_cases g : w = e
      · rw [g]; exact h
      · show ds_i (l (A w)) x = ds_i (l (B w)) x
        rw [hS w hw g hnt])
    have a2 := hconn (fun k => ds_i (l k) x) a1 x y hx hy
    rw [hlx, hly, ds_i1, ds_i0 (fun h => hxy h.symm)] at a2
    exact absurd a2 (by decide)
  have s := S1 (fun k => ds_i (l k) x)
  rw [ds_sum_one _ e n he (fun w hw hn => by
    by_cases g : isT w
    · obtain ⟨m, m1, m2, m3⟩ := g
      have := hp m m1 m2
      rw [m3] at this
      rw [this, Int.sub_self, Int.zero_mul]
    · rw [hS w hw hn g, Int.sub_self, Int.mul_zero])] at s
  rcases Int.mul_eq_zero.mp s with g | g
  · omega
  · exact absurd (by omega) hne
/-- how often the squares cover the unit at x, y -/
theorem pl_cell {n b : Nat} {A B fc nx : Nat → Nat} (hF : pl_Fc n A B fc nx) (hb : b < n) (p h : Nat → Int) (x y : Int) :
    ds_sum n (fun w => if w = b then 0 else ((if x < p (fc (2 * w + 1)) then 1 else 0) - (if x < p (fc (2 * w)) then 1 else 0)) * ((if y < h (A w) then 1 else 0) - (if y < h (B w) then 1 else 0))) = ((if x < p (fc (2 * b)) then 1 else 0) - (if x < p (fc (2 * b + 1)) then 1 else 0)) * ((if y < h (A b) then 1 else 0) - (if y < h (B b) then 1 else 0)) := by
  have e := pl_ortho hF (fun f => if x < p f then 1 else 0) (fun k => if y < h k then 1 else 0)
  have e1 : ds_sum n (fun w => ((if x < p (fc (2 * w)) then (1 : Int) else 0) - (if x < p (fc (2 * w + 1)) then 1 else 0)) * ((if y < h (A w) then 1 else 0) - (if y < h (B w) then 1 else 0))) = ds_sum n (fun w => (if w = b then ((if x < p (fc (2 * w)) then (1 : Int) else 0) - (if x < p (fc (2 * w + 1)) then 1 else 0)) * ((if y < h (A w) then 1 else 0) - (if y < h (B w) then 1 else 0)) else 0) - (if w = b then 0 else ((if x < p (fc (2 * w + 1)) then (1 : Int) else 0) - (if x < p (fc (2 * w)) then 1 else 0)) * ((if y < h (A w) then 1 else 0) - (if y < h (B w) then 1 else 0)))) := ds_congr (fun w _ => by
    by_cases g : w = b
    · rw [if_pos g, if_pos g]
      omega
    · rw [if_neg g, if_neg g]
      grind)
  rw [e1, ds_sub, ds_one, if_pos hb] at e
  omega

/-! ===== PURE 27: about ===== -/
section
variable {K n F : Nat} {a b t : Nat → Nat} {u : Nat → Nat → Nat} {f : Nat → Nat}
/-- the dart ahead -/
theorem ab_pv (h : nt_Ok K n a b t u) : ∃ pv : Nat → Nat, ∀ e, e < 2 * n → pv e < 2 * n ∧ pl_nx a b t u (pv e) = e := by
  have ex : ∀ e, e < 2 * n → ∃ d, d < 2 * n ∧ pl_nx a b t u d = e := by
    intro e he
    refine Classical.byContradiction (fun hno => ?_)
    have := pz_pigeon (2 * n - 1) (2 * n) (fun d => if pl_nx a b t u d = 2 * n - 1 then e else pl_nx a b t u d) (fun d hd => by
      have q := (nt_nx h hd).1
      have ne : pl_nx a b t u d ≠ e := fun z => hno ⟨d, hd, z⟩
      by_cases g : pl_nx a b t u d = 2 * n - 1
      · rw [if_pos g]; omega
      · rw [if_neg g]; omega) (fun x y hx hy e' => by
      have nx1 : pl_nx a b t u x ≠ e := fun z => hno ⟨x, hx, z⟩
      have nx2 : pl_nx a b t u y ≠ e := fun z => hno ⟨y, hy, z⟩
      by_cases g : pl_nx a b t u x = 2 * n - 1
      · by_cases g2 : pl_nx a b t u y = 2 * n - 1
        · exact nt_inj h hx hy (by rw [g, g2])
        · rw [if_pos g, if_neg g2] at e'
          exact absurd e'.symm nx2
      · by_cases g2 : pl_nx a b t u y = 2 * n - 1
        · rw [if_neg g, if_pos g2] at e'
          exact absurd e' nx1
        · rw [if_neg g, if_neg g2] at e'
          exact nt_inj h hx hy e')
    omega
  exact ⟨fun e => if he : e < 2 * n then Classical.choose (ex e he) else 0, fun e he => by
    dsimp only
    rw [dif_pos he]
    exact Classical.choose_spec (ex e he)⟩
def ab_it (pv : Nat → Nat) (d0 : Nat) : Nat → Nat
  | 0 => d0
  | i + 1 => pv (ab_it pv d0 i)
theorem ab_ring (h : nt_Ok K n a b t u) (hF : tr_Faces n F (pl_nx a b t u) f) (hne : ∀ w, w < n → f (2 * w) ≠ f (2 * w + 1)) {pv : Nat → Nat} (hpv : ∀ e, e < 2 * n → pv e < 2 * n ∧ pl_nx a b t u (pv e) = e) {d0 : Nat} (hd : d0 < 2 * n) :
    (∀ i, ab_it pv d0 i < 2 * n ∧ f (ab_it pv d0 i) = f d0) ∧ ∃ len, 1 ≤ len ∧ len ≤ n ∧ ab_it pv d0 len = d0 ∧ (∀ i, 0 < i → i < len → ab_it pv d0 i ≠ d0) ∧ ∀ i j, i < len → j < len → ab_it pv d0 i / 2 = ab_it pv d0 j / 2 → i = j := by
  have hin : ∀ i, ab_it pv d0 i < 2 * n ∧ f (ab_it pv d0 i) = f d0 := by
    intro i
    induction i with
    | zero => exact ⟨hd, rfl⟩
    | succ i ih =>
      obtain ⟨q1, q2⟩ := hpv _ ih.1
      refine ⟨q1, ?_⟩
      have := (hF.1 _ q1).2
      rw [q2] at this
      show f (pv (ab_it pv d0 i)) = f d0
      rw [← this]
      exact ih.2
  have pinj : ∀ x y, x < 2 * n → y < 2 * n → pv x = pv y → x = y := fun x y hx hy e => by
    rw [← (hpv x hx).2, e, (hpv y hy).2]
  have back : ∀ i d, ab_it pv d0 i = ab_it pv d0 (i + d) → ab_it pv d0 d = d0 := by
    intro i
    induction i with
    | zero => intro d e; rw [Nat.zero_add] at e; exact e.symm
    | succ i ih =>
      intro d e
      refine ih d (pinj _ _ (hin i).1 (hin (i + d)).1 ?_)
      rw [show i + 1 + d = i + d + 1 by omega] at e
      exact e
  have ex : ∃ l, 1 ≤ l ∧ ab_it pv d0 l = d0 := by
    refine Classical.byContradiction (fun hno => ?_)
    have := pz_pigeon (2 * n) (2 * n + 1) (ab_it pv d0) (fun i _ => (hin i).1) (fun i j _ _ e => by
      rcases Nat.lt_trichotomy i j with g | g | g
      · exact absurd ⟨j - i, by omega, back i (j - i) (by rw [show i + (j - i) = j by omega]; exact e)⟩ hno
      · exact g
      · exact absurd ⟨i - j, by omega, back j (i - j) (by rw [show j + (i - j) = i by omega]; exact e.symm)⟩ hno)
    omega
  -- the least
  have least : ∀ m, (∃ l, 1 ≤ l ∧ l ≤ m ∧ ab_it pv d0 l = d0) → ∃ l, 1 ≤ l ∧ ab_it pv d0 l = d0 ∧ ∀ i, 0 < i → i < l → ab_it pv d0 i ≠ d0 := by
    intro m
    induction m with
    | zero => rintro ⟨l, h1, h2, _⟩; omega
    | succ m ih =>
      intro hex
      by_cases g : ∃ l, 1 ≤ l ∧ l ≤ m ∧ ab_it pv d0 l = d0
      · exact ih g
      · obtain ⟨l, h1, h2, h3⟩ := hex
        exact ⟨l, h1, h3, fun i i1 i2 e => g ⟨i, i1, by omega, e⟩⟩
  obtain ⟨l0, k1, k2⟩ := ex
  obtain ⟨len, m1, m2, m3⟩ := least l0 ⟨l0, k1, Nat.le_refl _, k2⟩
  have dist : ∀ i j, i < len → j < len → ab_it pv d0 i / 2 = ab_it pv d0 j / 2 → i = j := by
    intro i j hi hj e
    have same : ab_it pv d0 i = ab_it pv d0 j := by
      have f1 := (hin i).2
      have f2 := (hin j).2
      have b1 := (hin i).1
      have key : ∀ w x y, w < n → x = 2 * w → y = 2 * w + 1 → f x = f y → False := fun w x y hw hx hy e => by
        rw [hx, hy] at e
        exact hne w hw e
      rcases Nat.lt_trichotomy (ab_it pv d0 i) (ab_it pv d0 j) with g | g | g
      · exact (key (ab_it pv d0 i / 2) _ _ (by omega) (by omega) (by omega) (show f (ab_it pv d0 i) = f (ab_it pv d0 j) by rw [f1, f2])).elim
      · exact g
      · exact (key (ab_it pv d0 i / 2) _ _ (by omega) (by omega) (by omega) (show f (ab_it pv d0 j) = f (ab_it pv d0 i) by rw [f1, f2])).elim
    rcases Nat.lt_trichotomy i j with g | g | g
    · exact absurd (back i (j - i) (by rw [show i + (j - i) = j by omega]; exact same)) (m3 (j - i) (by omega) (by omega))
    · exact g
    · exact absurd (back j (i - j) (by rw [show j + (i - j) = i by omega]; exact same.symm)) (m3 (i - j) (by omega) (by omega))
  exact ⟨hin, len, m1, pz_pigeon n len (fun i => ab_it pv d0 i / 2) (fun i _ => by have := (hin i).1; omega) dist, m2, m3, dist⟩
end
/-- rows of rings, g of each written -/
def ab_T (el : Nat → Nat → Nat) (g : Nat → Nat) (tu : Nat → Int32) : Nat → Int32 := fun x => if x % 22 < g (x / 22) then nI (el (x / 22) (x % 22) / 2) else tu x
def ab_S (F : Nat) (g : Nat → Nat) (ts : Nat → Int32) : Nat → Int32 := fun k => if k < F then nI (g k) else ts k
theorem ab_Ts (el : Nat → Nat → Nat) (g : Nat → Nat) (tu : Nat → Int32) {l i : Nat} (hi : i < 22) (hg : g l = i) : upd (ab_T el g tu) (22 * l + i) (nI (el l i / 2)) = ab_T el (pp_u g l (i + 1)) tu := by
  funext x
  unfold ab_T
  by_cases e : x = 22 * l + i
  · rw [e, tr_u1, show (22 * l + i) / 22 = l by omega, show (22 * l + i) % 22 = i by omega, pp_u1, if_pos (by omega)]
  · rw [tr_u2 _ _ e]
    by_cases e2 : x / 22 = l
    · rw [e2, pp_u1]
      have ne : x % 22 ≠ i := by omega
      by_cases q : x % 22 < g l
      · rw [if_pos q, if_pos (by omega)]
      · rw [if_neg q, if_neg (by omega)]
    · rw [pp_u2 g _ e2]
theorem ab_Ss {F : Nat} (g : Nat → Nat) (ts : Nat → Int32) {l i : Nat} (hl : l < F) : upd (ab_S F g ts) l (nI i) = ab_S F (pp_u g l i) ts := by
  funext x
  unfold ab_S
  by_cases e : x = l
  · rw [e, tr_u1, if_pos hl, pp_u1]
  · rw [tr_u2 _ _ e, pp_u2 g _ e]
theorem ab_uu (g : Nat → Nat) (l i j : Nat) : pp_u (pp_u g l i) l j = pp_u g l j := by
  funext x
  by_cases e : x = l
  · rw [e, pp_u1, pp_u1]
  · rw [pp_u2 _ _ e, pp_u2 _ _ e, pp_u2 _ _ e]
theorem ab_u0 (g : Nat → Nat) (l : Nat) {i : Nat} (h : g l = i) : pp_u g l i = g := by
  funext x
  by_cases e : x = l
  · rw [e, pp_u1, h]
  · rw [pp_u2 _ _ e]
section
variable {K n F : Nat} {a b t : Nat → Nat} {u : Nat → Nat → Nat} {f : Nat → Nat} {fC da fM fi se ts tu : Nat → Int32} {pv : Nat → Nat} {el : Nat → Nat → Nat} {len : Nat → Nat}
theorem ab_cring (hn : n ≤ 22) (hF12 : F ≤ 12) {l d0 L : Nat} (hl : l < F) (hd : d0 < 2 * n) (hfl : fC d0 = nI l) (hda : ∀ e, e < 2 * n → da e = nI (pv e)) (hin : ∀ i, ab_it pv d0 i < 2 * n) (h1 : 1 ≤ L) (hL : L ≤ n) (hL2 : ab_it pv d0 L = d0) (hL3 : ∀ i, 0 < i → i < L → ab_it pv d0 i ≠ d0) (hel : ∀ i, el l i = ab_it pv d0 i) (g : Nat → Nat) (hg : g l = 0) (ts0 tu0 : Nat → Int32) :
    fX0_layRing fC da (ab_S F g ts0) (ab_T el g tu0) (nI d0) = some (ab_S F (pp_u g l L) ts0, ab_T el (pp_u g l L) tu0) := by
  obtain ⟨r, l1, l2⟩ := pz_fin (body := bX0_layRing_13 fC da (nI d0) (nI l)) (fun i st => st = (nI (ab_it pv d0 i), nI i, ab_S F (pp_u g l i) ts0, ab_T el (pp_u g l i) tu0)) (fun r => r = (ab_S F (pp_u g l L) ts0, ab_T el (pp_u g l L) tu0)) L (by
    rintro i st hi rfl
    unfold bX0_layRing_13
    dsimp only
    have hi1 := hin i
    rcases Nat.lt_or_ge i L with q | q
    · right
      refine ⟨q, _, ?_, rfl⟩
      have step : jX0_layRing_31 fC da (ab_S F (pp_u g l i) ts0) (ab_T el (pp_u g l i) tu0) (nI d0) (nI l) (nI (ab_it pv d0 i)) (nI i) = some (.inr (nI (ab_it pv d0 (i + 1)), nI (i + 1), ab_S F (pp_u g l (i + 1)) ts0, ab_T el (pp_u g l (i + 1)) tu0)) := by
        unfold jX0_layRing_31 fX4_addToTurn
        have eS : ab_S F (pp_u g l i) ts0 l = nI i := by unfold ab_S; rw [if_pos hl, pp_u1]
        rw [pz_gd (pz_in (show l < 12 by omega) (by decide)), nI_clamp (show l < 2 ^ 31 by omega), eS, if_neg (show ¬ (22 : Int32) ≤ nI i from nI_ge (b := 22) (by omega) (by omega)), pz_22, pz_gd (pz_in (show 22 * l + i < 264 by omega) (by decide)), pz_let, pz_let, pz_bs, nI_clamp (show 22 * l + i < 2 ^ 31 by omega), (nt_d1 (ab_it pv d0 i) (by omega)).1, nI_1, pz_gd (pz_in (show ab_it pv d0 i < 44 by omega) (by decide)), pz_let, pz_let, nI_clamp (show ab_it pv d0 i < 2 ^ 31 by omega), hda _ hi1]
        dsimp only
        rw [← hel i, ab_Ts el _ tu0 (by omega) (pp_u1 g l i), ab_Ss _ ts0 hl, ab_uu]
        rw [hel i]
        rfl
      by_cases e : i = 0
      · rw [if_pos (by rw [e]; rfl)]
        exact step
      · rw [if_neg (nI_ne0 (by omega) (by omega)), if_neg (show ¬ (44 : Int32) ≤ nI i from nI_ge (b := 44) (by omega) (by omega)), if_neg (pz_nz (by omega) (by omega) (hL3 i (by omega) q))]
        exact step
    · left
      have e : i = L := by omega
      subst e
      refine ⟨_, ?_, rfl⟩
      rw [if_neg (nI_ne0 (by omega) (by omega)), if_neg (show ¬ (44 : Int32) ≤ nI i from nI_ge (b := 44) (by omega) (by omega)), if_pos (by rw [hL2])]) 1000 0 (nI d0, 0, ab_S F g ts0, ab_T el g tu0) (by omega) (by rw [ab_u0 g l hg]; rfl) (by omega)
  unfold fX0_layRing
  rw [pz_gd (pz_in (show d0 < 44 by omega) (by decide)), pz_let, nI_clamp (by omega), hfl, l1, pz_bs, l2]
theorem ab_before (hok : nt_Ok K n a b t u) (his : nt_Is K n a b t u fi se ts tu) (hK : K ≤ 12) (hn : n ≤ 22) (hpv : ∀ e, e < 2 * n → pv e < 2 * n ∧ pl_nx a b t u (pv e) = e) {e : Nat} (he : e < 2 * n) {body : Int32 → Option (Int32 ⊕ Int32)} (hb : ∀ st, body st = dk_bnd (fX7_behind fi se tu ts st) (fun r => if r = nI e then some (.inl st) else dk_let (st + 1) (fun x => some (.inr x)))) : dk_loop body 1000 0 = some (nI (pv e)) := by
  obtain ⟨p1, p2⟩ := hpv e he
  obtain ⟨r, l1, l2⟩ := pz_fin (body := body) (fun j st => st = nI j) (fun r => r = nI (pv e)) (pv e) (by
    rintro j st hj rfl
    have hj2 : j < 2 * n := by omega
    have q := (nt_nx hok hj2).1
    rw [hb, nt_beh7 hok his hK hn hj2, pz_bs]
    by_cases g : j = pv e
    · left
      rw [if_pos (by rw [g, p2])]
      exact ⟨_, rfl, by rw [g]⟩
    · right
      rw [if_neg (pz_nz (by omega) (by omega) (fun z => g (nt_inj hok hj2 p1 (by rw [z, p2])))), pz_let]
      exact ⟨by omega, nI j + 1, rfl, nI_1 j⟩) 1000 0 0 (by omega) rfl (by omega)
  rw [l1, l2]
end

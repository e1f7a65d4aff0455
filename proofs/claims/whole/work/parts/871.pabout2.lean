/-! ===== PURE 27b: about, both sides ===== -/
def ab_c (m : Nat) (len : Nat → Nat) : Nat → Nat := fun l => if l < m then len l else 0
theorem ab_cs (m : Nat) (len : Nat → Nat) : pp_u (ab_c m len) m (len m) = ab_c (m + 1) len := by
  funext x
  unfold ab_c
  by_cases e : x = m
  · rw [e, pp_u1, if_pos (by omega)]
  · rw [pp_u2 _ _ e]
    by_cases q : x < m
    · rw [if_pos q, if_pos (by omega)]
    · rw [if_neg q, if_neg (by omega)]
/-- a loop that fills a row -/
theorem ab_fill {m N : Nat} {x : Int32} (hx : x = nI m) (hm : m ≤ N) (hN : N ≤ 264) {body : Int32 × (Nat → Int32) → Option ((Nat → Int32) ⊕ (Int32 × (Nat → Int32)))} (s : Nat → Int32) (f : Nat → Int32) (hb : ∀ j, j < m → ∀ g, body (nI j, g) = some (.inr (nI (j + 1), upd g j (s j)))) (he : ∀ g, body (nI m, g) = some (.inl g)) : dk_loop body 1000 (0, f) = some (pz_cp s f m) := by
  obtain ⟨r, l1, l2⟩ := pz_fin (body := body) (fun j st => st = (nI j, pz_cp s f j)) (fun r => r = pz_cp s f m) m (by
    rintro j st hj rfl
    rcases Nat.lt_or_ge j m with q | q
    · right
      exact ⟨q, _, hb j q _, by rw [pz_cpS]⟩
    · left
      have e : j = m := by omega
      subst e
      exact ⟨_, he _, rfl⟩) 1000 0 (0, f) (by omega) (by rw [pz_cp0]; rfl) (by omega)
  rw [l1, l2]
section
variable {K n F : Nat} {a b t : Nat → Nat} {u : Nat → Nat → Nat} {f : Nat → Nat} {fC da fM fi se cu ts tu : Nat → Int32} {pv dl : Nat → Nat} {el : Nat → Nat → Nat} {len : Nat → Nat}
theorem ab_least (hF : tr_Faces n F (pl_nx a b t u) f) : ∃ dl : Nat → Nat, ∀ l, l < F → dl l < 2 * n ∧ f (dl l) = l ∧ ∀ d, d < dl l → f d ≠ l := by
  have ex : ∀ l, l < F → ∃ d, d < 2 * n ∧ f d = l ∧ ∀ d', d' < d → f d' ≠ l := by
    intro l hl
    obtain ⟨d, d1, d2⟩ := hF.2.1 l hl
    have lst : ∀ m, (∃ d, d ≤ m ∧ d < 2 * n ∧ f d = l) → ∃ d, d < 2 * n ∧ f d = l ∧ ∀ d', d' < d → f d' ≠ l := by
      intro m
      induction m with
      | zero => rintro ⟨d, h1, h2, h3⟩; exact ⟨d, h2, h3, fun d' hd' => by omega⟩
      | succ m ih =>
        intro hex
        by_cases g : ∃ d, d ≤ m ∧ d < 2 * n ∧ f d = l
        · exact ih g
        · obtain ⟨d, h1, h2, h3⟩ := hex
          exact ⟨d, h2, h3, fun d' hd' e => g ⟨d', by omega, by omega, e⟩⟩
    exact lst d ⟨d, Nat.le_refl _, d1, d2⟩
  exact ⟨fun l => if hl : l < F then Classical.choose (ex l hl) else 0, fun l hl => by
    dsimp only
    rw [dif_pos hl]
    exact Classical.choose_spec (ex l hl)⟩
theorem ab_cut (hn : n ≤ 22) : ∃ v, fX4_hasCutWire cu (nI n) = some v ∧ (v = 0 ↔ ∀ w, w < n → cu w = 0) := by
  obtain ⟨r, l1, l2⟩ := pz_fin (body := bX4_hasCutWire_2 cu (nI n)) (fun j st => st = nI j ∧ ∀ w, w < j → cu w = 0) (fun r => (r = .inr () ∧ ∀ w, w < n → cu w = 0) ∨ (r = .inl 1 ∧ ¬ ∀ w, w < n → cu w = 0)) n (by
    rintro j st hj ⟨rfl, hz⟩
    unfold bX4_hasCutWire_2
    rcases Nat.lt_or_ge j n with q | q
    · rw [if_neg (nI_ge q (by omega)), pz_gd (pz_in (show j < 22 by omega) (by decide)), nI_clamp (by omega)]
      by_cases g : cu j = 0
      · right
        rw [if_pos g, pz_let]
        refine ⟨q, nI j + 1, rfl, nI_1 j, fun w hw => ?_⟩
        by_cases e : w = j
        · rw [e]; exact g
        · exact hz w (by omega)
      · left
        rw [if_neg g]
        exact ⟨_, rfl, Or.inr ⟨rfl, fun z => g (z j q)⟩⟩
    · left
      have e : j = n := by omega
      subst e
      exact ⟨_, by rw [if_pos (nI_le (Nat.le_refl _) (by omega))], Or.inl ⟨rfl, hz⟩⟩) 1000 0 0 (by omega) ⟨rfl, fun w hw => absurd hw (by omega)⟩ (by omega)
  unfold fX4_hasCutWire
  rw [l1, pz_bs]
  rcases l2 with ⟨rfl, h⟩ | ⟨rfl, h⟩
  · exact ⟨0, rfl, ⟨fun _ => h, fun _ => rfl⟩⟩
  · exact ⟨1, rfl, ⟨fun z => absurd z (by decide), fun z => absurd z h⟩⟩
theorem ab_rl (hn : n ≤ 22) (hF : F ≤ 22) (hfc : ∀ d, d < 2 * n → f d < F ∧ fC d = nI (f d)) {w : Nat} (hw : w < n) : fX0_rightOf fC (nI w) = some (nI (f (2 * w))) ∧ fX0_leftOf fC (nI w) = some (nI (f (2 * w + 1))) := by
  unfold fX0_rightOf fX0_leftOf
  rw [show (2 : Int32) * nI w = nI (2 * w) from pk_mul 2 w, nI_1, pz_gd (pz_in (by omega) (by decide)), pz_gd (pz_in (by omega) (by decide)), nI_clamp (by omega), nI_clamp (by omega), (hfc _ (by omega)).2, (hfc _ (by omega)).2]
  exact ⟨rfl, rfl⟩
theorem ab_one (hn : n ≤ 22) (hF : F ≤ 22) (hfc : ∀ d, d < 2 * n → f d < F ∧ fC d = nI (f d)) : ∃ v, fX0_hasWireWithinOneFace fC (nI n) = some v ∧ (v = 0 ↔ ∀ w, w < n → f (2 * w) ≠ f (2 * w + 1)) := by
  obtain ⟨r, l1, l2⟩ := pz_fin (body := bX0_hasWireWithinOneFace_2 fC (nI n)) (fun j st => st = nI j ∧ ∀ w, w < j → f (2 * w) ≠ f (2 * w + 1)) (fun r => (r = .inr () ∧ ∀ w, w < n → f (2 * w) ≠ f (2 * w + 1)) ∨ (r = .inl 1 ∧ ¬ ∀ w, w < n → f (2 * w) ≠ f (2 * w + 1))) n (by
    rintro j st hj ⟨rfl, hz⟩
    unfold bX0_hasWireWithinOneFace_2
    rcases Nat.lt_or_ge j n with q | q
    · obtain ⟨e1, e2⟩ := ab_rl hn hF hfc q
      have b1 := (hfc (2 * j) (by omega)).1
      have b2 := (hfc (2 * j + 1) (by omega)).1
      rw [if_neg (nI_ge q (by omega)), e1, pz_bs, e2, pz_bs]
      by_cases g : f (2 * j) = f (2 * j + 1)
      · left
        rw [if_pos (by rw [g])]
        exact ⟨_, rfl, Or.inr ⟨rfl, fun z => z j q g⟩⟩
      · right
        rw [if_neg (pz_nz (by omega) (by omega) g), pz_let]
        refine ⟨q, nI j + 1, rfl, nI_1 j, fun w hw => ?_⟩
        by_cases e : w = j
        · rw [e]; exact g
        · exact hz w (by omega)
    · left
      have e : j = n := by omega
      subst e
      exact ⟨_, by rw [if_pos (nI_le (Nat.le_refl _) (by omega))], Or.inl ⟨rfl, hz⟩⟩) 1000 0 0 (by omega) ⟨rfl, fun w hw => absurd hw (by omega)⟩ (by omega)
  unfold fX0_hasWireWithinOneFace
  rw [l1, pz_bs]
  rcases l2 with ⟨rfl, h⟩ | ⟨rfl, h⟩
  · exact ⟨0, rfl, ⟨fun _ => h, fun _ => rfl⟩⟩
  · exact ⟨1, rfl, ⟨fun z => absurd z (by decide), fun z => absurd z h⟩⟩
/-- the rings of all faces -/
def ab_Rg (n F : Nat) (f pv dl : Nat → Nat) (el : Nat → Nat → Nat) (len : Nat → Nat) : Prop := ∀ l, l < F → dl l < 2 * n ∧ f (dl l) = l ∧ (∀ d, d < dl l → f d ≠ l) ∧ (∀ i, el l i = ab_it pv (dl l) i) ∧ (∀ i, el l i < 2 * n ∧ f (el l i) = l) ∧ 1 ≤ len l ∧ len l ≤ n ∧ el l (len l) = dl l ∧ (∀ i, 0 < i → i < len l → el l i ≠ dl l) ∧ ∀ i j, i < len l → j < len l → el l i / 2 = el l j / 2 → i = j
theorem ab_rings (h : nt_Ok K n a b t u) (hF : tr_Faces n F (pl_nx a b t u) f) (hne : ∀ w, w < n → f (2 * w) ≠ f (2 * w + 1)) (hpv : ∀ e, e < 2 * n → pv e < 2 * n ∧ pl_nx a b t u (pv e) = e) : ∃ dl el len, ab_Rg n F f pv dl el len := by
  obtain ⟨dl, hdl⟩ := ab_least hF
  have ex := fun l (hl : l < F) => (ab_ring h hF hne hpv (hdl l hl).1).2
  refine ⟨dl, fun l i => ab_it pv (dl l) i, fun l => if hl : l < F then Classical.choose (ex l hl) else 0, fun l hl => ?_⟩
  dsimp only
  rw [dif_pos hl]
  obtain ⟨q1, q2, q3, q4, q5⟩ := Classical.choose_spec (ex l hl)
  have hin := (ab_ring h hF hne hpv (hdl l hl).1).1
  exact ⟨(hdl l hl).1, (hdl l hl).2.1, (hdl l hl).2.2, fun _ => rfl, fun i => ⟨(hin i).1, by rw [(hin i).2]; exact (hdl l hl).2.1⟩, q1, q2, q3, q4, q5⟩
theorem ab_cls (hn : n ≤ 22) (hF12 : F ≤ 12) (hF : tr_Faces n F (pl_nx a b t u) f) (hfc : ∀ d, d < 2 * n → f d < F ∧ fC d = nI (f d)) (hda : ∀ e, e < 2 * n → da e = nI (pv e)) (R : ab_Rg n F f pv dl el len) (fi se wc kc ts tu : Nat → Int32) (z : Int32) :
    fX0_makeKnotsOfFaces fC da (nI F) fi se wc kc ts tu z (nI n) = some (pz_cp (fun w => nI (f (2 * w))) fi n, pz_cp (fun w => nI (f (2 * w + 1))) se n, pz_cp (fun _ => 0) wc n, pz_cp (fun _ => 0) kc F, ab_S F (ab_c F len) ts, ab_T el (ab_c F len) tu, nI F) := by
  obtain ⟨r1, l1, l2⟩ := pz_fin (body := bX0_makeKnotsOfFaces_7 fC da (nI F) fi se wc tu (nI n)) (fun j st => st = (nI j, pz_cp (fun _ => 0) kc j, pz_cp (fun _ => 0) ts j, nI j)) (fun r => r = (pz_cp (fun _ => 0) kc F, pz_cp (fun _ => 0) ts F, nI F)) F (by
    rintro j st hj rfl
    unfold bX0_makeKnotsOfFaces_7
    dsimp only
    rcases Nat.lt_or_ge j F with q | q
    · right
      refine ⟨q, _, ?_, rfl⟩
      unfold fX4_addKnot
      rw [if_neg (nI_ge q (by omega)), if_neg (show ¬ (12 : Int32) ≤ nI j from nI_ge (b := 12) (by omega) (by omega)), pz_gd (pz_in (show j < 12 by omega) (by decide)), pz_let, pz_let, pz_let, pz_bs, pz_let, nI_clamp (by omega), nI_1]
      dsimp only
      rw [pz_cpS (fun _ => 0) kc j, pz_cpS (fun _ => 0) ts j]
    · left
      have e : j = F := by omega
      subst e
      exact ⟨_, by rw [if_pos (nI_le (Nat.le_refl _) (by omega))], rfl⟩) 1000 0 (0, kc, ts, 0) (by omega) (by rw [pz_cp0, pz_cp0]; rfl) (by omega)
  obtain ⟨r2, m1, m2⟩ := pz_fin (body := bX0_makeKnotsOfFaces_34 fC da (nI F) (pz_cp (fun _ => 0) kc F) (pz_cp (fun _ => 0) ts F) tu (nI F) (nI n)) (fun j st => st = (nI j, pz_cp (fun w => nI (f (2 * w))) fi j, pz_cp (fun w => nI (f (2 * w + 1))) se j, pz_cp (fun _ => 0) wc j)) (fun r => r = (pz_cp (fun w => nI (f (2 * w))) fi n, pz_cp (fun w => nI (f (2 * w + 1))) se n, pz_cp (fun _ => 0) wc n)) n (by
    rintro j st hj rfl
    unfold bX0_makeKnotsOfFaces_34
    dsimp only
    rcases Nat.lt_or_ge j n with q | q
    · right
      refine ⟨q, _, ?_, rfl⟩
      obtain ⟨e1, e2⟩ := ab_rl hn (by omega) hfc q
      rw [if_neg (nI_ge q (by omega)), e1, pz_bs, pz_gd (pz_in (show j < 22 by omega) (by decide)), pz_let, e2, pz_bs, pz_let, pz_let, pz_let, nI_clamp (by omega), nI_1, pz_cpS (fun w => nI (f (2 * w))) fi j, pz_cpS (fun w => nI (f (2 * w + 1))) se j, pz_cpS (fun _ => 0) wc j]
    · left
      have e : j = n := by omega
      subst e
      exact ⟨_, by rw [if_pos (nI_le (Nat.le_refl _) (by omega))], rfl⟩) 1000 0 (0, fi, se, wc) (by omega) (by rw [pz_cp0, pz_cp0, pz_cp0]; rfl) (by omega)
  have eS0 : pz_cp (fun _ => 0) ts F = ab_S F (ab_c 0 len) ts := by
    funext k
    unfold pz_cp ab_S ab_c
    by_cases g : k < F
    · rw [if_pos g, if_pos g, if_neg (by omega)]; rfl
    · rw [if_neg g, if_neg g]
  have eT0 : tu = ab_T el (ab_c 0 len) tu := by
    funext x
    unfold ab_T ab_c
    rw [if_neg (by rw [if_neg (by omega)]; omega)]
  obtain ⟨r3, p1, p2⟩ := pz_fin (body := bX0_makeKnotsOfFaces_81 fC da (nI F) (pz_cp (fun w => nI (f (2 * w))) fi n) (pz_cp (fun w => nI (f (2 * w + 1))) se n) (pz_cp (fun _ => 0) wc n) (pz_cp (fun _ => 0) kc F) (nI F) (nI n)) (fun j st => ∃ m, m ≤ F ∧ st = (nI m, nI j, ab_S F (ab_c m len) ts, ab_T el (ab_c m len) tu) ∧ ∀ d, d < j → f d < m) (fun r => r = (ab_S F (ab_c F len) ts, ab_T el (ab_c F len) tu)) (2 * n) (by
    rintro j st hj ⟨m, hm, rfl, hdm⟩
    unfold bX0_makeKnotsOfFaces_81 jX0_makeKnotsOfFaces_118
    dsimp only
    rw [show (2 : Int32) * nI n = nI (2 * n) from pk_mul 2 n]
    rcases Nat.lt_or_ge j (2 * n) with q | q
    · rw [if_neg (nI_ge q (by omega))]
      rcases Nat.lt_or_ge m F with q2 | q2
      · right
        refine ⟨q, ?_⟩
        obtain ⟨R1, R2, R3, R4, R5, R6, R7, R8, R9, R10⟩ := R m q2
        have hge : j ≤ dl m := by
          rcases Nat.lt_or_ge (dl m) j with g | g
          · have := hdm _ g
            omega
          · exact g
        have bj := (hfc j q).1
        rw [if_neg (nI_ge q2 (by omega)), pz_gd (pz_in (show j < 44 by omega) (by decide)), nI_clamp (by omega), (hfc j q).2]
        by_cases g : f j = m
        · have ej : j = dl m := by
            rcases Nat.lt_or_ge j (dl m) with g2 | g2
            · exact absurd g (R3 j g2)
            · omega
          rw [if_pos (by rw [g]), ab_cring hn hF12 q2 q (by rw [(hfc j q).2, g]) hda (fun i => by rw [ej, ← R4 i]; exact (R5 i).1) R6 R7 (by rw [ej, ← R4]; exact R8) (fun i i1 i2 => by rw [ej, ← R4 i]; exact R9 i i1 i2) (fun i => by rw [ej]; exact R4 i) (ab_c m len) (by unfold ab_c; rw [if_neg (by omega)]) ts tu, pz_bs, pz_let, pz_let, nI_1, nI_1, ab_cs]
          refine ⟨_, rfl, m + 1, by omega, rfl, fun d hd => ?_⟩
          by_cases e : d = j
          · rw [e, g]; omega
          · have := hdm d (by omega)
            omega
        · rw [if_neg (pz_nz (by omega) (by omega) g), pz_let, nI_1]
          refine ⟨_, rfl, m, hm, rfl, fun d hd => ?_⟩
          by_cases e : d = j
          · rw [e]
            rcases Nat.lt_trichotomy (f j) m with k | k | k
            · exact k
            · exact absurd k g
            · obtain ⟨d', d1, d2⟩ := hF.2.2.1 j q m k
              have := hdm d' d1
              omega
          · exact hdm d (by omega)
      · left
        have e : m = F := by omega
        subst e
        exact ⟨_, by rw [if_pos (nI_le (Nat.le_refl _) (by omega))], rfl⟩
    · left
      have e : j = 2 * n := by omega
      subst e
      have e2 : m = F := by
        rcases Nat.lt_or_ge m F with g | g
        · obtain ⟨R1, R2, _⟩ := R m g
          have := hdm _ R1
          omega
        · omega
      subst e2
      exact ⟨_, by rw [if_pos (nI_le (Nat.le_refl _) (by omega))], rfl⟩) 1000 0 (0, 0, ab_S F (ab_c 0 len) ts, ab_T el (ab_c 0 len) tu) (by omega) ⟨0, by omega, rfl, fun d hd => absurd hd (by omega)⟩ (by omega)
  unfold fX0_makeKnotsOfFaces jX0_makeKnotsOfFaces_32
  rw [l1, pz_bs, l2]
  dsimp only
  rw [m1, pz_bs, m2]
  dsimp only
  rw [← eT0] at p1
  rw [eS0, p1, pz_bs, p2]
end

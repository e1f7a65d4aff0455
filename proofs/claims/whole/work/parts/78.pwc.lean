/-! ===== PURE 18: no claim is the least int ===== -/
def wc_K (kq : Option KT) : Prop := match kq with
  | none => True
  | some k => wc_Ok k.2.2.2.1
theorem pw_upd {wc : Nat → Int32} (h : wc_Ok wc) (i : Nat) {v : Int32} (hv : v ≠ Int32.minValue) : wc_Ok (upd wc i v) := fun w => by
  by_cases g : w = i
  · rw [g, tr_u1]; exact hv
  · rw [tr_u2 wc v g]; exact h w
theorem pw_cp {f g : Nat → Int32} (hf : wc_Ok f) (hg : wc_Ok g) (n : Nat) : wc_Ok (pz_cp f g n) := fun w => by
  unfold pz_cp
  by_cases h : w < n
  · rw [if_pos h]; exact hf w
  · rw [if_neg h]; exact hg w
section
variable {N_first N_second N_isCut N_wireClaim N_knotClaim N_turnSize N_turns : Nat → Int32} {N_knots N_wires N_power x1 x2 : Int32} {kq : Option KT} {O_first O_second O_isCut O_wireClaim O_knotClaim O_turnSize O_turns : Nat → Int32} {O_knots O_wires O_power : Int32}
theorem pw_wire {r1} (hw : wc_Ok N_wireClaim) (h : fX6_wire N_first N_second N_isCut N_wireClaim N_knots N_wires x1 x2 = some r1) : wc_Ok r1.2.2.2.2.1 := by
  unfold fX6_wire fX4_addWire at h
  obtain ⟨v1, _, h⟩ := dk_bnd_to h
  split at h
  · cases h; exact hw
  obtain ⟨v2, _, h⟩ := dk_bnd_to h
  split at h
  · cases h; exact hw
  split at h
  · cases h; exact hw
  split at h
  · obtain ⟨v3, h3, h⟩ := dk_bnd_to h
    obtain ⟨_, h3⟩ := dk_gd_to h3
    cases h3
    cases h
    exact pw_upd hw _ (by decide)
  · cases h; exact hw
theorem pw_claim {r1} (hw : wc_Ok N_wireClaim) (h : fX6_claim N_wireClaim N_wires x1 x2 = some r1) : wc_Ok r1.2 := by
  unfold fX6_claim at h
  obtain ⟨v1, _, h⟩ := dk_bnd_to h
  split at h
  · cases h; exact hw
  obtain ⟨v2, h2, h⟩ := dk_bnd_to h
  split at h
  · cases h; exact hw
  rename_i hv2
  obtain ⟨_, h⟩ := dk_gd_to h
  cases h
  refine pw_upd hw _ (fun q => ?_)
  rw [q] at h2
  unfold fX6_canBeClaimed at h2
  rw [if_pos (by decide)] at h2
  cases h2
  exact hv2 rfl
theorem pw_take {r} (hc : ∀ w, O_isCut w = 0 ∨ O_isCut w = 1) (hw : wc_Ok N_wireClaim) (ho : wc_Ok O_wireClaim) (h : fX4_takeFrom N_first N_second N_isCut N_wireClaim N_knotClaim N_turnSize N_turns N_knots N_wires N_power O_first O_second O_isCut O_wireClaim O_knotClaim O_turnSize O_turns O_knots O_wires O_power = some r) : wc_Ok r.2.2.2.1 := by
  rw [py_take hc] at h
  cases h
  exact pw_cp ho hw 22
theorem pw_keep {r1} (hc : ∀ w, N_isCut w = 0 ∨ N_isCut w = 1) (hw : wc_Ok N_wireClaim) (hk : wc_K kq) (h : fX6_keep N_first N_second N_isCut N_wireClaim N_knotClaim N_turnSize N_turns N_knots N_wires N_power kq = some r1) : wc_K (some r1.2) := by
  cases kq with
  | none =>
    obtain ⟨v, h1, h⟩ := dk_bnd_to (show dk_bnd (fX4_takeFrom _ _ _ _ _ _ _ _ _ _ N_first N_second N_isCut N_wireClaim N_knotClaim N_turnSize N_turns N_knots N_wires N_power) _ = some r1 from h)
    cases h
    exact pw_take hc (fun _ => by decide) hw h1
  | some k =>
    have h' : fX6_keep1 N_first N_second N_isCut N_wireClaim N_knotClaim N_turnSize N_turns N_knots N_wires N_power k.1 k.2.1 k.2.2.1 k.2.2.2.1 k.2.2.2.2.1 k.2.2.2.2.2.1 k.2.2.2.2.2.2.1 k.2.2.2.2.2.2.2.1 k.2.2.2.2.2.2.2.2.1 k.2.2.2.2.2.2.2.2.2 = some r1 := h
    unfold fX6_keep1 at h'
    obtain ⟨v, h1, h'⟩ := dk_bnd_to h'
    cases h'
    exact pw_take hc hk hw h1
theorem pw_back {r1} (hc : ∀ k : KT, kq = some k → ∀ w, k.2.2.1 w = 0 ∨ k.2.2.1 w = 1) (hw : wc_Ok N_wireClaim) (hk : wc_K kq) (h : fX6_back N_first N_second N_isCut N_wireClaim N_knotClaim N_turnSize N_turns N_knots N_wires N_power kq = some r1) : wc_Ok r1.2.2.2.2.1 := by
  cases kq with
  | none =>
    unfold fX6_back fX6_back0 at h
    cases h
    exact hw
  | some k =>
    have h' : fX6_back1 N_first N_second N_isCut N_wireClaim N_knotClaim N_turnSize N_turns N_knots N_wires N_power k.1 k.2.1 k.2.2.1 k.2.2.2.1 k.2.2.2.2.1 k.2.2.2.2.2.1 k.2.2.2.2.2.2.1 k.2.2.2.2.2.2.2.1 k.2.2.2.2.2.2.2.2.1 k.2.2.2.2.2.2.2.2.2 = some r1 := h
    unfold fX6_back1 at h'
    obtain ⟨v, h1, h'⟩ := dk_bnd_to h'
    cases h'
    exact pw_take (hc k rfl) hw hk h1
end
theorem pw_cutN {N_first N_second N_isCut N_wireClaim N_knotClaim N_turnSize N_turns : Nat → Int32} {N_knots N_wires N_power : Int32} {M_knots M_wires M_battery : Int32} {M_first M_second M_isCut M_turns M_turnMany M_wireClaim M_knotClaim : Nat → Int32} (h : NetRel N_first N_second N_isCut N_wireClaim N_knotClaim N_turnSize N_turns N_knots N_wires N_power M_knots M_wires M_battery M_first M_second M_isCut M_turns M_turnMany M_wireClaim M_knotClaim) : ∀ w, N_isCut w = 0 ∨ N_isCut w = 1 := by
  obtain ⟨_, _, _, _, _, _, _, _, K, n, _, _, ok, _⟩ := h
  exact ok.2.2.2.2.1
theorem pw_cutK {kq : Option KT} {M_hasKept M_keptKnots M_keptWires M_keptBattery : Int32} {M_keptFirst M_keptSecond M_keptTurns M_keptMany M_keptWire M_keptKnot M_keptCut : Nat → Int32} (h : KeptRel kq M_hasKept M_keptKnots M_keptWires M_keptBattery M_keptFirst M_keptSecond M_keptTurns M_keptMany M_keptWire M_keptKnot M_keptCut) : ∀ k : KT, kq = some k → ∀ w, k.2.2.1 w = 0 ∨ k.2.2.1 w = 1 := by
  intro k e
  subst e
  exact pw_cutN h.2

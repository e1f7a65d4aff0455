/-! ===== PURE 15: cause, faces, face ===== -/
theorem pz_10 : ((1 : Int32) = 0) = False := eq_false (by decide)
theorem pz_00 : ((0 : Int32) = 0) = True := eq_self 0
def rd_Ok (K n F p : Nat) (a b t : Nat → Nat) (u : Nat → Nat → Nat) (f : Nat → Nat) (cu : Nat → Int32) (po : Int32) : Prop :=
  nt_Ok K n a b t u ∧ tr_Faces n F (pl_nx a b t u) f ∧ K + F = n + 2 ∧ p < n ∧ po = nI p ∧ cu p = 0 ∧
  (∀ Q : Nat → Prop, (∀ w, w < n → (Q (a w) ↔ Q (b w))) → ∀ k j, k < K → j < K → Q k → Q j) ∧
  (∀ Q : Nat → Prop, (∀ w, w < n → w ≠ p → cu w = 0 → (Q (a w) ↔ Q (b w))) → ∀ k j, k < K → j < K → Q k → Q j)
section
variable {fi se cu wc nk ts tu : Nat → Int32} {po : Int32} {mu : Nat → Int32} {K n : Nat}
theorem nt_mu (ok : NetOk K n fi se cu ts tu po) (hT : ∀ k i t, k < K → ts k = nI t → t ≤ n → i < t → tu (22 * k + i) = mu (22 * k + i)) {a b t : Nat → Nat} {u : Nat → Nat → Nat} (hs : nt_Is K n a b t u fi se ts tu) : nt_Is K n a b t u fi se ts mu := by
  refine ⟨hs.1, hs.2.1, fun k hk i hi => ?_⟩
  rw [← hT k i (t k) hk (hs.2.1 k hk).2 (hs.2.1 k hk).1 hi]
  exact hs.2.2 k hk i hi
/-- what class and reference hold after cause -/
def rd_Is (n F : Nat) (a b t : Nat → Nat) (u : Nat → Nat → Nat) (f : Nat → Nat) (fC da fM : Nat → Int32) : Prop := ∀ d, d < 2 * n → fC d = nI (f d) ∧ fM d = nI (f d) ∧ da (pl_nx a b t u d) = nI d
theorem pk_cause (ok : NetOk K n fi se cu ts tu po) (hT : ∀ k i t, k < K → ts k = nI t → t ≤ n → i < t → tu (22 * k + i) = mu (22 * k + i)) (F0 A0 M0 : Nat → Int32) (H0 Z0 : Int32) :
    ∃ v fC da HC fM HM, fX6_findCause fi se cu ts tu (nI K) (nI n) po F0 A0 H0 = some (v, fC, da, HC) ∧ fX7_causeOf (nI K) (nI n) po fi se cu mu ts M0 Z0 = some (v, fM, HM) ∧ (v = 0 → ∃ F p a b t u f, rd_Ok K n F p a b t u f cu po ∧ nt_Is K n a b t u fi se ts tu ∧ nt_Is K n a b t u fi se ts mu ∧ rd_Is n F a b t u f fC da fM ∧ HC = nI F ∧ HM = nI F) := by
  obtain ⟨o1, o2, o3, o4, o5, o6⟩ := id ok
  unfold fX6_findCause fX7_causeOf
  rcases o3 with h | ⟨p, hp, h, hcp⟩
  · subst h
    rw [if_pos rfl, if_neg (show ¬ (0 : Int32) ≤ -1 by decide)]
    exact ⟨1, _, _, _, _, _, rfl, rfl, fun q => absurd q (by decide)⟩
  subst h
  rw [if_neg (pz_m1 (by omega)), if_pos (show (0 : Int32) ≤ nI p from nI_le (a := 0) (by omega) (by omega))]
  rcases py_whole (fi := fi) (se := se) (ts := ts) o1 o2 with ⟨w1, w2, w3⟩ | ⟨w1, w2, w3⟩
  · obtain ⟨a, b, t, u, hok, his⟩ := nt_of ok w3
    have him := nt_mu ok hT his
    have hf : ∀ w, w < n → a w < K ∧ b w < K ∧ fi w = nI (a w) ∧ se w = nI (b w) := fun w hw => ⟨(hok.1 w hw).1, (hok.1 w hw).2.1, (his.1 w hw).1, (his.1 w hw).2⟩
    obtain ⟨v1, g1, g2, g3⟩ := ph_hang (cu := cu) (po := nI p) (x1 := 0) o1 o2 hf
    obtain ⟨v2, i1, i2, i3⟩ := ph_hang (cu := cu) (po := nI p) (x1 := 1) o1 o2 hf
    simp only [w1, w2, pz_bs, pz_10, if_false, g1, g2]
    rcases g3 with g3 | ⟨g3, g4⟩
    · subst g3
      simp only [pz_00, if_true]
      exact ⟨3, _, _, _, _, _, rfl, rfl, fun q => absurd q (by decide)⟩
    subst g3
    simp only [pz_10, if_false, i1, i2, pz_bs]
    rcases i3 with i3 | ⟨i3, i4⟩
    · subst i3
      simp only [pz_00, if_true]
      exact ⟨4, _, _, _, _, _, rfl, rfl, fun q => absurd q (by decide)⟩
    subst i3
    obtain ⟨fC, da, fM, F, f, t1, t2, t3, t4⟩ := tr_trace hok his him o1 o2 F0 A0 M0 H0 Z0
    simp only [pz_10, if_false, t1, t2, pz_bs]
    have e1 : (nI K + nI F = nI n + 2) ↔ K + F = n + 2 := by
      have hF := t4.2.2.2
      rw [nI_add, show (2 : Int32) = nI 2 from rfl, nI_add]
      exact nI_eq (by omega) (by omega)
    by_cases q : K + F = n + 2
    · rw [if_pos (e1.mpr q), if_pos (e1.mpr q)]
      refine ⟨0, fC, da, nI F, fM, nI F, rfl, rfl, fun _ => ⟨F, p, a, b, t, u, f, ⟨hok, t4, q, hp, rfl, hcp, fun Q hQ => g4 Q (fun w hw _ => hQ w hw), fun Q hQ => i4 Q (fun w hw hal => hQ w hw ?_ ?_)⟩, his, him, t3, rfl, rfl⟩⟩
      · rcases hal with z | z
        · exact absurd z (by decide)
        · exact fun e => z.1 (by rw [e])
      · rcases hal with z | z
        · exact absurd z (by decide)
        · exact z.2
    · rw [if_neg (fun z => q (e1.mp z)), if_neg (fun z => q (e1.mp z))]
      exact ⟨5, _, _, _, _, _, rfl, rfl, fun q => absurd q (by decide)⟩
  · simp only [w1, w2, pz_bs, pz_00, if_true]
    exact ⟨2, _, _, _, _, _, rfl, rfl, fun q => absurd q (by decide)⟩
theorem pk_traced (ok : NetOk K n fi se cu ts tu po) (hT : ∀ k i t, k < K → ts k = nI t → t ≤ n → i < t → tu (22 * k + i) = mu (22 * k + i)) (F0 A0 M0 : Nat → Int32) (H0 Z0 : Int32) :
    (fX4_hasWholeTurns fi se ts (nI K) (nI n) = some 0 ∧ fX7_areTurns (nI K) (nI n) fi se ts = some 0) ∨ (fX4_hasWholeTurns fi se ts (nI K) (nI n) = some 1 ∧ fX7_areTurns (nI K) (nI n) fi se ts = some 1 ∧ ∃ (fC da fM : Nat → Int32) (F : Nat) (f : Nat → Nat), fX0_trace F0 A0 H0 fi se ts tu (nI n) = some (fC, da, nI F) ∧ fX7_goAlong (nI n) fi se mu ts M0 Z0 = some (fM, nI F) ∧ ∀ d, d < 2 * n → fC d = nI (f d) ∧ fM d = nI (f d)) := by
  obtain ⟨o1, o2, o3, o4, o5, o6⟩ := id ok
  rcases py_whole (fi := fi) (se := se) (ts := ts) o1 o2 with ⟨w1, w2, w3⟩ | ⟨w1, w2, w3⟩
  · right
    obtain ⟨a, b, t, u, hok, his⟩ := nt_of ok w3
    obtain ⟨fC, da, fM, F, f, t1, t2, t3, t4⟩ := tr_trace hok his (nt_mu ok hT his) o1 o2 F0 A0 M0 H0 Z0
    exact ⟨w1, w2, fC, da, fM, F, f, t1, t2, fun d hd => ⟨(t3 d hd).1, (t3 d hd).2.1⟩⟩
  · exact Or.inl ⟨w1, w2⟩
end
section
variable {N_first N_second N_isCut N_wireClaim N_knotClaim N_turnSize N_turns : Nat → Int32} {N_knots N_wires N_power M_knots M_wires M_battery : Int32} {M_first M_second M_isCut M_turns M_turnMany M_wireClaim M_knotClaim : Nat → Int32} {F_faceOf F_dartAhead M_faceOf : Nat → Int32} {F_howMany M_faceMany : Int32}
theorem pc_cause (h : NetRel N_first N_second N_isCut N_wireClaim N_knotClaim N_turnSize N_turns N_knots N_wires N_power M_knots M_wires M_battery M_first M_second M_isCut M_turns M_turnMany M_wireClaim M_knotClaim) :
    ∃ r1 r2, fX6_cause N_first N_second N_isCut N_turnSize N_turns N_knots N_wires N_power F_faceOf F_dartAhead F_howMany = some r1 ∧ fX7_cause M_knots M_wires M_battery M_first M_second M_isCut M_turns M_turnMany M_faceOf M_faceMany = some r2 ∧ r1.1 = r2.1 := by
  obtain ⟨rfl, rfl, rfl, rfl, rfl, rfl, rfl, rfl, K, n, rfl, rfl, ok, hT, hC⟩ := h
  obtain ⟨v, fC, da, HC, fM, HM, h1, h2, _⟩ := pk_cause ok hT F_faceOf F_dartAhead M_faceOf F_howMany M_faceMany
  unfold fX6_cause fX7_cause
  rw [h1, h2, pz_bs, pz_bs]
  exact ⟨_, _, rfl, rfl, rfl⟩
theorem pc_faces (h : NetRel N_first N_second N_isCut N_wireClaim N_knotClaim N_turnSize N_turns N_knots N_wires N_power M_knots M_wires M_battery M_first M_second M_isCut M_turns M_turnMany M_wireClaim M_knotClaim) :
    ∃ r1 r2, fX6_faces N_first N_second N_turnSize N_turns N_knots N_wires F_faceOf F_dartAhead F_howMany = some r1 ∧ fX7_faces M_knots M_wires M_first M_second M_turns M_turnMany M_faceOf M_faceMany = some r2 ∧ r1.1 = r2.1 := by
  obtain ⟨rfl, rfl, rfl, rfl, rfl, rfl, rfl, rfl, K, n, rfl, rfl, ok, hT, hC⟩ := h
  unfold fX6_faces fX7_faces
  rcases pk_traced ok hT F_faceOf F_dartAhead M_faceOf F_howMany M_faceMany with ⟨h1, h2⟩ | ⟨h1, h2, fC, da, fM, F, f, h3, h4, h5⟩
  · simp only [h1, h2, pz_bs, pz_00, if_true]
    exact ⟨_, _, rfl, rfl, rfl⟩
  · simp only [h1, h2, pz_bs, pz_10, if_false, h3, h4]
    exact ⟨_, _, rfl, rfl, rfl⟩
theorem pk_in2 {m : Nat} (hm : m ≤ 2 ^ 20) (x : Int32) : (∃ d, d < m ∧ x = nI d ∧ fX7_in x 0 (nI m - 1) = some 1 ∧ ¬ x < 0 ∧ x < nI m) ∨ (fX7_in x 0 (nI m - 1) = some 0 ∧ (x < 0 ∨ ¬ x < nI m)) := by
  by_cases hx : x < 0
  · right
    unfold fX7_in
    rw [if_pos hx]
    exact ⟨rfl, Or.inl hx⟩
  · obtain ⟨j, hj, rfl⟩ := nI_of hx
    have e : (nI m - 1 < nI j) ↔ m ≤ j := by
      rw [show (nI m - 1 : Int32) = nI m - nI 1 from rfl, Int32.lt_iff_toInt_lt, pk_sub_toInt (by omega) (by decide), nI_toInt hj]
      omega
    have e2 : (nI j < nI m) ↔ j < m := nI_ltI (by omega) (by omega)
    by_cases g : j < m
    · left
      refine ⟨j, g, rfl, ?_, hx, e2.mpr g⟩
      unfold fX7_in
      rw [if_neg hx, if_neg (fun q => by have := e.mp q; omega)]
    · right
      unfold fX7_in
      rw [if_neg hx, if_pos (e.mpr (by omega))]
      exact ⟨rfl, Or.inr (fun q => g (e2.mp q))⟩
theorem pc_face (h : NetRel N_first N_second N_isCut N_wireClaim N_knotClaim N_turnSize N_turns N_knots N_wires N_power M_knots M_wires M_battery M_first M_second M_isCut M_turns M_turnMany M_wireClaim M_knotClaim) (x1 : Int32) :
    ∃ r1 r2, fX6_face N_first N_second N_turnSize N_turns N_knots N_wires F_faceOf F_dartAhead F_howMany x1 = some r1 ∧ fX7_face M_knots M_wires M_first M_second M_turns M_turnMany M_faceOf M_faceMany x1 = some r2 ∧ r1.1 = r2.1 := by
  obtain ⟨rfl, rfl, rfl, rfl, rfl, rfl, rfl, rfl, K, n, rfl, rfl, ok, hT, hC⟩ := h
  have o2 := ok.2.1
  unfold fX6_face fX7_face
  rw [show (2 : Int32) * nI n = nI (2 * n) from pk_mul 2 n]
  rcases pk_traced ok hT F_faceOf F_dartAhead M_faceOf F_howMany M_faceMany with ⟨h1, h2⟩ | ⟨h1, h2, fC, da, fM, F, f, h3, h4, h5⟩
  · simp only [h1, h2, pz_bs, pz_00, if_true]
    exact ⟨_, _, rfl, rfl, rfl⟩
  · simp only [h1, h2, pz_bs, pz_10, if_false, h3, h4]
    rcases pk_in2 (m := 2 * n) (by omega) x1 with ⟨d, d1, rfl, d3, d4, d5⟩ | ⟨d3, d4⟩
    · simp only [d3, pz_bs, d4, d5, pz_10, if_false, if_true, pz_gd (pz_in (show d < 44 by omega) (by decide)), nI_clamp (show d < 2 ^ 31 by omega)]
      refine ⟨_, _, rfl, rfl, ?_⟩
      dsimp only
      rw [(h5 d d1).1, (h5 d d1).2]
    · simp only [d3, pz_bs, pz_00, if_true]
      refine ⟨((-2000000000), F_faceOf, F_dartAhead, F_howMany), _, ?_, rfl, rfl⟩
      by_cases g : x1 < 0
      · rw [if_pos g]
      · rw [if_neg g, if_neg (d4.resolve_left g)]
end

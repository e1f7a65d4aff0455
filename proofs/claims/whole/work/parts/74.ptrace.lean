/-! ===== PURE 14: the faces ===== -/
theorem tr_u1 (f : Nat → Int32) (i : Nat) (v : Int32) : upd f i v i = v := by unfold upd; rw [if_pos rfl]
theorem tr_u2 (f : Nat → Int32) {i j : Nat} (v : Int32) (h : j ≠ i) : upd f i v j = f j := by unfold upd; rw [if_neg h]
def tr_O (N : Nat) (nx : Nat → Nat) (j c : Nat) (fc da : Nat → Int32) : Prop :=
  (∀ d, d < N → fc d = -1 ∨ ∃ l, l < c ∧ fc d = nI l) ∧ (∀ d, d < N → fc d ≠ -1 → fc (nx d) = fc d) ∧ (∀ d, d < N → fc (nx d) ≠ -1 → fc d ≠ -1) ∧
  (∀ d, d < N → fc d ≠ -1 → da (nx d) = nI d) ∧ (∀ d, d < j → fc d ≠ -1) ∧ (∀ l, l < c → ∃ d, d < j ∧ fc d = nI l) ∧ (∀ d l, d < N → l < c → fc d = nI l → ∀ m, m < l → ∃ d', d' < d ∧ fc d' = nI m) ∧ c ≤ j
def tr_R (N : Nat) (nx : Nat → Nat) (c d0 i e : Nat) (fc da : Nat → Int32) : Prop :=
  e < N ∧ (∀ d, d < N → fc d = -1 ∨ ∃ l, l ≤ c ∧ fc d = nI l) ∧ (∀ d, d < N → fc d ≠ -1 → (nx d = e ∧ fc d = nI c) ∨ fc (nx d) = fc d) ∧
  (∀ d, d < N → fc (nx d) ≠ -1 → fc d ≠ -1 ∨ nx d = d0) ∧ ((i = 0 ∧ e = d0 ∧ fc d0 = -1) ∨ (0 < i ∧ fc d0 = nI c ∧ ∃ e', e' < N ∧ nx e' = e ∧ fc e' = nI c)) ∧
  (fc e ≠ -1 → e = d0) ∧ (∀ d, d < N → fc d ≠ -1 → da (nx d) = nI d) ∧ i ≤ ds_cnt N (fun d => decide (fc d ≠ -1)) ∧ (∀ d, d < d0 → fc d ≠ -1) ∧ (∀ l, l < c → ∃ d, d < d0 ∧ fc d = nI l) ∧
  (∀ d l, d < N → l ≤ c → fc d = nI l → ∀ m, m < l → ∃ d', d' < d ∧ fc d' = nI m) ∧ c ≤ d0 ∧ d0 < N
section
variable {N : Nat} {nx : Nat → Nat} {fc da : Nat → Int32} {c d0 i e j : Nat}
theorem tr_skip (h : tr_O N nx j c fc da) (hj : fc j ≠ -1) : tr_O N nx (j + 1) c fc da := by
  obtain ⟨h1, h2, h3, h4, h5, h6, h7, h8⟩ := h
  refine ⟨h1, h2, h3, h4, fun d hd => ?_, fun l hl => ?_, h7, by omega⟩
  · by_cases g : d = j
    · rw [g]; exact hj
    · exact h5 d (by omega)
  · obtain ⟨d, d1, d2⟩ := h6 l hl
    exact ⟨d, by omega, d2⟩
theorem tr_begin (h : tr_O N nx j c fc da) (hjN : j < N) (hN : N ≤ 44) (hj : fc j = -1) : tr_R N nx c j 0 j fc da := by
  obtain ⟨h1, h2, h3, h4, h5, h6, h7, h8⟩ := h
  refine ⟨hjN, fun d hd => ?_, fun d hd hm => Or.inr (h2 d hd hm), fun d hd hm => Or.inl (h3 d hd hm), Or.inl ⟨rfl, rfl, hj⟩, fun q => absurd hj q, h4, Nat.zero_le _, h5, h6, fun d l hd hl e => ?_, h8, hjN⟩
  · rcases h1 d hd with g | ⟨l, l1, l2⟩
    · exact Or.inl g
    · exact Or.inr ⟨l, by omega, l2⟩
  · refine h7 d l hd ?_ e
    rcases h1 d hd with g | ⟨l', l1, l2⟩
    · rw [g] at e
      exact absurd e.symm (pz_m1 (by omega))
    · have := pz_inj (show l < 2 ^ 31 by omega) (show l' < 2 ^ 31 by omega) (by rw [← e, l2])
      omega
theorem tr_step (hnx : ∀ d, d < N → nx d < N) (hinj : ∀ a b, a < N → b < N → nx a = nx b → a = b) (hN : N ≤ 44) (h : tr_R N nx c d0 i e fc da) (he : fc e = -1) :
    tr_R N nx c d0 (i + 1) (nx e) (upd fc e (nI c)) (upd da (nx e) (nI e)) := by
  obtain ⟨h1, h2, h3, h4, h5, h6, h7, h8, h9, h10, h11, h12, h13⟩ := h
  have c1 : nI c ≠ -1 := pz_m1 (by omega)
  have keep : ∀ d, fc d ≠ -1 → upd fc e (nI c) d = fc d := fun d hd => tr_u2 fc (nI c) (fun q => hd (by rw [q, he]))
  have mark : ∀ d, upd fc e (nI c) d ≠ -1 → d = e ∨ fc d ≠ -1 := fun d hd => by
    by_cases g : d = e
    · exact Or.inl g
    · rw [tr_u2 fc (nI c) g] at hd
      exact Or.inr hd
  refine ⟨hnx e h1, ?_, ?_, ?_, ?_, ?_, ?_, ?_, ?_, ?_, ?_, h12, h13⟩
  · intro d hd
    by_cases g : d = e
    · rw [g, tr_u1]; exact Or.inr ⟨c, Nat.le_refl _, rfl⟩
    · rw [tr_u2 fc (nI c) g]; exact h2 d hd
  · intro d hd hm
    by_cases g : d = e
    · left
      rw [g, tr_u1]
      exact ⟨rfl, rfl⟩
    · rw [tr_u2 fc (nI c) g] at hm ⊢
      right
      rcases h3 d hd hm with ⟨q1, q2⟩ | q
      · rw [q1, tr_u1, q2]
      · rw [keep _ (by rw [q]; exact hm), q]
  · intro d hd hm
    rcases mark _ hm with q | q
    · -- nx d = e
      rcases h5 with ⟨s1, s2, s3⟩ | ⟨s1, s2, e', s3, s4, s5⟩
      · right; rw [q, s2]
      · left
        have : d = e' := hinj d e' hd s3 (by rw [q, s4])
        rw [this, keep e' (by rw [s5]; exact c1), s5]
        exact c1
    · rcases h4 d hd q with g | g
      · left
        rw [keep d g]; exact g
      · exact Or.inr g
  · right
    refine ⟨by omega, ?_, e, h1, rfl, tr_u1 _ _ _⟩
    rcases h5 with ⟨s1, s2, s3⟩ | ⟨s1, s2, _⟩
    · rw [s2, tr_u1]
    · rw [keep d0 (by rw [s2]; exact c1), s2]
  · intro hm
    rcases mark _ hm with q | q
    · rcases h5 with ⟨s1, s2, s3⟩ | ⟨s1, s2, e', s3, s4, s5⟩
      · rw [q, s2]
      · have : e = e' := hinj e e' h1 s3 (by rw [q, s4])
        rw [this, s5] at he
        exact absurd he c1
    · rcases h4 e h1 q with g | g
      · exact absurd he g
      · exact g
  · intro d hd hm
    by_cases g : d = e
    · rw [g, tr_u1]
    · rw [tr_u2 fc (nI c) g] at hm
      rw [tr_u2 da (nI e) (fun q => g (hinj d e hd h1 q))]
      exact h7 d hd hm
  · have := ph_cnt_lt (O := fun d => decide (fc d ≠ -1)) (P := fun d => decide (upd fc e (nI c) d ≠ -1)) N (fun k _ hk => by
      have := of_decide_eq_true hk
      exact decide_eq_true (by rw [keep k this]; exact this)) ⟨e, h1, decide_eq_false (fun q => q he), decide_eq_true (by rw [tr_u1]; exact c1)⟩
    omega
  · intro d hd
    rw [keep d (h9 d hd)]
    exact h9 d hd
  · intro l hl
    obtain ⟨d, q1, q2⟩ := h10 l hl
    exact ⟨d, q1, by rw [keep d (h9 d q1)]; exact q2⟩
  · intro d l hd hl hq m hm
    have fin : ∀ d', d' < d → fc d' = nI m → ∃ d', d' < d ∧ upd fc e (nI c) d' = nI m := fun d' q1 q2 => ⟨d', q1, by rw [keep d' (by rw [q2]; exact pz_m1 (by omega))]; exact q2⟩
    by_cases g : d = e
    · rw [g, tr_u1] at hq
      have : c = l := pz_inj (by omega) (by omega) hq
      obtain ⟨d', q1, q2⟩ := h10 m (by omega)
      refine fin d' ?_ q2
      have : ¬ e < d0 := fun q => h9 e q he
      omega
    · rw [tr_u2 fc (nI c) g] at hq
      obtain ⟨d', q1, q2⟩ := h11 d l hd hl hq m hm
      exact fin d' q1 q2
theorem tr_end (hinj : ∀ a b, a < N → b < N → nx a = nx b → a = b) (hN : N ≤ 44) (h : tr_R N nx c d0 i e fc da) (he : fc e ≠ -1) : tr_O N nx (d0 + 1) (c + 1) fc da := by
  obtain ⟨h1, h2, h3, h4, h5, h6, h7, h8, h9, h10, h11, h12, h13⟩ := h
  have c1 : nI c ≠ -1 := pz_m1 (by omega)
  have ee := h6 he
  rcases h5 with ⟨s1, s2, s3⟩ | ⟨s1, s2, e', s3, s4, s5⟩
  · rw [s2] at he
    exact absurd s3 he
  refine ⟨fun d hd => ?_, fun d hd hm => ?_, fun d hd hm => ?_, h7, fun d hd => ?_, fun l hl => ?_, fun d l hd hl => h11 d l hd (by omega), by omega⟩
  · rcases h2 d hd with g | ⟨l, l1, l2⟩
    · exact Or.inl g
    · exact Or.inr ⟨l, by omega, l2⟩
  · rcases h3 d hd hm with ⟨q1, q2⟩ | q
    · rw [q1, q2, ee, s2]
    · exact q
  · rcases h4 d hd hm with g | g
    · exact g
    · have : d = e' := hinj d e' hd s3 (by rw [g, s4, ee])
      rw [this, s5]
      exact c1
  · by_cases g : d = d0
    · rw [g, s2]; exact c1
    · exact h9 d (by omega)
  · by_cases g : l = c
    · exact ⟨d0, by omega, by rw [s2, g]⟩
    · obtain ⟨d, q1, q2⟩ := h10 l (by omega)
      exact ⟨d, by omega, q2⟩
end
section
variable {K n : Nat} {a b t : Nat → Nat} {u : Nat → Nat → Nat} {fi se ts tu mu : Nat → Int32}
theorem tr_ring (h : nt_Ok K n a b t u) (hs : nt_Is K n a b t u fi se ts tu) (hm : nt_Is K n a b t u fi se ts mu) (hK : K ≤ 12) (hn : n ≤ 22) {c d0 : Nat} {fC fM da : Nat → Int32} (hag : ∀ d, d < 2 * n → fC d = fM d) (hR : tr_R (2 * n) (pl_nx a b t u) c d0 0 d0 fC da) (z1 z2 : Int32) :
    ∃ r1 r2, dk_loop (bX0_traceRing_6 (nI c) fi se ts tu (nI (2 * n))) 1000 (nI d0, nI 0, fC, da) = some r1 ∧ dk_loop (bX7_goAlong_52 z1 fi se mu ts (nI c) z2) 1000 (nI d0, fM) = some r2 ∧ (∀ d, d < 2 * n → r1.1 d = r2 d) ∧ tr_O (2 * n) (pl_nx a b t u) (d0 + 1) (c + 1) r1.1 r1.2 := by
  refine pz_sim (b1 := bX0_traceRing_6 (nI c) fi se ts tu (nI (2 * n))) (b2 := bX7_goAlong_52 z1 fi se mu ts (nI c) z2) (fun i s1 s2 => ∃ e fC fM da, s1 = (nI e, nI i, fC, da) ∧ s2 = (nI e, fM) ∧ (∀ d, d < 2 * n → fC d = fM d) ∧ tr_R (2 * n) (pl_nx a b t u) c d0 i e fC da) (fun r1 r2 => (∀ d, d < 2 * n → r1.1 d = r2 d) ∧ tr_O (2 * n) (pl_nx a b t u) (d0 + 1) (c + 1) r1.1 r1.2) (2 * n) ?_ 1000 0 _ _ (by omega) ⟨d0, fC, fM, da, rfl, rfl, hag, hR⟩ (by omega)
  rintro i s1 s2 hi ⟨e, fC, fM, da, rfl, rfl, hag, hR⟩
  have hnx : ∀ d, d < 2 * n → pl_nx a b t u d < 2 * n := fun d hd => (nt_nx h hd).1
  have hinj : ∀ x y, x < 2 * n → y < 2 * n → pl_nx a b t u x = pl_nx a b t u y → x = y := fun x y hx hy => nt_inj h hx hy
  have he := hR.1
  have hcd : c ≤ d0 := hR.2.2.2.2.2.2.2.2.2.2.2.1
  have hd0 : d0 < 2 * n := hR.2.2.2.2.2.2.2.2.2.2.2.2
  unfold bX0_traceRing_6 bX7_goAlong_52
  dsimp only
  rw [pz_gd (pz_in (show e < 44 by omega) (by decide)), nI_clamp (show e < 2 ^ 31 by omega), pz_gd (pz_in (show e < 44 by omega) (by decide))]
  have hM := hag e he
  by_cases g : fC e = -1
  · right
    have hlt : i < 2 * n := by
      have c1 := hR.2.2.2.2.2.2.2.1
      have gen : ∀ O : Nat → Bool, O e = false → i ≤ ds_cnt (2 * n) O → i < 2 * n := fun O ho hi => by
        have c2 := ds_cnt_not O (2 * n)
        have c3 := ds_cnt_off (fun i => !O i) e (by simp [ho]) (2 * n) he
        omega
      exact gen _ (decide_eq_false (fun q => q g)) c1
    have hneg : ¬ (0 : Int32) ≤ -1 := by decide
    refine ⟨hlt, (nI (pl_nx a b t u e), nI (i + 1), upd fC e (nI c), upd da (pl_nx a b t u e) (nI e)), (nI (pl_nx a b t u e), upd fM e (nI c)), ?_, ?_, _, _, _, _, rfl, rfl, ?_, tr_step hnx hinj (by omega) hR g⟩
    · rw [if_neg (nI_ge hlt (by omega)), if_pos g, nt_beh4 h hs hK hn he, pz_bs]
      simp only [pz_let]
      rw [pz_gd (pz_in (by have := hnx e he; omega) (by decide)), nI_clamp (by have := hnx e he; omega), nI_1]
    · rw [if_neg (by rw [← hM, g]; exact hneg), pz_let, nt_beh7 h hm hK hn he, pz_bs]
    · intro d hd
      by_cases q : d = e
      · rw [q, tr_u1, tr_u1]
      · rw [tr_u2 fC _ q, tr_u2 fM _ q]
        exact hag d hd
  · left
    refine ⟨(fC, da), fM, ?_, ?_, hag, tr_end hinj (by omega) hR g⟩
    · rw [if_neg g]
      by_cases q : nI (2 * n) ≤ nI i
      · rw [if_pos q]
      · rw [if_neg q]
    · have : (0 : Int32) ≤ fC e := by
        rcases hR.2.1 e he with q | ⟨l, l1, l2⟩
        · exact absurd q g
        · rw [l2]
          exact nI_le (a := 0) (by omega) (by omega)
      rw [if_pos (by rw [← hM]; exact this)]
theorem tr_outer (h : nt_Ok K n a b t u) (hs : nt_Is K n a b t u fi se ts tu) (hm : nt_Is K n a b t u fi se ts mu) (hK : K ≤ 12) (hn : n ≤ 22) {fC fM da : Nat → Int32} (hC : ∀ d, d < 2 * n → fC d = -1) (hM : ∀ d, d < 2 * n → fM d = -1) :
    ∃ r1 r2, dk_loop (bX0_trace_34 fi se ts tu (nI n) (nI (2 * n))) 1000 (nI 0, fC, da, nI 0) = some r1 ∧ dk_loop (bX7_goAlong_28 (nI n) fi se mu ts) 1000 (nI 0, fM, nI 0) = some r2 ∧ ∃ c, r1.2.2 = nI c ∧ r2.2 = nI c ∧ (∀ d, d < 2 * n → r1.1 d = r2.1 d) ∧ tr_O (2 * n) (pl_nx a b t u) (2 * n) c r1.1 r1.2.1 := by
  refine pz_sim (b1 := bX0_trace_34 fi se ts tu (nI n) (nI (2 * n))) (b2 := bX7_goAlong_28 (nI n) fi se mu ts) (fun j s1 s2 => ∃ c fC fM da, s1 = (nI j, fC, da, nI c) ∧ s2 = (nI j, fM, nI c) ∧ (∀ d, d < 2 * n → fC d = fM d) ∧ tr_O (2 * n) (pl_nx a b t u) j c fC da) (fun r1 r2 => ∃ c, r1.2.2 = nI c ∧ r2.2 = nI c ∧ (∀ d, d < 2 * n → r1.1 d = r2.1 d) ∧ tr_O (2 * n) (pl_nx a b t u) (2 * n) c r1.1 r1.2.1) (2 * n) ?_ 1000 0 _ _ (by omega) ⟨0, fC, fM, da, rfl, rfl, fun d hd => by rw [hC d hd, hM d hd], ?_⟩ (by omega)
  · rintro j s1 s2 hj ⟨c, fC, fM, da, rfl, rfl, hag, hO⟩
    unfold bX0_trace_34 bX7_goAlong_28
    dsimp only
    rw [show (2 : Int32) * nI n = nI (2 * n) from pk_mul 2 n]
    rcases Nat.lt_or_ge j (2 * n) with q | q
    · right
      rw [if_neg (nI_ge q (by omega)), if_neg (nI_ge q (by omega)), pz_gd (pz_in (show j < 44 by omega) (by decide)), pz_gd (pz_in (show j < 44 by omega) (by decide)), nI_clamp (show j < 2 ^ 31 by omega)]
      have hM := hag j q
      unfold jX0_trace_66 jX7_goAlong_90
      by_cases g : fC j = -1
      · obtain ⟨r1, r2, h1, h2, h3, h4⟩ := tr_ring h hs hm hK hn hag (tr_begin hO q (by omega) g) (nI n) (nI j)
        refine ⟨q, (nI (j + 1), r1.1, r1.2, nI (c + 1)), (nI (j + 1), r2, nI (c + 1)), ?_, ?_, _, _, _, _, rfl, rfl, h3, h4⟩
        · rw [if_pos g]
          unfold fX0_traceRing
          rw [show (0 : Int32) = nI 0 from rfl, h1, pz_bs, pz_bs, pz_let, pz_let, nI_1, nI_1]
        · rw [if_pos (by rw [← hM, g]; decide), h2, pz_bs, pz_let, pz_let, nI_1, nI_1]
      · refine ⟨q, (nI (j + 1), fC, da, nI c), (nI (j + 1), fM, nI c), ?_, ?_, _, _, _, _, rfl, rfl, hag, tr_skip hO g⟩
        · rw [if_neg g, pz_let, nI_1]
        · have : ¬ fC j < 0 := by
            rcases hO.1 j q with w | ⟨l, l1, l2⟩
            · exact absurd w g
            · rw [l2]
              exact nI_pos (by have := hO.2.2.2.2.2.2.2; omega)
          rw [if_neg (by rw [← hM]; exact this), pz_let, nI_1]
    · have e : j = 2 * n := by omega
      subst e
      left
      refine ⟨(fC, da, nI c), (fM, nI c), ?_, ?_, c, rfl, rfl, hag, hO⟩
      · rw [if_pos (nI_le (Nat.le_refl _) (by omega))]
      · rw [if_pos (nI_le (Nat.le_refl _) (by omega))]
  · refine ⟨fun d hd => Or.inl (hC d hd), fun d hd q => absurd (hC d hd) q, fun d hd q => absurd (hC _ (nt_nx h hd).1) q, fun d hd q => absurd (hC d hd) q, fun d hd => absurd hd (by omega), fun l hl => absurd hl (by omega), fun d l _ hl => absurd hl (by omega), Nat.le_refl _⟩
/-- the faces: both find the same -/
def tr_Faces (n F : Nat) (nx f : Nat → Nat) : Prop := (∀ d, d < 2 * n → f d < F ∧ f (nx d) = f d) ∧ (∀ l, l < F → ∃ d, d < 2 * n ∧ f d = l) ∧ (∀ d, d < 2 * n → ∀ l, l < f d → ∃ d', d' < d ∧ f d' = l) ∧ F ≤ 2 * n
theorem tr_trace (h : nt_Ok K n a b t u) (hs : nt_Is K n a b t u fi se ts tu) (hm : nt_Is K n a b t u fi se ts mu) (hK : K ≤ 12) (hn : n ≤ 22) (F0 A0 M0 : Nat → Int32) (H0 Z0 : Int32) :
    ∃ (fC da fM : Nat → Int32) (F : Nat) (f : Nat → Nat), fX0_trace F0 A0 H0 fi se ts tu (nI n) = some (fC, da, nI F) ∧ fX7_goAlong (nI n) fi se mu ts M0 Z0 = some (fM, nI F) ∧ (∀ d, d < 2 * n → fC d = nI (f d) ∧ fM d = nI (f d) ∧ da (pl_nx a b t u d) = nI d) ∧ tr_Faces n F (pl_nx a b t u) f := by
  obtain ⟨fC, c1, c2⟩ := pz_fin (body := bX0_trace_14 A0 0 fi se ts tu (nI n) (nI (2 * n))) (fun j st => ∃ g, st = (nI j, g) ∧ ∀ d, d < j → g d = -1) (fun r => ∀ d, d < 2 * n → r d = -1) (2 * n) (by
    rintro j st hj ⟨g, rfl, hg⟩
    unfold bX0_trace_14
    dsimp only
    rcases Nat.lt_or_ge j (2 * n) with q | q
    · right
      refine ⟨q, (nI (j + 1), upd g j (-1)), ?_, _, rfl, ?_⟩
      · rw [if_neg (nI_ge q (by omega)), pz_gd (pz_in (show j < 44 by omega) (by decide)), pz_let, pz_let, nI_clamp (by omega), nI_1]
      · intro d hd
        by_cases e : d = j
        · rw [e, tr_u1]
        · rw [tr_u2 g _ e]; exact hg d (by omega)
    · left
      have e : j = 2 * n := by omega
      subst e
      exact ⟨g, by rw [if_pos (nI_le (Nat.le_refl _) (by omega))], hg⟩) 1000 0 (nI 0, F0) (by omega) ⟨F0, rfl, fun d hd => absurd hd (by omega)⟩ (by omega)
  obtain ⟨fM, m1, m2⟩ := pz_fin (body := bX7_goAlong_7 (nI n) fi se mu ts 0) (fun j st => ∃ g, st = (nI j, g) ∧ ∀ d, d < j → g d = -1) (fun r => ∀ d, d < 44 → r d = -1) 44 (by
    rintro j st hj ⟨g, rfl, hg⟩
    unfold bX7_goAlong_7
    dsimp only
    rcases Nat.lt_or_ge j 44 with q | q
    · right
      refine ⟨q, (nI (j + 1), upd g j (-1)), ?_, _, rfl, ?_⟩
      · rw [if_neg (show ¬ (44 : Int32) ≤ nI j from nI_ge (b := 44) q (by omega)), pz_gd (pz_in (show j < 44 by omega) (by decide)), pz_let, pz_let, nI_clamp (by omega), nI_1]
      · intro d hd
        by_cases e : d = j
        · rw [e, tr_u1]
        · rw [tr_u2 g _ e]; exact hg d (by omega)
    · left
      have e : j = 44 := by omega
      subst e
      exact ⟨g, by rw [if_pos (show (44 : Int32) ≤ nI 44 by decide)], hg⟩) 1000 0 (nI 0, M0) (by omega) ⟨M0, rfl, fun d hd => absurd hd (by omega)⟩ (by omega)
  obtain ⟨r1, r2, h1, h2, c, h3, h4, h5, h6⟩ := tr_outer h hs hm hK hn (da := A0) c2 (fun d hd => m2 d (by omega))
  obtain ⟨o1, o2, o3, o4, o5, o6, o7, o8⟩ := h6
  have lab : ∀ d, d < 2 * n → r1.1 d = nI (r1.1 d).toNatClampNeg ∧ (r1.1 d).toNatClampNeg < c := by
    intro d hd
    rcases o1 d hd with q | ⟨l, l1, l2⟩
    · exact absurd q (o5 d hd)
    · rw [l2, nI_clamp (by omega)]
      exact ⟨rfl, l1⟩
  refine ⟨r1.1, r1.2.1, r2.1, c, fun d => (r1.1 d).toNatClampNeg, ?_, ?_, fun d hd => ⟨(lab d hd).1, by rw [← h5 d hd]; exact (lab d hd).1, o4 d hd (o5 d hd)⟩, fun d hd => ⟨(lab d hd).2, by dsimp only; rw [o2 d hd (o5 d hd)]⟩, fun l hl => ?_, fun d hd l hl => ?_, o8⟩
  · unfold fX0_trace
    rw [show (2 : Int32) * nI n = nI (2 * n) from pk_mul 2 n, pz_let, show (0 : Int32) = nI 0 from rfl]
    rw [show (nI 0 : Int32) = 0 from rfl] at c1 h1 ⊢
    rw [c1, pz_bs, h1, pz_bs, h3]
  · unfold fX7_goAlong
    rw [show (nI 0 : Int32) = 0 from rfl] at m1 h2
    rw [m1, pz_bs, h2, pz_bs, h4]
  · obtain ⟨d, d1, d2⟩ := o6 l hl
    refine ⟨d, d1, ?_⟩
    dsimp only
    rw [d2, nI_clamp (by omega)]
  · have q := (lab d hd)
    obtain ⟨d', e1, e2⟩ := o7 d _ hd q.2 q.1 l hl
    have hl' : l < (r1.1 d).toNatClampNeg := hl
    refine ⟨d', e1, ?_⟩
    dsimp only
    rw [e2, nI_clamp (by omega)]
end

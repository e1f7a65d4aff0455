/-! ===== PURE 22: heights and currents ===== -/
theorem fw_64 {x : Int} (h : x.natAbs < 2 ^ 30) : (Int32.ofInt x).toInt64 = Int64.ofInt x := by
  have e1 : Int32.minValue.toInt = -2 ^ 31 := by decide
  have e2 : Int32.maxValue.toInt = 2 ^ 31 - 1 := by decide
  exact Int32.toInt64_ofInt (by omega) (by omega)
/-- WIDE, as both add it up -/
def fl_wd (S : Nat) (a b : Nat → Nat) (c : Nat → Int) : Nat → Int32
  | 0 => 0
  | j + 1 => if a j = S then fl_wd S a b c j + Int32.ofInt (c j) else if b j = S then fl_wd S a b c j - Int32.ofInt (c j) else fl_wd S a b c j
section
variable {K n p : Nat} {a b : Nat → Nat} {fi se cu : Nat → Int32}
/-- what is known of a READY net here -/
def fw_Net (K n p : Nat) (a b : Nat → Nat) (fi se cu : Nat → Int32) : Prop :=
  K ≤ 12 ∧ n ≤ 22 ∧ (∀ w, w < n → a w < K ∧ b w < K ∧ a w ≠ b w) ∧ (∀ w, w < n → fi w = nI (a w) ∧ se w = nI (b w)) ∧ p < n ∧ (∀ Q : Nat → Prop, (∀ w, w < n → fl_pl p cu w = true → (Q (a w) ↔ Q (b w))) → ∀ k j, k < K → j < K → Q k → Q j)
theorem fw_ab (h : fw_Net K n p a b fi se cu) : ∀ w, w < n → a w < K ∧ b w < K := fun w hw => ⟨(h.2.2.1 w hw).1, (h.2.2.1 w hw).2.1⟩
theorem fw_c1 (h : fw_Net K n p a b fi se cu) (W0 : Nat → Int64) (T : Int64) : ∃ r W', fX1_writeRows W0 fi se cu (nI K) (nI n) (nI p) = some r ∧ fX1_eliminate r T (nI K) = some (W', Int64.ofInt (ds_det K (fl_A K n (b p) (a p) a b (fl_pl p cu)))) ∧ ∀ i, i < K → W' (13 * i + K) = Int64.ofInt (fl_H K n (b p) (a p) a b (fl_pl p cu) i) := by
  obtain ⟨hK, hn, hf, hs, hp, hc⟩ := id h
  obtain ⟨r, w1, w2⟩ := wr_rows (cu := cu) hK hn hf hs hp W0
  obtain ⟨W', w3, w4⟩ := el_all hK (fl_inj (S := a p) (fw_ab h) (hf p hp).2.1 hc) (fun q r c hq => fl_R_le hn hK hq r c) (fun q hq => Nat.le_trans (fl_D_le hn hK hq) (by decide)) r T w2
  refine ⟨r, W', w1, w3, fun i hi => ?_⟩
  rw [w4 i K hi (Nat.le_refl _), el_last _ K (a p) K (hf p hp).1 (fun k _ => by unfold fl_A; rw [if_pos rfl]) i hi]
  rfl
theorem fw_c2 (h : fw_Net K n p a b fi se cu) (W' : Nat → Int64) (hW : ∀ i, i < K → W' (13 * i + K) = Int64.ofInt (fl_H K n (b p) (a p) a b (fl_pl p cu) i)) (H0 : Nat → Int32) : ∃ hC, fX1_takeHeights W' H0 (nI K) = some hC ∧ ∀ k, k < K → hC k = Int32.ofInt (fl_h K n (b p) (a p) a b (fl_pl p cu) k) := by
  obtain ⟨hK, hn, hf, hs, hp, hc⟩ := id h
  have hH := fun k => fl_H_le (G := b p) (S := a p) (a := a) (b := b) (pl := fl_pl p cu) hn hK k
  have hg := fl_g_ne (G := b p) (S := a p) (fw_ab h) (hf p hp).2.1 (hf p hp).1 hc
  have hgl : ∀ j, pg_f (fl_H K n (b p) (a p) a b (fl_pl p cu)) j < 2 ^ 30 := fun j => pg_f_lt _ (by decide) j (fun i _ => Nat.lt_of_le_of_lt (hH i) (by decide))
  obtain ⟨r, l1, l2⟩ := pz_fin (body := bX1_takeHeights_5 W' H0 (nI K)) (fun j st => st = (Int64.ofInt (pg_f (fl_H K n (b p) (a p) a b (fl_pl p cu)) j), nI j)) (fun r => r = Int64.ofInt (fl_g K n (b p) (a p) a b (fl_pl p cu))) K (by
    rintro j st hj rfl
    unfold bX1_takeHeights_5
    dsimp only
    rcases Nat.lt_or_ge j K with q | q
    · right
      refine ⟨q, _, ?_, rfl⟩
      have h1 := hgl j
      have h2 := hH j
      rw [if_neg (nI_ge q (by omega)), pz_13, pz_gd (pz_in (by omega) (by decide)), nI_clamp (by omega), hW j q, pg_cls (by omega) (by omega), pz_bs, pz_let, nI_1]
      rfl
    · left
      have e : j = K := by omega
      subst e
      exact ⟨_, by rw [if_pos (nI_le (Nat.le_refl _) (by omega))]; rfl, rfl⟩) 1000 0 (0, 0) (by omega) rfl (by omega)
  subst l2
  have g30 : fl_g K n (b p) (a p) a b (fl_pl p cu) < 2 ^ 30 := hgl K
  have hnz := el_nz (D := ((fl_g K n (b p) (a p) a b (fl_pl p cu) : Nat) : Int)) (by omega) (by omega)
  obtain ⟨hC, m1, m2⟩ := pz_fin (body := bX1_takeHeights_37 W' (nI K) (Int64.ofInt (fl_g K n (b p) (a p) a b (fl_pl p cu)))) (fun j st => ∃ f, st = (nI j, f) ∧ ∀ k, k < j → f k = Int32.ofInt (fl_h K n (b p) (a p) a b (fl_pl p cu) k)) (fun f => ∀ k, k < K → f k = Int32.ofInt (fl_h K n (b p) (a p) a b (fl_pl p cu) k)) K (by
    rintro j st hj ⟨f, rfl, hf'⟩
    unfold bX1_takeHeights_37 jX1_takeHeights_74
    dsimp only
    rcases Nat.lt_or_ge j K with q | q
    · right
      have h2 := hH j
      refine ⟨q, (nI (j + 1), upd f j (Int32.ofInt (fl_h K n (b p) (a p) a b (fl_pl p cu) j))), ?_, _, rfl, ?_⟩
      · rw [if_neg (nI_ge q (by omega)), if_neg (fun z => hnz ((lg_cmp_eq _ _).mp z)), pz_13, pz_gd (pz_in (by omega) (by decide)), pz_gd (show dk_nz _ = true from decide_eq_true hnz), pz_gd (pz_in (show j < 12 by omega) (by decide)), pz_let, pz_let, nI_clamp (by omega), nI_clamp (by omega), hW j q, pg_div (by omega) (by omega), Int64.toInt32_ofInt, nI_1]
        rfl
      · intro k hk
        by_cases e : k = j
        · rw [e, tr_u1]
        · rw [tr_u2 f _ e]; exact hf' k (by omega)
    · left
      have e : j = K := by omega
      subst e
      exact ⟨_, by rw [if_pos (nI_le (Nat.le_refl _) (by omega))], hf'⟩) 1000 0 (0, H0) (by omega) ⟨H0, rfl, fun k hk => absurd hk (by omega)⟩ (by omega)
  refine ⟨hC, ?_, m2⟩
  unfold fX1_takeHeights
  rw [l1, pz_bs, m1, pz_bs]
theorem fw_c3 (h : fw_Net K n p a b fi se cu) (hC : Nat → Int32) (hh : ∀ k, k < K → hC k = Int32.ofInt (fl_h K n (b p) (a p) a b (fl_pl p cu) k)) (C0 : Nat → Int32) (z : Int32) : ∃ cC, fX1_takeCurrents hC C0 z fi se cu (nI n) (nI p) = some (cC, fl_wd (a p) a b (fl_c K n (b p) (a p) a b (fl_pl p cu)) n) ∧ ∀ w, w < n → cC w = Int32.ofInt (fl_c K n (b p) (a p) a b (fl_pl p cu) w) := by
  obtain ⟨hK, hn, hf, hs, hp, hc⟩ := id h
  obtain ⟨r, l1, f, l2, l3⟩ := pz_fin (body := bX1_takeCurrents_17 hC fi se cu (nI n) (nI p) (nI (a p))) (fun j st => ∃ f, st = (nI j, f, fl_wd (a p) a b (fl_c K n (b p) (a p) a b (fl_pl p cu)) j) ∧ ∀ w, w < j → f w = Int32.ofInt (fl_c K n (b p) (a p) a b (fl_pl p cu) w)) (fun r => ∃ f, r = (f, fl_wd (a p) a b (fl_c K n (b p) (a p) a b (fl_pl p cu)) n) ∧ ∀ w, w < n → f w = Int32.ofInt (fl_c K n (b p) (a p) a b (fl_pl p cu) w)) n (by
    rintro j st hj ⟨f, rfl, hf'⟩
    unfold bX1_takeCurrents_17
    dsimp only
    rcases Nat.lt_or_ge j n with q | q
    · right
      obtain ⟨ha, hb, hne⟩ := hf j q
      have ap := (hf p hp).1
      have j73 : ∀ v : Int32, v = Int32.ofInt (fl_c K n (b p) (a p) a b (fl_pl p cu) j) → jX1_takeCurrents_73 hC f (fl_wd (a p) a b (fl_c K n (b p) (a p) a b (fl_pl p cu)) j) fi se cu (nI n) (nI p) (nI (a p)) (nI j) (nI (a j)) (nI (b j)) (nI j) v = some (.inr (nI (j + 1), upd f j (Int32.ofInt (fl_c K n (b p) (a p) a b (fl_pl p cu) j)), fl_wd (a p) a b (fl_c K n (b p) (a p) a b (fl_pl p cu)) (j + 1))) := by
        rintro v rfl
        unfold jX1_takeCurrents_73 jX1_takeCurrents_119
        simp only [pz_let]
        rw [pz_gd (pz_in (show j < 22 by omega) (by decide)), pz_gd (pz_in (show j < 22 by omega) (by decide)), pz_gd (pz_in (show j < 22 by omega) (by decide)), nI_clamp (show j < 2 ^ 31 by omega), nI_1, tr_u1, fl_wd]
        by_cases g1 : a j = a p
        · rw [if_pos (by rw [g1]), if_pos g1]
        · rw [if_neg (pz_nz (by omega) (by omega) g1), if_neg g1]
          by_cases g2 : b j = a p
          · rw [if_pos (by rw [g2]), if_pos g2]
          · rw [if_neg (pz_nz (by omega) (by omega) g2), if_neg g2]
      refine ⟨q, (nI (j + 1), upd f j (Int32.ofInt (fl_c K n (b p) (a p) a b (fl_pl p cu) j)), fl_wd (a p) a b (fl_c K n (b p) (a p) a b (fl_pl p cu)) (j + 1)), ?_, _, rfl, ?_⟩
      · rw [if_neg (nI_ge q (by omega)), pz_gd (pz_in (show j < 22 by omega) (by decide)), nI_clamp (show j < 2 ^ 31 by omega), (hs j q).1, (hs j q).2, pz_let, pz_let, ph_pl4 (by omega), pz_bs]
        by_cases c1 : fl_pl p cu j = true
        · rw [if_pos ((fl_pln (by omega) (by omega)).mpr c1), if_neg (by decide), pz_gd (pz_in (show a j < 12 by omega) (by decide)), pz_gd (pz_in (show b j < 12 by omega) (by decide)), nI_clamp (show a j < 2 ^ 31 by omega), nI_clamp (show b j < 2 ^ 31 by omega), hh _ ha, hh _ hb, ← Int32.ofInt_sub]
          refine j73 _ ?_
          unfold fl_c
          rw [if_pos c1]
        · rw [if_neg (fun z => c1 ((fl_pln (by omega) (by omega)).mp z)), if_pos rfl]
          refine j73 _ ?_
          unfold fl_c
          rw [if_neg c1]
          rfl
      · intro w hw
        by_cases e : w = j
        · rw [e, tr_u1]
        · rw [tr_u2 f _ e]; exact hf' w (by omega)
    · left
      have e : j = n := by omega
      subst e
      exact ⟨_, by rw [if_pos (nI_le (Nat.le_refl _) (by omega))], f, rfl, hf'⟩) 1000 0 (0, C0, 0) (by omega) ⟨C0, rfl, fun w hw => absurd hw (by omega)⟩ (by omega)
  refine ⟨f, ?_, l3⟩
  unfold fX1_takeCurrents
  rw [pz_gd (pz_in (show p < 22 by omega) (by decide)), nI_clamp (show p < 2 ^ 31 by omega), (hs p hp).1, pz_let, l1, pz_bs, l2]
/-! the reference -/
theorem fw_r1 (h : fw_Net K n p a b fi se cu) (M : Nat → Int64) : ∃ M', fX7_minor (nI K) (nI n) (nI p) fi se cu M (-1) (-1) = some (Int64.ofInt (ds_det K (fl_A K n (b p) (a p) a b (fl_pl p cu))), M') := by
  obtain ⟨hK, hn, hf, hs, hp, hc⟩ := id h
  obtain ⟨ha, hb, hne⟩ := hf p hp
  have hm1 : ∀ y, y < K → ((nI y = -1) ↔ y = K) := fun y hy => ⟨fun q => absurd q (pz_m1 (by omega)), fun q => by omega⟩
  have ctK : mn_ct (b p) K K = K - 1 := by
    unfold mn_ct
    rw [if_pos hb, if_neg (by omega)]
    rfl
  have hσ : ∀ r, r < K - 1 → ds_sk (b p) r < K ∧ ds_sk (b p) r ≠ b p ∧ ds_sk (b p) r ≠ K ∧ mn_ct (b p) K (ds_sk (b p) r) = r := by
    intro r hr
    have h1 : ds_sk (b p) r < K - 1 + 1 := ds_sk_in hr
    refine ⟨by omega, ds_sk_ne _ _, by omega, ?_⟩
    have h2 := fl_un_sk (b p) r
    unfold fl_un at h2
    unfold mn_ct
    rw [h2, if_neg (by omega)]
    rfl
  obtain ⟨M', w⟩ := mn_minor hK hn hf hs hp (R := K) (C := K) (N := K - 1) (by omega) (by omega) (-1) (-1) hm1 hm1 M ctK (ds_sk (b p)) (ds_sk (b p)) hσ hσ
  refine ⟨M', ?_⟩
  rw [w]
  have e := fl_detA (m := K - 1) (n := n) (S := a p) (a := a) (b := b) (pl := fl_pl p cu) (G := b p) (by omega)
  rw [show K - 1 + 1 = K by omega] at e
  rw [e]
  rfl
theorem mn_sig {G S r K : Nat} (h : S ≠ G) (hG : G < K) (hS : S < K) (hr : r < K - 2) : ds_sk G (ds_sk (fl_un G S) r) < K ∧ ds_sk G (ds_sk (fl_un G S) r) ≠ G ∧ ds_sk G (ds_sk (fl_un G S) r) ≠ S ∧ mn_ct G S (ds_sk G (ds_sk (fl_un G S) r)) = r := by
  unfold ds_sk fl_un mn_ct
  refine ⟨?_, ?_, ?_, ?_⟩ <;> (repeat' split) <;> omega
theorem fw_r2 (h : fw_Net K n p a b fi se cu) (M : Nat → Int64) (H0 : Nat → Int32) (z1 z2 z3 z4 z5 : Nat → Int32) (y1 y2 y3 : Int32) (x3 x4 : Int64) :
    ∃ M' hM, dk_loop (bX7_flows_44 (nI K) (nI n) (nI p) fi se cu z1 z2 z3 y1 z4 z5 x4 y2 y3 (nI (a p)) (nI (b p)) x3) 1000 (0, M, H0) = some (M', hM) ∧ ∀ k, k < K → hM k = Int32.ofInt (fl_H K n (b p) (a p) a b (fl_pl p cu) k) := by
  obtain ⟨hK, hn, hf, hs, hp, hc⟩ := id h
  obtain ⟨ha, hb, hne⟩ := hf p hp
  obtain ⟨r, l1, l2⟩ := pz_fin (body := bX7_flows_44 (nI K) (nI n) (nI p) fi se cu z1 z2 z3 y1 z4 z5 x4 y2 y3 (nI (a p)) (nI (b p)) x3) (fun j st => ∃ M f, st = (nI j, M, f) ∧ ∀ k, k < j → f k = Int32.ofInt (fl_H K n (b p) (a p) a b (fl_pl p cu) k)) (fun r => ∀ k, k < K → r.2 k = Int32.ofInt (fl_H K n (b p) (a p) a b (fl_pl p cu) k)) K (by
    rintro j st hj ⟨M, f, rfl, hf'⟩
    unfold bX7_flows_44
    dsimp only
    rcases Nat.lt_or_ge j K with q | q
    · right
      refine ⟨q, ?_⟩
      have un : ∀ x, x < K → (if nI x ≤ nI (b p) then nI x else nI x - 1) = nI (fl_un (b p) x) := fun x hx => by
        unfold fl_un
        by_cases g : b p < x
        · rw [if_pos g, if_neg (nI_ge g (by omega)), show (nI x - 1 : Int32) = nI x - nI 1 from rfl, pz_sub (by omega) (by omega)]
        · rw [if_neg g, if_pos (nI_le (by omega) (by omega))]
      have unl : ∀ x, x < K → fl_un (b p) x ≤ x := fun x hx => by
        unfold fl_un
        by_cases g : b p < x
        · rw [if_pos g]; omega
        · rw [if_neg g]; omega
      have l123 : ∀ (M : Nat → Int64) (v : Int), v = fl_H K n (b p) (a p) a b (fl_pl p cu) j → ∃ t, jX7_flows_123 (nI K) (nI n) (nI p) fi se cu z1 z2 z3 y1 M f z4 z5 x4 y2 y3 (nI (a p)) (nI (b p)) x3 (nI j) (nI j) (Int64.ofInt v) = some (.inr t) ∧ ∃ M f, t = (nI (j + 1), M, f) ∧ ∀ k, k < j + 1 → f k = Int32.ofInt (fl_H K n (b p) (a p) a b (fl_pl p cu) k) := by
        rintro M v rfl
        unfold jX7_flows_123
        rw [pz_gd (pz_in (show j < 12 by omega) (by decide)), pz_let, pz_let, nI_clamp (by omega), Int64.toInt32_ofInt, nI_1]
        refine ⟨_, rfl, M, _, rfl, fun k hk => ?_⟩
        by_cases e : k = j
        · rw [e, tr_u1]
        · rw [tr_u2 f _ e]; exact hf' k (by omega)
      have l100 : ∀ (M : Nat → Int64) (v : Int) (rk : Nat), rk < 44 → ds_sg rk * v = fl_H K n (b p) (a p) a b (fl_pl p cu) j → ∃ t, jX7_flows_100 (nI K) (nI n) (nI p) fi se cu z1 z2 z3 y1 M f z4 z5 x4 y2 y3 (nI (a p)) (nI (b p)) x3 (nI j) (nI rk) (Int64.ofInt v) = some (.inr t) ∧ ∃ M f, t = (nI (j + 1), M, f) ∧ ∀ k, k < j + 1 → f k = Int32.ofInt (fl_H K n (b p) (a p) a b (fl_pl p cu) k) := by
        intro M v rk hrk hv
        unfold jX7_flows_100
        rw [(nt_d1 rk hrk).2.2.2]
        unfold ds_sg at hv
        by_cases g : rk % 2 = 0
        · rw [if_pos (nt_mod.mpr g)]
          rw [if_pos g, Int.one_mul] at hv
          exact l123 M v hv
        · rw [if_neg (fun z => g (nt_mod.mp z)), ← Int64.ofInt_neg]
          rw [if_neg g, Int.neg_one_mul] at hv
          exact l123 M (-v) hv
      have l80 : ∃ t, jX7_flows_80 (nI K) (nI n) (nI p) fi se cu z1 z2 z3 y1 M f z4 z5 x4 y2 y3 (nI (a p)) (nI (b p)) x3 (nI j) (nI (fl_un (b p) j)) (nI (fl_un (b p) (a p))) = some (.inr t) ∧ ∃ M f, t = (nI (j + 1), M, f) ∧ ∀ k, k < j + 1 → f k = Int32.ofInt (fl_H K n (b p) (a p) a b (fl_pl p cu) k) := by
        unfold jX7_flows_80
        have u1 := unl j q
        have u2 := unl (a p) ha
        rw [nI_add, pz_let]
        by_cases g : j = b p
        · rw [if_pos (by rw [g])]
          refine l100 M 0 _ (by omega) ?_
          rw [Int.mul_zero, g, fl_HG (m := K - 1) (by omega) hb ha hne]
        · rw [if_neg (pz_nz (by omega) (by omega) g)]
          have hx1 : ∀ y, y < K → ((nI y = nI (a p)) ↔ y = a p) := fun y hy => nI_eq (by omega) (by omega)
          have hx2 : ∀ y, y < K → ((nI y = nI j) ↔ y = j) := fun y hy => nI_eq (by omega) (by omega)
          have ctK : mn_ct (b p) (a p) K = K - 2 := by
            unfold mn_ct
            rw [if_pos hb, if_pos ha]
            omega
          obtain ⟨M', w⟩ := mn_minor hK hn hf hs hp (R := a p) (C := j) (N := K - 2) (fun z => hne z.symm) (fun z => g z.symm) (nI (a p)) (nI j) hx1 hx2 M ctK (fun r => ds_sk (b p) (ds_sk (fl_un (b p) (a p)) r)) (fun r => ds_sk (b p) (ds_sk (fl_un (b p) j) r)) (fun r hr => mn_sig hne hb ha hr) (fun r hr => mn_sig g hb q hr)
          rw [w, pz_bs]
          refine l100 M' _ _ (by omega) ?_
          have e := fl_cofM (m' := K - 2) (n := n) (a := a) (b := b) (pl := fl_pl p cu) (G := b p) (S := a p) (by omega) (by omega) hne (k := j) (by omega) g
          rw [show K - 2 + 1 + 1 = K by omega] at e
          unfold fl_H
          rw [e, Nat.add_comm]
      have l68 : ∃ t, jX7_flows_68 (nI K) (nI n) (nI p) fi se cu z1 z2 z3 y1 M f z4 z5 x4 y2 y3 (nI (a p)) (nI (b p)) x3 (nI j) (nI (fl_un (b p) j)) = some (.inr t) ∧ ∃ M f, t = (nI (j + 1), M, f) ∧ ∀ k, k < j + 1 → f k = Int32.ofInt (fl_H K n (b p) (a p) a b (fl_pl p cu) k) := by
        have u := un (a p) ha
        unfold jX7_flows_68
        by_cases g : nI (a p) ≤ nI (b p)
        · rw [if_pos g] at u ⊢
          rw [← u] at l80
          exact l80
        · rw [if_neg g] at u ⊢
          rw [u]
          exact l80
      have u := un j q
      rw [if_neg (nI_ge q (by omega))]
      by_cases g : nI j ≤ nI (b p)
      · rw [if_pos g] at u ⊢
        rw [← u] at l68
        exact l68
      · rw [if_neg g] at u ⊢
        rw [u]
        exact l68
    · left
      have e : j = K := by omega
      subst e
      exact ⟨_, by rw [if_pos (nI_le (Nat.le_refl _) (by omega))], hf'⟩) 1000 0 (0, M, H0) (by omega) ⟨M, H0, rfl, fun k hk => absurd hk (by omega)⟩ (by omega)
  exact ⟨r.1, r.2, l1, l2⟩
theorem fw_r3 (h : fw_Net K n p a b fi se cu) (hM C0 : Nat → Int32) (hh : ∀ k, k < K → hM k = Int32.ofInt (fl_H K n (b p) (a p) a b (fl_pl p cu) k)) (z1 z2 z3 z5 : Nat → Int32) (T : Nat → Int64) (y1 y2 y3 : Int32) (x4 : Int64) :
    ∃ cM, dk_loop (bX7_flows_134 (nI K) (nI n) (nI p) fi se cu z1 z2 z3 y1 T hM z5 x4 y2 y3 (nI (a p))) 1000 (0, 0, C0) = some (Int64.ofInt (fl_g K n (b p) (a p) a b (fl_pl p cu)), cM) ∧ ∀ w, w < n → cM w = Int32.ofInt (fl_c0 K n (b p) (a p) a b (fl_pl p cu) w) := by
  obtain ⟨hK, hn, hf, hs, hp, hc⟩ := id h
  have hH := fun k => fl_H_le (G := b p) (S := a p) (a := a) (b := b) (pl := fl_pl p cu) hn hK k
  have hc0 : ∀ w, (fl_c0 K n (b p) (a p) a b (fl_pl p cu) w).natAbs < 2 ^ 30 := fun w => by
    unfold fl_c0
    have h1 := hH (a w)
    have h2 := hH (b w)
    by_cases g : fl_pl p cu w = true
    · rw [if_pos g]; omega
    · rw [if_neg g]; decide
  have hgl : ∀ j, pg_f (fl_c0 K n (b p) (a p) a b (fl_pl p cu)) j < 2 ^ 30 := fun j => pg_f_lt _ (by decide) j (fun i _ => hc0 i)
  obtain ⟨r, l1, l2, l3⟩ := pz_fin (body := bX7_flows_134 (nI K) (nI n) (nI p) fi se cu z1 z2 z3 y1 T hM z5 x4 y2 y3 (nI (a p))) (fun j st => ∃ f, st = (Int64.ofInt (pg_f (fl_c0 K n (b p) (a p) a b (fl_pl p cu)) j), nI j, f) ∧ ∀ w, w < j → f w = Int32.ofInt (fl_c0 K n (b p) (a p) a b (fl_pl p cu) w)) (fun r => r.1 = Int64.ofInt (fl_g K n (b p) (a p) a b (fl_pl p cu)) ∧ ∀ w, w < n → r.2 w = Int32.ofInt (fl_c0 K n (b p) (a p) a b (fl_pl p cu) w)) n (by
    rintro j st hj ⟨f, rfl, hf'⟩
    unfold bX7_flows_134
    dsimp only
    rcases Nat.lt_or_ge j n with q | q
    · right
      obtain ⟨ha, hb, hne⟩ := hf j q
      have b1 := hc0 j
      have b2 := hgl j
      have j187 : ∀ v : Int32, v = Int32.ofInt (fl_c0 K n (b p) (a p) a b (fl_pl p cu) j) → jX7_flows_187 (nI K) (nI n) (nI p) fi se cu z1 z2 z3 y1 T hM f z5 x4 y2 y3 (nI (a p)) (Int64.ofInt (pg_f (fl_c0 K n (b p) (a p) a b (fl_pl p cu)) j)) (nI j) (nI j) v = some (.inr (Int64.ofInt (pg_f (fl_c0 K n (b p) (a p) a b (fl_pl p cu)) (j + 1)), nI (j + 1), upd f j (Int32.ofInt (fl_c0 K n (b p) (a p) a b (fl_pl p cu) j)))) := by
        rintro v rfl
        unfold jX7_flows_187
        rw [pz_gd (pz_in (show j < 22 by omega) (by decide)), pz_let, pz_gd (pz_in (show j < 22 by omega) (by decide)), nI_clamp (show j < 2 ^ 31 by omega), tr_u1, fw_64 b1, pg_ref (by omega) (by omega), pz_bs, pz_let, nI_1]
        rfl
      refine ⟨q, _, ?_, upd f j (Int32.ofInt (fl_c0 K n (b p) (a p) a b (fl_pl p cu) j)), rfl, ?_⟩
      · rw [if_neg (nI_ge q (by omega)), ph_pl7 (by omega), pz_bs]
        by_cases c1 : fl_pl p cu j = true
        · rw [if_pos ((fl_pln (by omega) (by omega)).mpr c1), if_neg (by decide), pz_gd (pz_in (show j < 22 by omega) (by decide)), nI_clamp (show j < 2 ^ 31 by omega), (hs j q).1, (hs j q).2, pz_gd (pz_in (show a j < 12 by omega) (by decide)), pz_gd (pz_in (show b j < 12 by omega) (by decide)), nI_clamp (show a j < 2 ^ 31 by omega), nI_clamp (show b j < 2 ^ 31 by omega), hh _ ha, hh _ hb, ← Int32.ofInt_sub]
          refine j187 _ ?_
          unfold fl_c0
          rw [if_pos c1]
        · rw [if_neg (fun z => c1 ((fl_pln (by omega) (by omega)).mp z)), if_pos rfl]
          refine j187 _ ?_
          unfold fl_c0
          rw [if_neg c1]
          rfl
      · intro w hw
        by_cases e : w = j
        · rw [e, tr_u1]
        · rw [tr_u2 f _ e]; exact hf' w (by omega)
    · left
      have e : j = n := by omega
      subst e
      refine ⟨_, by rw [if_pos (nI_le (Nat.le_refl _) (by omega))], ?_, hf'⟩
      dsimp only
      rw [fl_g_eq (hf p hp).2.1 (hf p hp).1 (hf p hp).2.2 (fw_ab h) hc]) 1000 0 (0, 0, C0) (by omega) ⟨C0, rfl, fun w hw => absurd hw (by omega)⟩ (by omega)
  exact ⟨r.2, by rw [l1, ← l2], l3⟩
theorem fw_r4 (h : fw_Net K n p a b fi se cu) (cM : Nat → Int32) (hh : ∀ w, w < n → cM w = Int32.ofInt (fl_c0 K n (b p) (a p) a b (fl_pl p cu) w)) (z1 z2 z3 z4 z5 : Nat → Int32) (T : Nat → Int64) (y1 y3 : Int32) (x4 : Int64) :
    ∃ cM', dk_loop (bX7_flows_215 (nI K) (nI n) (nI p) fi se cu z1 z2 z3 y1 T z4 z5 x4 y3 (nI (a p)) (Int64.ofInt (fl_g K n (b p) (a p) a b (fl_pl p cu)))) 1000 (0, cM, 0) = some (cM', fl_wd (a p) a b (fl_c K n (b p) (a p) a b (fl_pl p cu)) n) ∧ ∀ w, w < n → cM' w = Int32.ofInt (fl_c K n (b p) (a p) a b (fl_pl p cu) w) := by
  obtain ⟨hK, hn, hf, hs, hp, hc⟩ := id h
  have hH := fun k => fl_H_le (G := b p) (S := a p) (a := a) (b := b) (pl := fl_pl p cu) hn hK k
  have hg := fl_g_ne (G := b p) (S := a p) (fw_ab h) (hf p hp).2.1 (hf p hp).1 hc
  have hgl : fl_g K n (b p) (a p) a b (fl_pl p cu) < 2 ^ 30 := pg_f_lt _ (by decide) K (fun i _ => Nat.lt_of_le_of_lt (hH i) (by decide))
  have hnz := el_nz (D := ((fl_g K n (b p) (a p) a b (fl_pl p cu) : Nat) : Int)) (by omega) (by omega)
  have hc0 : ∀ w, (fl_c0 K n (b p) (a p) a b (fl_pl p cu) w).natAbs < 2 ^ 30 := fun w => by
    unfold fl_c0
    have h1 := hH (a w)
    have h2 := hH (b w)
    by_cases g : fl_pl p cu w = true
    · rw [if_pos g]; omega
    · rw [if_neg g]; decide
  obtain ⟨r, l1, f, l2, l3⟩ := pz_fin (body := bX7_flows_215 (nI K) (nI n) (nI p) fi se cu z1 z2 z3 y1 T z4 z5 x4 y3 (nI (a p)) (Int64.ofInt (fl_g K n (b p) (a p) a b (fl_pl p cu)))) (fun j st => ∃ f, st = (nI j, f, fl_wd (a p) a b (fl_c K n (b p) (a p) a b (fl_pl p cu)) j) ∧ (∀ w, w < j → f w = Int32.ofInt (fl_c K n (b p) (a p) a b (fl_pl p cu) w)) ∧ ∀ w, j ≤ w → w < n → f w = Int32.ofInt (fl_c0 K n (b p) (a p) a b (fl_pl p cu) w)) (fun r => ∃ f, r = (f, fl_wd (a p) a b (fl_c K n (b p) (a p) a b (fl_pl p cu)) n) ∧ ∀ w, w < n → f w = Int32.ofInt (fl_c K n (b p) (a p) a b (fl_pl p cu) w)) n (by
    rintro j st hj ⟨f, rfl, f1, f2⟩
    unfold bX7_flows_215 jX7_flows_291
    dsimp only
    rcases Nat.lt_or_ge j n with q | q
    · right
      obtain ⟨ha, hb, hne⟩ := hf j q
      have ap := (hf p hp).1
      have b1 := hc0 j
      refine ⟨q, (nI (j + 1), upd f j (Int32.ofInt (fl_c K n (b p) (a p) a b (fl_pl p cu) j)), fl_wd (a p) a b (fl_c K n (b p) (a p) a b (fl_pl p cu)) (j + 1)), ?_, _, rfl, ?_, ?_⟩
      · simp only [pz_let]
        rw [if_neg (nI_ge q (by omega)), pz_gd (pz_in (show j < 22 by omega) (by decide)), pz_gd (show dk_nz _ = true from decide_eq_true hnz), nI_clamp (show j < 2 ^ 31 by omega), (hs j q).1, (hs j q).2, f2 j (Nat.le_refl _) q, fw_64 b1, pg_div (by omega) (by omega), Int64.toInt32_ofInt, fl_c_eq (fw_ab h) hg q, tr_u1, nI_1, fl_wd]
        by_cases g1 : a j = a p
        · rw [if_pos (by rw [g1]), if_pos g1]
        · rw [if_neg (pz_nz (by omega) (by omega) g1), if_neg g1]
          by_cases g2 : b j = a p
          · rw [if_pos (by rw [g2]), if_pos g2, Int32.sub_eq_add_neg]
          · rw [if_neg (pz_nz (by omega) (by omega) g2), if_neg g2, Int32.add_zero]
      · intro w hw
        by_cases e : w = j
        · rw [e, tr_u1]
        · rw [tr_u2 f _ e]; exact f1 w (by omega)
      · intro w hw1 hw2
        rw [tr_u2 f _ (by omega)]
        exact f2 w (by omega) hw2
    · left
      have e : j = n := by omega
      subst e
      exact ⟨_, by rw [if_pos (nI_le (Nat.le_refl _) (by omega))], f, rfl, f1⟩) 1000 0 (0, cM, 0) (by omega) ⟨cM, rfl, fun w hw => absurd hw (by omega), fun w _ hw => hh w hw⟩ (by omega)
  exact ⟨f, by rw [l1, l2], l3⟩
theorem fw_r5 (h : fw_Net K n p a b fi se cu) (hM : Nat → Int32) (hh : ∀ k, k < K → hM k = Int32.ofInt (fl_H K n (b p) (a p) a b (fl_pl p cu) k)) (z1 z2 z3 z4 z5 : Nat → Int32) (T : Nat → Int64) (y1 y2 y3 : Int32) (x4 : Int64) :
    ∃ hM', dk_loop (bX7_flows_304 (nI K) (nI n) (nI p) fi se cu z1 z2 z3 y1 T z4 z5 x4 y2 y3 (nI (a p)) (Int64.ofInt (fl_g K n (b p) (a p) a b (fl_pl p cu)))) 1000 (0, hM) = some hM' ∧ ∀ k, k < K → hM' k = Int32.ofInt (fl_h K n (b p) (a p) a b (fl_pl p cu) k) := by
  obtain ⟨hK, hn, hf, hs, hp, hc⟩ := id h
  have hH := fun k => fl_H_le (G := b p) (S := a p) (a := a) (b := b) (pl := fl_pl p cu) hn hK k
  have hg := fl_g_ne (G := b p) (S := a p) (fw_ab h) (hf p hp).2.1 (hf p hp).1 hc
  have hgl : fl_g K n (b p) (a p) a b (fl_pl p cu) < 2 ^ 30 := pg_f_lt _ (by decide) K (fun i _ => Nat.lt_of_le_of_lt (hH i) (by decide))
  have hnz := el_nz (D := ((fl_g K n (b p) (a p) a b (fl_pl p cu) : Nat) : Int)) (by omega) (by omega)
  obtain ⟨r, l1, l2⟩ := pz_fin (body := bX7_flows_304 (nI K) (nI n) (nI p) fi se cu z1 z2 z3 y1 T z4 z5 x4 y2 y3 (nI (a p)) (Int64.ofInt (fl_g K n (b p) (a p) a b (fl_pl p cu)))) (fun j st => ∃ f, st = (nI j, f) ∧ (∀ k, k < j → f k = Int32.ofInt (fl_h K n (b p) (a p) a b (fl_pl p cu) k)) ∧ ∀ k, j ≤ k → k < K → f k = Int32.ofInt (fl_H K n (b p) (a p) a b (fl_pl p cu) k)) (fun f => ∀ k, k < K → f k = Int32.ofInt (fl_h K n (b p) (a p) a b (fl_pl p cu) k)) K (by
    rintro j st hj ⟨f, rfl, f1, f2⟩
    unfold bX7_flows_304
    dsimp only
    rcases Nat.lt_or_ge j K with q | q
    · right
      have b1 := hH j
      refine ⟨q, (nI (j + 1), upd f j (Int32.ofInt (fl_h K n (b p) (a p) a b (fl_pl p cu) j))), ?_, _, rfl, ?_, ?_⟩
      · rw [if_neg (nI_ge q (by omega)), pz_gd (pz_in (show j < 12 by omega) (by decide)), pz_gd (show dk_nz _ = true from decide_eq_true hnz), pz_let, pz_let, nI_clamp (show j < 2 ^ 31 by omega), f2 j (Nat.le_refl _) q, fw_64 (by omega), pg_div (by omega) (by omega), Int64.toInt32_ofInt, nI_1]
        rfl
      · intro w hw
        by_cases e : w = j
        · rw [e, tr_u1]
        · rw [tr_u2 f _ e]; exact f1 w (by omega)
      · intro w hw1 hw2
        rw [tr_u2 f _ (by omega)]
        exact f2 w (by omega) hw2
    · left
      have e : j = K := by omega
      subst e
      exact ⟨_, by rw [if_pos (nI_le (Nat.le_refl _) (by omega))], f1⟩) 1000 0 (0, hM) (by omega) ⟨hM, rfl, fun w hw => absurd hw (by omega), fun w _ hw => hh w hw⟩ (by omega)
  exact ⟨r, l1, l2⟩
end

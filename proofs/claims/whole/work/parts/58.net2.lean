/-! ===== NET 2: minors of class and reference are the same ===== -/
def fl_un (G x : Nat) : Nat := if G < x then x - 1 else x
theorem fl_sk_un {G x : Nat} (h : x ≠ G) : ds_sk G (fl_un G x) = x := by
  unfold fl_un
  by_cases g : G < x
  · rw [if_pos g, ds_sk_ge (by omega)]; omega
  · rw [if_neg g, ds_sk_lt (by omega)]
theorem fl_un_sk (G x : Nat) : fl_un G (ds_sk G x) = x := by
  unfold fl_un
  rcases Nat.lt_or_ge x G with g | g
  · rw [ds_sk_lt g, if_neg (by omega)]
  · rw [ds_sk_ge g, if_pos (by omega)]; rfl
section
variable {m n G S : Nat} {a b : Nat → Nat} {pl : Nat → Bool}
def fl_Lr (n G : Nat) (a b : Nat → Nat) (pl : Nat → Bool) (i c : Nat) : Int := fl_lp n a b pl (ds_sk G i) (ds_sk G c)
theorem fl_A_sk {i c : Nat} (hi : i < m) (hc : c < m) : fl_A (m + 1) n G S a b pl (ds_sk G i) (ds_sk G c) = fl_Lr n G a b pl i c := by
  unfold fl_A fl_Lr
  have h1 := ds_sk_in (j := G) hc
  rw [if_neg (by omega), if_neg (fun q => q.elim (ds_sk_ne G i) (ds_sk_ne G c))]
theorem fl_A_G {c : Nat} (hc : c ≤ m) (hG : G ≤ m) : fl_A (m + 1) n G S a b pl G c = ds_e G c := by
  unfold fl_A
  rw [if_neg (by omega), if_pos (Or.inl rfl)]
  unfold ds_i ds_e
  by_cases q : G = c
  · rw [if_pos q, if_pos q.symm]
  · rw [if_neg q, if_neg (fun z => q z.symm)]
theorem fl_detA (hG : G ≤ m) : ds_det (m + 1) (fl_A (m + 1) n G S a b pl) = ds_det m (fl_Lr n G a b pl) := by
  rw [ds_unit m G G _ hG hG (fun c hc => fl_A_G hc hG), ds_sg_par (b := 0) (by omega), show ds_sg 0 = 1 from rfl, Int.one_mul]
  exact ds_det_congr m (fun i c hi hc => fl_A_sk hi hc)
theorem fl_cofG (hG : G ≤ m) (hS : S ≤ m) (hSG : S ≠ G) : ds_C (m + 1) (fl_A (m + 1) n G S a b pl) S G = 0 := by
  unfold ds_C
  refine ds_alike (m + 1) S G _ (by omega) (by omega) hSG (fun c hc => ?_)
  unfold ds_set
  rw [if_pos rfl, if_neg (fun q => hSG q.symm), fl_A_G (by omega) hG]
theorem fl_cofA (hG : G ≤ m) (hSG : S ≠ G) {k : Nat} (hkG : k ≠ G) : ds_C (m + 1) (fl_A (m + 1) n G S a b pl) S k = ds_C m (fl_Lr n G a b pl) (fl_un G S) (fl_un G k) := by
  unfold ds_C
  rw [ds_unit m G G _ hG hG (fun c hc => by
    unfold ds_set
    rw [if_neg (fun q => hSG q.symm)]
    exact fl_A_G hc hG), ds_sg_par (b := 0) (by omega), show ds_sg 0 = 1 from rfl, Int.one_mul]
  refine ds_det_congr m (fun i c hi hc => ?_)
  unfold ds_set
  by_cases g : ds_sk G i = S
  · rw [if_pos g, if_pos (by rw [← g, fl_un_sk])]
    unfold ds_e
    by_cases q : ds_sk G c = k
    · rw [if_pos q, if_pos (by rw [← q, fl_un_sk])]
    · rw [if_neg q, if_neg (fun z => q (by rw [z]; exact fl_sk_un hkG))]
  · rw [if_neg g, if_neg (fun z => g (by rw [z]; exact fl_sk_un hSG))]
    exact fl_A_sk hi hc
theorem fl_cofM {m' : Nat} (hG : G ≤ m' + 1) (hS : S ≤ m' + 1) (hSG : S ≠ G) {k : Nat} (hk : k ≤ m' + 1) (hkG : k ≠ G) : ds_C (m' + 1 + 1) (fl_A (m' + 1 + 1) n G S a b pl) S k = ds_sg (fl_un G S + fl_un G k) * ds_det m' (fun i c => fl_lp n a b pl (ds_sk G (ds_sk (fl_un G S) i)) (ds_sk G (ds_sk (fl_un G k) c))) := by
  have u : ∀ x, x ≤ m' + 1 → x ≠ G → fl_un G x ≤ m' := fun x hx hxG => by
    unfold fl_un
    by_cases g : G < x
    · rw [if_pos g]; omega
    · rw [if_neg g]; omega
  rw [fl_cofA hG hSG hkG, ds_C_min m' _ _ _ (u S hS hSG) (u k hk hkG)]
  rfl
end
/-! the greatest common divisor of a row -/
def pg_f (f : Nat → Int) : Nat → Nat
  | 0 => 0
  | n + 1 => Int.gcd (pg_f f n) (f n)
theorem pg_f_dvd (f : Nat → Int) : ∀ n i, i < n → ((pg_f f n : Nat) : Int) ∣ f i
  | 0, i, hi => absurd hi (by omega)
  | n + 1, i, hi => by
    rw [pg_f]
    by_cases g : i = n
    · rw [g]; exact Int.gcd_dvd_right ..
    · exact Int.dvd_trans (Int.gcd_dvd_left ..) (pg_f_dvd f n i (by omega))
theorem pg_f_of (f : Nat → Int) (d : Nat) : ∀ n, (∀ i, i < n → (d : Int) ∣ f i) → d ∣ pg_f f n
  | 0, _ => Nat.dvd_zero d
  | n + 1, h => by
    rw [pg_f]
    have h1 := pg_f_of f d n (fun i hi => h i (by omega))
    exact Int.dvd_gcd (Int.natCast_dvd_natCast.mpr h1) (h n (by omega))
theorem pg_f_lt (f : Nat → Int) {B : Nat} (hB : 0 < B) : ∀ n, (∀ i, i < n → (f i).natAbs < B) → pg_f f n < B
  | 0, _ => hB
  | n + 1, h => by
    rw [pg_f]
    have h1 := pg_f_lt f hB n (fun i hi => h i (by omega))
    have h2 := h n (by omega)
    show Nat.gcd (Int.natAbs (pg_f f n : Nat)) (f n).natAbs < B
    rw [Int.natAbs_natCast]
    by_cases q : pg_f f n = 0
    · rw [q, Nat.gcd_zero_left]; exact h2
    · exact Nat.lt_of_le_of_lt (Nat.gcd_le_left _ (by omega)) h1
/-! heights, currents -/
section
variable {K n G S : Nat} {a b : Nat → Nat} {pl : Nat → Bool}
def fl_H (K n G S : Nat) (a b : Nat → Nat) (pl : Nat → Bool) (k : Nat) : Int := ds_C K (fl_A K n G S a b pl) S k
def fl_g (K n G S : Nat) (a b : Nat → Nat) (pl : Nat → Bool) : Nat := pg_f (fl_H K n G S a b pl) K
def fl_h (K n G S : Nat) (a b : Nat → Nat) (pl : Nat → Bool) (k : Nat) : Int := (fl_H K n G S a b pl k).tdiv (fl_g K n G S a b pl)
def fl_c0 (K n G S : Nat) (a b : Nat → Nat) (pl : Nat → Bool) (w : Nat) : Int := if pl w then fl_H K n G S a b pl (a w) - fl_H K n G S a b pl (b w) else 0
def fl_c (K n G S : Nat) (a b : Nat → Nat) (pl : Nat → Bool) (w : Nat) : Int := if pl w then fl_h K n G S a b pl (a w) - fl_h K n G S a b pl (b w) else 0
theorem fl_H_le (hn : n ≤ 22) (hK : K ≤ 12) (k : Nat) : (fl_H K n G S a b pl k).natAbs ≤ 705432 := fl_C_le hn hK (Nat.le_refl _) S k
theorem fl_g_ne (hab : ∀ w, w < n → a w < K ∧ b w < K) (hG : G < K) (hS : S < K) (hc : ∀ Q : Nat → Prop, (∀ w, w < n → pl w = true → (Q (a w) ↔ Q (b w))) → ∀ k j, k < K → j < K → Q k → Q j) : fl_g K n G S a b pl ≠ 0 := by
  intro e
  have hH : ∀ k, k < K → fl_H K n G S a b pl k = 0 := fun k hk => by
    have := pg_f_dvd (fl_H K n G S a b pl) K k hk
    rw [show pg_f (fl_H K n G S a b pl) K = 0 from e] at this
    exact Int.zero_dvd.mp this
  have d := ds_adj K S S (fl_A K n G S a b pl) hS hS
  rw [if_pos rfl] at d
  refine el_D (fl_inj (S := S) hab hG hc) K (Nat.le_refl _) ?_
  rw [← d]
  refine Eq.trans (ds_congr (fun j hj => ?_)) (ds_zero K)
  have : ds_C K (fl_A K n G S a b pl) S j = 0 := hH j hj
  rw [this, Int.mul_zero]
theorem fl_HG {m : Nat} (hK : K = m + 1) (hG : G < K) (hS : S < K) (hSG : S ≠ G) : fl_H K n G S a b pl G = 0 := by
  subst hK
  exact fl_cofG (by omega) (by omega) hSG
theorem fl_g_eq (hG : G < K) (hS : S < K) (hSG : S ≠ G) (hab : ∀ w, w < n → a w < K ∧ b w < K) (hc : ∀ Q : Nat → Prop, (∀ w, w < n → pl w = true → (Q (a w) ↔ Q (b w))) → ∀ k j, k < K → j < K → Q k → Q j) : pg_f (fl_c0 K n G S a b pl) n = fl_g K n G S a b pl := by
  apply Nat.dvd_antisymm
  · -- divides all heights
    refine pg_f_of _ _ K (fun k hk => ?_)
    refine hc (fun k => ((pg_f (fl_c0 K n G S a b pl) n : Nat) : Int) ∣ fl_H K n G S a b pl k) (fun w hw hpl => ?_) G k hG hk (by
      rw [fl_HG (m := K - 1) (by omega) hG hS hSG]
      exact Int.dvd_zero _)
    have d := pg_f_dvd (fl_c0 K n G S a b pl) n w hw
    unfold fl_c0 at d
    rw [if_pos hpl] at d
    exact ⟨fun q => (Int.dvd_iff_dvd_of_dvd_sub d).mp q, fun q => (Int.dvd_iff_dvd_of_dvd_sub d).mpr q⟩
  · refine pg_f_of _ _ n (fun w hw => ?_)
    unfold fl_c0
    by_cases g : pl w = true
    · rw [if_pos g]
      exact Int.dvd_sub (pg_f_dvd _ K _ (hab w hw).1) (pg_f_dvd _ K _ (hab w hw).2)
    · rw [if_neg g]
      exact Int.dvd_zero _
theorem fl_h_mul {k : Nat} (hk : k < K) : fl_H K n G S a b pl k = fl_g K n G S a b pl * fl_h K n G S a b pl k := by
  unfold fl_h
  exact (Int.mul_tdiv_cancel' (pg_f_dvd (fl_H K n G S a b pl) K k hk)).symm
theorem fl_h_le (hn : n ≤ 22) (hK : K ≤ 12) (hg : fl_g K n G S a b pl ≠ 0) {k : Nat} (hk : k < K) : (fl_h K n G S a b pl k).natAbs ≤ 705432 := by
  have h1 := fl_H_le (G := G) (S := S) (a := a) (b := b) (pl := pl) hn hK k
  have h2 := fl_h_mul (n := n) (G := G) (S := S) (a := a) (b := b) (pl := pl) hk
  rw [h2, Int.natAbs_mul, Int.natAbs_natCast] at h1
  exact Nat.le_trans (Nat.le_mul_of_pos_left _ (by omega)) h1
theorem fl_c_eq (hab : ∀ w, w < n → a w < K ∧ b w < K) (hg : fl_g K n G S a b pl ≠ 0) {w : Nat} (hw : w < n) : (fl_c0 K n G S a b pl w).tdiv (fl_g K n G S a b pl) = fl_c K n G S a b pl w := by
  unfold fl_c0 fl_c
  by_cases g : pl w = true
  · rw [if_pos g, if_pos g, fl_h_mul (hab w hw).1, fl_h_mul (hab w hw).2, ← Int.mul_sub]
    rw [Int.mul_tdiv_cancel_left _ (by omega)]
  · rw [if_neg g, if_neg g, Int.zero_tdiv]
end

/-! ===== PURE 25b: the squares tile ===== -/
def sq_b (bt : Nat) (cu : Nat → Int32) (c : Nat → Int) (w : Nat) : Bool := fl_pl bt cu w && decide (c w ≠ 0)
def sq_l (fc : Nat → Nat) (p : Nat → Int) (w : Nat) : Int := if p (fc (2 * w + 1)) ≤ p (fc (2 * w)) then p (fc (2 * w + 1)) else p (fc (2 * w))
def sq_y (a b : Nat → Nat) (h : Nat → Int) (w : Nat) : Int := if h (b w) ≤ h (a w) then h (b w) else h (a w)
def sq_s (c : Nat → Int) (w : Nat) : Int := ((c w).natAbs : Int)
def sq_c (bt : Nat) (cu : Nat → Int32) (a b fc : Nat → Nat) (h c p : Nat → Int) (w : Nat) (x y : Int) : Bool := decide (sq_b bt cu c w = true ∧ sq_l fc p w ≤ x ∧ x < sq_l fc p w + sq_s c w ∧ sq_y a b h w ≤ y ∧ y < sq_y a b h w + sq_s c w)
section
variable {K n F bt : Nat} {a b t : Nat → Nat} {u : Nat → Nat → Nat} {fc : Nat → Nat} {cu : Nat → Int32} {po : Int32} {h c p : Nat → Int}
theorem tl_sq (hfo : fo_Ok K n F bt a b fc cu h c p) {w : Nat} (hw : w < n) (hs : sq_b bt cu c w = true) : w ≠ bt ∧ c w = h (a w) - h (b w) ∧ p (fc (2 * w + 1)) - p (fc (2 * w)) = c w ∧ c w ≠ 0 := by
  unfold sq_b at hs
  rw [Bool.and_eq_true] at hs
  obtain ⟨s1, s2⟩ := hs
  have e := hfo.1 w hw
  rw [if_pos s1] at e
  have wb : w ≠ bt := by
    unfold fl_pl at s1
    exact (of_decide_eq_true s1).1
  exact ⟨wb, e, hfo.2.1 w hw wb, of_decide_eq_true s2⟩
theorem tl_nsq (hfo : fo_Ok K n F bt a b fc cu h c p) {w : Nat} (hw : w < n) (hs : ¬ sq_b bt cu c w = true) : c w = 0 := by
  have e := hfo.1 w hw
  by_cases g : fl_pl bt cu w = true
  · unfold sq_b at hs
    rw [g, Bool.true_and, decide_eq_true_iff] at hs
    exact Classical.byContradiction hs
  · rw [if_neg g] at e
    exact e
theorem tl_term (hfo : fo_Ok K n F bt a b fc cu h c p) {w : Nat} (hw : w < n) (hwb : w ≠ bt) (x y : Int) : ((if x < p (fc (2 * w + 1)) then (1 : Int) else 0) - (if x < p (fc (2 * w)) then 1 else 0)) * ((if y < h (a w) then 1 else 0) - (if y < h (b w) then 1 else 0)) = if sq_c bt cu a b fc h c p w x y = true then 1 else 0 := by
  by_cases hs : sq_b bt cu c w = true
  · obtain ⟨_, e1, e2, e3⟩ := tl_sq hfo hw hs
    by_cases g : sq_c bt cu a b fc h c p w x y = true
    · rw [if_pos g]
      unfold sq_c at g
      obtain ⟨_, g1, g2, g3, g4⟩ := of_decide_eq_true g
      unfold sq_l at g1
      unfold sq_l sq_s at g2
      unfold sq_y at g3
      unfold sq_y sq_s at g4
      rcases Int.lt_or_gt_of_ne e3 with q | q
      · rw [if_pos (show p (fc (2 * w + 1)) ≤ p (fc (2 * w)) by omega)] at g1 g2
        rw [if_neg (show ¬ h (b w) ≤ h (a w) by omega)] at g3 g4
        rw [if_neg (show ¬ x < p (fc (2 * w + 1)) by omega), if_pos (show x < p (fc (2 * w)) by omega), if_neg (show ¬ y < h (a w) by omega), if_pos (show y < h (b w) by omega)]
        rfl
      · rw [if_neg (show ¬ p (fc (2 * w + 1)) ≤ p (fc (2 * w)) by omega)] at g1 g2
        rw [if_pos (show h (b w) ≤ h (a w) by omega)] at g3 g4
        rw [if_pos (show x < p (fc (2 * w + 1)) by omega), if_neg (show ¬ x < p (fc (2 * w)) by omega), if_pos (show y < h (a w) by omega), if_neg (show ¬ y < h (b w) by omega)]
        rfl
    · rw [if_neg g]
      unfold sq_c at g
      rw [decide_eq_true_iff] at g
      unfold sq_l sq_s sq_y at g
      rcases Int.lt_or_gt_of_ne e3 with q | q
      · rw [if_pos (show p (fc (2 * w + 1)) ≤ p (fc (2 * w)) by omega), if_neg (show ¬ h (b w) ≤ h (a w) by omega)] at g
        by_cases z1 : x < p (fc (2 * w + 1))
        · rw [if_pos z1, if_pos (show x < p (fc (2 * w)) by omega), Int.sub_self, Int.zero_mul]
        · by_cases z2 : x < p (fc (2 * w))
          · by_cases z3 : y < h (a w)
            · rw [if_pos z3, if_pos (show y < h (b w) by omega), Int.sub_self, Int.mul_zero]
            · by_cases z4 : y < h (b w)
              · exact absurd ⟨hs, by omega, by omega, by omega, by omega⟩ g
              · rw [if_neg z3, if_neg z4, Int.sub_self, Int.mul_zero]
          · rw [if_neg z1, if_neg z2, Int.sub_self, Int.zero_mul]
      · rw [if_neg (show ¬ p (fc (2 * w + 1)) ≤ p (fc (2 * w)) by omega), if_pos (show h (b w) ≤ h (a w) by omega)] at g
        by_cases z1 : x < p (fc (2 * w))
        · rw [if_pos z1, if_pos (show x < p (fc (2 * w + 1)) by omega), Int.sub_self, Int.zero_mul]
        · by_cases z2 : x < p (fc (2 * w + 1))
          · by_cases z3 : y < h (b w)
            · rw [if_pos z3, if_pos (show y < h (a w) by omega), Int.sub_self, Int.mul_zero]
            · by_cases z4 : y < h (a w)
              · exact absurd ⟨hs, by omega, by omega, by omega, by omega⟩ g
              · rw [if_neg z3, if_neg z4, Int.sub_self, Int.mul_zero]
          · rw [if_neg z1, if_neg z2, Int.sub_self, Int.zero_mul]
  · have c0 := tl_nsq hfo hw hs
    have e2 := hfo.2.1 w hw hwb
    have nc : ¬ sq_c bt cu a b fc h c p w x y = true := fun z => by
      unfold sq_c at z
      exact hs (of_decide_eq_true z).1
    rw [if_neg nc, show p (fc (2 * w + 1)) = p (fc (2 * w)) by omega, Int.sub_self, Int.zero_mul]
/-- each unit of the rectangle lies in just one square, none beyond it in any -/
theorem tl_sum (hrd : rd_Ok K n F bt a b t u fc cu po) (hfo : fo_Ok K n F bt a b fc cu h c p) (x y : Int) : ds_sum n (fun w => if sq_c bt cu a b fc h c p w x y = true then 1 else 0) = ((if x < p (fc (2 * bt)) then 1 else 0) - (if x < 0 then 1 else 0)) * ((if y < h (a bt) then 1 else 0) - (if y < 0 then 1 else 0)) := by
  have e := pl_cell (pa_Fc hrd.1 hrd.2.1) hrd.2.2.2.1 p h x y
  obtain ⟨f1, f2, f3, f4, f5, f6, f7⟩ := id hfo
  rw [f5, f6] at e
  rw [← e]
  refine ds_congr (fun w hw => ?_)
  by_cases g : w = bt
  · rw [if_pos g, if_neg (fun z => by
      unfold sq_c at z
      exact (tl_sq hfo hw (of_decide_eq_true z).1).1 g)]
  · rw [if_neg g]
    exact (tl_term hfo hw g x y).symm
theorem tl_W (hrd : rd_Ok K n F bt a b t u fc cu po) (hfo : fo_Ok K n F bt a b fc cu h c p) : 0 ≤ p (fc (2 * bt)) := by
  rcases Int.lt_or_le (p (fc (2 * bt))) 0 with g | g
  · have e := tl_sum hrd hfo (p (fc (2 * bt))) 0
    obtain ⟨_, _, _, _, _, _, f7⟩ := hfo
    rw [if_neg (by omega), if_pos g, if_pos f7, if_neg (by omega)] at e
    have := (ds_nn n (fun w => if sq_c bt cu a b fc h c p w (p (fc (2 * bt))) 0 = true then 1 else 0) (fun w _ => by
      by_cases q : sq_c bt cu a b fc h c p w (p (fc (2 * bt))) 0 = true
      · rw [if_pos q]; decide
      · rw [if_neg q]; decide)).1
    rw [e] at this
    exact absurd this (by decide)
  · exact g
theorem tl_cell (hrd : rd_Ok K n F bt a b t u fc cu po) (hfo : fo_Ok K n F bt a b fc cu h c p) (x y : Int) : ds_sum n (fun w => if sq_c bt cu a b fc h c p w x y = true then 1 else 0) = if 0 ≤ x ∧ x < p (fc (2 * bt)) ∧ 0 ≤ y ∧ y < h (a bt) then 1 else 0 := by
  rw [tl_sum hrd hfo]
  have hW := tl_W hrd hfo
  obtain ⟨_, _, _, _, _, _, f7⟩ := hfo
  by_cases g1 : x < 0
  · rw [if_pos g1, if_pos (show x < p (fc (2 * bt)) by omega), Int.sub_self, Int.zero_mul, if_neg (by omega)]
  · by_cases g2 : x < p (fc (2 * bt))
    · by_cases g3 : y < 0
      · rw [if_pos g3, if_pos (show y < h (a bt) by omega), Int.sub_self, Int.mul_zero, if_neg (by omega)]
      · by_cases g4 : y < h (a bt)
        · rw [if_pos g2, if_neg g1, if_pos g4, if_neg g3, if_pos ⟨by omega, g2, by omega, g4⟩]
          rfl
        · rw [if_neg g4, if_neg g3, Int.sub_self, Int.mul_zero, if_neg (by omega)]
    · rw [if_neg g2, if_neg g1, Int.sub_self, Int.zero_mul, if_neg (by omega)]
theorem tl_hit (hrd : rd_Ok K n F bt a b t u fc cu po) (hfo : fo_Ok K n F bt a b fc cu h c p) {w : Nat} (hw : w < n) {x y : Int} (hc : sq_c bt cu a b fc h c p w x y = true) : 0 ≤ x ∧ x < p (fc (2 * bt)) ∧ 0 ≤ y ∧ y < h (a bt) := by
  refine Classical.byContradiction (fun g => ?_)
  have e := tl_cell hrd hfo x y
  rw [if_neg g] at e
  have := (ds_nn n (fun w => if sq_c bt cu a b fc h c p w x y = true then 1 else 0) (fun w _ => by
    by_cases q : sq_c bt cu a b fc h c p w x y = true
    · rw [if_pos q]; decide
    · rw [if_neg q]; decide)).2 e w hw
  rw [if_pos hc] at this
  exact absurd this (by decide)
theorem tl_ex (hrd : rd_Ok K n F bt a b t u fc cu po) (hfo : fo_Ok K n F bt a b fc cu h c p) {x y : Int} (hx : 0 ≤ x) (hx2 : x < p (fc (2 * bt))) (hy : 0 ≤ y) (hy2 : y < h (a bt)) : ∃ w, w < n ∧ sq_c bt cu a b fc h c p w x y = true := by
  refine Classical.byContradiction (fun g => ?_)
  have e := tl_cell hrd hfo x y
  rw [if_pos ⟨hx, hx2, hy, hy2⟩] at e
  have : ds_sum n (fun w => if sq_c bt cu a b fc h c p w x y = true then (1 : Int) else 0) = 0 := Eq.trans (ds_congr (fun w hw => if_neg (fun q => g ⟨w, hw, q⟩))) (ds_zero n)
  rw [this] at e
  exact absurd e (by decide)
/-- a square lies within the rectangle -/
theorem tl_in (hrd : rd_Ok K n F bt a b t u fc cu po) (hfo : fo_Ok K n F bt a b fc cu h c p) {w : Nat} (hw : w < n) (hs : sq_b bt cu c w = true) : 0 ≤ sq_l fc p w ∧ 0 ≤ sq_y a b h w ∧ sq_l fc p w + sq_s c w ≤ p (fc (2 * bt)) ∧ sq_y a b h w + sq_s c w ≤ h (a bt) ∧ 1 ≤ sq_s c w := by
  obtain ⟨_, _, _, e3⟩ := tl_sq hfo hw hs
  have s1 : 1 ≤ sq_s c w := by
    unfold sq_s
    omega
  have c1 := tl_hit hrd hfo hw (x := sq_l fc p w) (y := sq_y a b h w) (decide_eq_true ⟨hs, by omega, by omega, by omega, by omega⟩)
  have c2 := tl_hit hrd hfo hw (x := sq_l fc p w + sq_s c w - 1) (y := sq_y a b h w + sq_s c w - 1) (decide_eq_true ⟨hs, by omega, by omega, by omega, by omega⟩)
  exact ⟨c1.1, c1.2.2.1, by omega, by omega, s1⟩
end

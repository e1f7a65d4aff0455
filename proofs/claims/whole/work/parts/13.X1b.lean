/-! ===== SquareTiler$Flow.commonDivisor ===== -/
abbrev rX1_commonDivisor : Room := { frames := 1, cells := 0, slots := 0, locals := 40 }
def ovX1_commonDivisor : List Cond := [Cond.methodLink RX1 110 Lib.MathLoose.abs_long.x, Cond.static Lib.MathLoose.abs_long.x, Cond.initialized "java/lang/Math", Cond.code Lib.MathLoose.abs_long.x Lib.MathLoose.abs_long.code 2 (some .long)]
def vsX1_commonDivisor : List Cond := .code yX1_commonDivisor cX1_commonDivisor 11 (some .long) :: (ovX1_commonDivisor ++ [])
theorem qX1_commonDivisor_labs1 : Cond.methodLink RX1 110 Lib.MathLoose.abs_long.x ∈ vsX1_commonDivisor := List.mem_cons_of_mem _ (List.mem_append_left _ (List.mem_of_getElem? (i := 0) rfl))
theorem qX1_commonDivisor_labs2 : Cond.static Lib.MathLoose.abs_long.x ∈ vsX1_commonDivisor := List.mem_cons_of_mem _ (List.mem_append_left _ (List.mem_of_getElem? (i := 1) rfl))
theorem qX1_commonDivisor_math : Cond.initialized "java/lang/Math" ∈ vsX1_commonDivisor := List.mem_cons_of_mem _ (List.mem_append_left _ (List.mem_of_getElem? (i := 2) rfl))
theorem qX1_commonDivisor_labs4 : Cond.code Lib.MathLoose.abs_long.x Lib.MathLoose.abs_long.code 2 (some .long) ∈ vsX1_commonDivisor := List.mem_cons_of_mem _ (List.mem_append_left _ (List.mem_of_getElem? (i := 3) rfl))
theorem gd_vsX1_commonDivisor : ∀ w ∈ vsX1_commonDivisor, goodWord w = true := dk_cons rfl (dk_app (dk_all (by decide +kernel)) dk_nil)
def bX1_commonDivisor_15 (st : Int64 × Int64 × Int32) : Option ((Int64) ⊕ (Int64 × Int64 × Int32)) := if 100 ≤ st.2.2 then some (.inl st.1) else if (lg_cmp st.2.1 0) = 0 then some (.inl st.1) else dk_gd (dk_nz st.2.1) (dk_let ((st.1 - st.1 / st.2.1 * st.2.1)) (fun x9_7 => dk_let (st.2.2 + 1) (fun x8_8 => some (.inr (st.2.1, x9_7, x8_8)))))
def fX1_commonDivisor (x0 x2 : Int64) : Option (Int64) := dk_let ((if 0 < x0 then x0 else -x0)) (fun x4_1 => dk_let ((if 0 < x2 then x2 else -x2)) (fun x6_2 => dk_bnd (dk_loop (bX1_commonDivisor_15) 1000 (x4_1, x6_2, 0)) (fun r_3 => some r_3)))
section
variable {p : Program} {l : Launch} {e : Env} {s : State} {m : MethodId} {args : Array Value} {below : List Frame} {meth : Method} {c : Code} {dC : Nat → ClassId} {dI : Nat → Nat → Nat} {cI cJ cZ : ClassId} {A : Nat → Prop}
set_option maxHeartbeats 4000000 in
set_option maxRecDepth 100000 in
theorem tX1_commonDivisor_15 (C : dk_C p s m meth c args cX1_commonDivisor (some .long) 11 RX1 vsX1_commonDivisor) (hK : va_K (dC, dI) vwCl (dk_ty cI cJ cZ) s) (hA : ∀ q : Nat, s.heap.size ≤ q → A q) {out : Int64} {st : Int64 × Int64 × Int32} {y : (Int64) ⊕ (Int64 × Int64 × Int32)} (h : bX1_commonDivisor_15 st = some y) (hE : ∀ z : Int64, y = .inl z → ∀ (H : Heap) (locs : List Loc), va_P (dC, dI) vwCl [] H → va_D A [] → va_S A s.heap H locs → ∀ ls : Array Slot, lv_has ls 11 [(4, .long z)] → W p l e rX1_commonDivisor s m args below meth c H locs 0 0 (MQ below (dk_Ql (dC, dI) (dk_ty cI cJ cZ) [] out A) args s 0 0 A) (F0 m 50 ls [])) (hC : ∀ z : Int64 × Int64 × Int32, y = .inr z → ∀ (H : Heap) (locs : List Loc), va_P (dC, dI) vwCl [] H → va_D A [] → va_S A s.heap H locs → ∀ ls : Array Slot, lv_has ls 11 [(4, .long z.1), (6, .long z.2.1), (8, .int z.2.2)] → W p l e rX1_commonDivisor s m args below meth c H locs 0 0 (MQ below (dk_Ql (dC, dI) (dk_ty cI cJ cZ) [] out A) args s 0 0 A) (F0 m 15 ls [])) : ∀ (H : Heap) (locs : List Loc), va_P (dC, dI) vwCl [] H → va_D A [] → va_S A s.heap H locs → ∀ ls : Array Slot, lv_has ls 11 [(4, .long st.1), (6, .long st.2.1), (8, .int st.2.2)] → W p l e rX1_commonDivisor s m args below meth c H locs 0 0 (MQ below (dk_Ql (dC, dI) (dk_ty cI cJ cZ) [] out A) args s 0 0 A) (F0 m 15 ls []) := by
  obtain ⟨hx, hb, hr, hml, hown, hts, hlocks⟩ := id C
  intro H locs hP hD hS ls hl
  unfold bX1_commonDivisor_15 at h
  refine lv_iload hx hb dX1_commonDivisor_15 (lv_at hl 2 rfl) ?_
  refine lv_bipush (v := 100) hx hb dX1_commonDivisor_17 (by decide) ?_
  refine lv_icmp_ge (tgt := 50) hx hb dX1_commonDivisor_19 (by decide) (fun c_4 => ?_) (fun c_4 => ?_)
  · replace h := dk_it c_4 h
    exact hE _ (Option.some.inj h).symm _ _ hP hD hS ls (lv_sub hl [0] rfl)
  · replace h := dk_ie c_4 h
    refine lv_lload hx hb dX1_commonDivisor_22 (lv_at hl 1 rfl) ?_
    refine lv_lconst (v := 0) hx hb dX1_commonDivisor_24 (by decide) ?_
    refine W.lcmp hx hb dX1_commonDivisor_25 ?_
    refine lv_if_eq (tgt := 50) hx hb dX1_commonDivisor_26 (by decide) (fun c_5 => ?_) (fun c_5 => ?_)
    · replace h := dk_it c_5 h
      exact hE _ (Option.some.inj h).symm _ _ hP hD hS ls (lv_sub hl [0] rfl)
    · replace h := dk_ie c_5 h
      refine lv_lload hx hb dX1_commonDivisor_29 (lv_at hl 0 rfl) ?_
      refine lv_lload hx hb dX1_commonDivisor_31 (lv_at hl 1 rfl) ?_
      obtain ⟨g_6, h⟩ := dk_gd_to h
      have g_6 := dk_nz_to g_6
      refine lv_lrem hx hb dX1_commonDivisor_33 g_6 ?_
      refine lv_topl (fun x9_7 ex9_7 => ?_)
      replace h := dk_let_to ex9_7 h
      refine lv_lstore (lv' := [(9, .long x9_7), (4, .long st.1), (6, .long st.2.1), (8, .int st.2.2)]) hx hb dX1_commonDivisor_34 hl (by decide) rfl (fun ls hl => ?_)
      refine lv_lload hx hb dX1_commonDivisor_36 (lv_at hl 2 rfl) ?_
      refine lv_lstore (lv' := [(4, .long st.2.1), (9, .long x9_7), (6, .long st.2.1), (8, .int st.2.2)]) hx hb dX1_commonDivisor_38 hl (by decide) rfl (fun ls hl => ?_)
      refine lv_lload hx hb dX1_commonDivisor_40 (lv_at hl 1 rfl) ?_
      refine lv_lstore (lv' := [(6, .long x9_7), (4, .long st.2.1), (9, .long x9_7), (8, .int st.2.2)]) hx hb dX1_commonDivisor_42 hl (by decide) rfl (fun ls hl => ?_)
      obtain ⟨x8_8, ex8_8⟩ : ∃ z : Int32, z = st.2.2 + 1 := ⟨_, rfl⟩
      replace h := dk_let_to ex8_8 h
      refine lv_iinc (v := x8_8) (lv' := [(8, .int x8_8), (6, .long x9_7), (4, .long st.2.1), (9, .long x9_7)]) hx hb dX1_commonDivisor_44 hl (k := 3) rfl (by rw [ex8_8]; rfl) (by decide) rfl (fun ls hl => ?_)
      refine lv_goto (tgt := 15) hx hb dX1_commonDivisor_47 (by decide) ?_
      exact hC _ (Option.some.inj h).symm _ _ hP hD hS ls (lv_sub hl [2, 1, 0] rfl)
set_option maxHeartbeats 4000000 in
set_option maxRecDepth 100000 in
theorem lX1_commonDivisor_15 (C : dk_C p s m meth c args cX1_commonDivisor (some .long) 11 RX1 vsX1_commonDivisor) (hK : va_K (dC, dI) vwCl (dk_ty cI cJ cZ) s) (hA : ∀ q : Nat, s.heap.size ≤ q → A q) {out : Int64} {n : Nat} {st : Int64 × Int64 × Int32} {r : Int64} (h : dk_loop (bX1_commonDivisor_15) n st = some r) (hE : ∀ (H : Heap) (locs : List Loc), va_P (dC, dI) vwCl [] H → va_D A [] → va_S A s.heap H locs → ∀ ls : Array Slot, lv_has ls 11 [(4, .long r)] → W p l e rX1_commonDivisor s m args below meth c H locs 0 0 (MQ below (dk_Ql (dC, dI) (dk_ty cI cJ cZ) [] out A) args s 0 0 A) (F0 m 50 ls [])) : ∀ (H : Heap) (locs : List Loc), va_P (dC, dI) vwCl [] H → va_D A [] → va_S A s.heap H locs → ∀ ls : Array Slot, lv_has ls 11 [(4, .long st.1), (6, .long st.2.1), (8, .int st.2.2)] → W p l e rX1_commonDivisor s m args below meth c H locs 0 0 (MQ below (dk_Ql (dC, dI) (dk_ty cI cJ cZ) [] out A) args s 0 0 A) (F0 m 15 ls []) :=
  dk_loopW (P := fun st => ∀ (H : Heap) (locs : List Loc), va_P (dC, dI) vwCl [] H → va_D A [] → va_S A s.heap H locs → ∀ ls : Array Slot, lv_has ls 11 [(4, .long st.1), (6, .long st.2.1), (8, .int st.2.2)] → W p l e rX1_commonDivisor s m args below meth c H locs 0 0 (MQ below (dk_Ql (dC, dI) (dk_ty cI cJ cZ) [] out A) args s 0 0 A) (F0 m 15 ls [])) (K := fun r => ∀ (H : Heap) (locs : List Loc), va_P (dC, dI) vwCl [] H → va_D A [] → va_S A s.heap H locs → ∀ ls : Array Slot, lv_has ls 11 [(4, .long r)] → W p l e rX1_commonDivisor s m args below meth c H locs 0 0 (MQ below (dk_Ql (dC, dI) (dk_ty cI cJ cZ) [] out A) args s 0 0 A) (F0 m 50 ls [])) (fun st y hy k1 k2 => tX1_commonDivisor_15 C hK hA hy k1 k2) n st r h hE
end
set_option maxHeartbeats 4000000 in
set_option maxRecDepth 100000 in
theorem mX1_commonDivisor (l : Launch) (dC : Nat → ClassId) (dI : Nat → Nat → Nat) (cI cJ cZ : ClassId) {x0 x2 : Int64} {out : Int64} (h : fX1_commonDivisor x0 x2 = some out) (sz : Nat) : Met l yX1_commonDivisor vsX1_commonDivisor rX1_commonDivisor (va_Pc [.long x0, .long x2] (dk_Pre (dC, dI) (dk_ty cI cJ cZ) [] sz)) (dk_Ql (dC, dI) (dk_ty cI cJ cZ) [] out (va_A [] sz)) 0 0 (va_A [] sz) := by
  refine dk_met (cc := cX1_commonDivisor) (maxL := 11) (ret := (some .long)) (Qc := fun A => dk_Ql (dC, dI) (dk_ty cI cJ cZ) [] out A) (by decide) rfl (Nat.le_of_ble_eq_true rfl) ?_
  intro p e s m below meth c A C hnm hA hK hP hD hS ls hl
  have C : dk_C p s m meth c _ cX1_commonDivisor (some .long) 11 RX1 vsX1_commonDivisor := C
  obtain ⟨hx, hb, hr, hml, hown, hts, hlocks⟩ := id C
  have hl : lv_has ls 11 [(0, .long x0), (2, .long x2)] := hl
  unfold fX1_commonDivisor at h
  refine lv_lload_n hx hb dX1_commonDivisor_0 rfl (lv_at hl 0 rfl) ?_
  refine va_mabs_long hx hb (hml.trans hl.1.symm) hown (hts _ qX1_commonDivisor_labs1) (hts _ qX1_commonDivisor_labs2) (hts _ qX1_commonDivisor_math) (hts _ qX1_commonDivisor_labs4) (Nat.le_of_ble_eq_true rfl) (Nat.le_of_ble_eq_true rfl) (Nat.le_of_ble_eq_true rfl) (Nat.le_of_ble_eq_true rfl) dX1_commonDivisor_1 ?_
  refine lv_topl (fun x4_1 ex4_1 => ?_)
  replace h := dk_let_to ex4_1 h
  refine lv_lstore (lv' := [(4, .long x4_1), (0, .long x0), (2, .long x2)]) hx hb dX1_commonDivisor_4 hl (by decide) rfl (fun ls hl => ?_)
  refine lv_lload_n hx hb dX1_commonDivisor_6 rfl (lv_at hl 2 rfl) ?_
  refine va_mabs_long hx hb (hml.trans hl.1.symm) hown (hts _ qX1_commonDivisor_labs1) (hts _ qX1_commonDivisor_labs2) (hts _ qX1_commonDivisor_math) (hts _ qX1_commonDivisor_labs4) (Nat.le_of_ble_eq_true rfl) (Nat.le_of_ble_eq_true rfl) (Nat.le_of_ble_eq_true rfl) (Nat.le_of_ble_eq_true rfl) dX1_commonDivisor_7 ?_
  refine lv_topl (fun x6_2 ex6_2 => ?_)
  replace h := dk_let_to ex6_2 h
  refine lv_lstore (lv' := [(6, .long x6_2), (4, .long x4_1), (0, .long x0), (2, .long x2)]) hx hb dX1_commonDivisor_10 hl (by decide) rfl (fun ls hl => ?_)
  refine lv_iconst (v := 0) hx hb dX1_commonDivisor_12 (by decide) ?_
  refine lv_istore (lv' := [(8, .int 0), (6, .long x6_2), (4, .long x4_1), (0, .long x0), (2, .long x2)]) hx hb dX1_commonDivisor_13 hl (by decide) rfl (fun ls hl => ?_)
  obtain ⟨r_3, hLr_3, h⟩ := dk_bnd_to h
  refine lX1_commonDivisor_15 C hK hA hLr_3 (fun H locs hP hD hS ls hl => ?_) _ _ hP hD hS ls (lv_sub hl [2, 1, 0] rfl)
  refine lv_lload hx hb dX1_commonDivisor_50 (lv_at hl 0 rfl) ?_
  have e9 := Option.some.inj h
  subst e9
  exact dk_lret C hK hP hD hS rfl dX1_commonDivisor_52
/-! ===== SquareTiler$Flow.takeHeights ===== -/
abbrev rX1_takeHeights : Room := { frames := 2, cells := 0, slots := 0, locals := 70 }
def ovX1_takeHeights : List Cond := [Cond.fieldLink RX1 11 "SquareTiler$Flow" "rows" "[J", Cond.fieldLink RX1 15 "SquareTiler$Flow" "heightOf" "[I", Cond.methodLink RX1 90 yX1_commonDivisor, Cond.static yX1_commonDivisor, Cond.initialized RX1]
def vsX1_takeHeights : List Cond := .code yX1_takeHeights cX1_takeHeights 5 none :: (ovX1_takeHeights ++ (wsX10 ++ (vsX1_commonDivisor ++ [])))
theorem qX1_takeHeights_f11 : Cond.fieldLink RX1 11 "SquareTiler$Flow" "rows" "[J" ∈ vsX1_takeHeights := List.mem_cons_of_mem _ (List.mem_append_left _ (List.mem_of_getElem? (i := 0) rfl))
theorem qX1_takeHeights_f15 : Cond.fieldLink RX1 15 "SquareTiler$Flow" "heightOf" "[I" ∈ vsX1_takeHeights := List.mem_cons_of_mem _ (List.mem_append_left _ (List.mem_of_getElem? (i := 1) rfl))
theorem qX1_takeHeights_w2 : Cond.methodLink RX1 90 yX1_commonDivisor ∈ vsX1_takeHeights := List.mem_cons_of_mem _ (List.mem_append_left _ (List.mem_of_getElem? (i := 2) rfl))
theorem qX1_takeHeights_w3 : Cond.static yX1_commonDivisor ∈ vsX1_takeHeights := List.mem_cons_of_mem _ (List.mem_append_left _ (List.mem_of_getElem? (i := 3) rfl))
theorem qX1_takeHeights_w4 : Cond.initialized RX1 ∈ vsX1_takeHeights := List.mem_cons_of_mem _ (List.mem_append_left _ (List.mem_of_getElem? (i := 4) rfl))
theorem qX1_takeHeights_X1 : ∀ w ∈ u_ws RX1 TX1 8, w ∈ vsX1_takeHeights := fun w h => List.mem_cons_of_mem _ (List.mem_append_right _ (List.mem_append_left _ h))
theorem gd_vsX1_takeHeights : ∀ w ∈ vsX1_takeHeights, goodWord w = true := dk_cons rfl (dk_app (dk_all (by decide +kernel)) (dk_app gd_wsX10 (dk_app gd_vsX1_commonDivisor dk_nil)))
theorem gvX1_takeHeights_X1_commonDivisor : GoodIn vsX1_takeHeights (va_wsS RX1 90 yX1_commonDivisor vsX1_commonDivisor) := goodIn_app (dk_g3 qX1_takeHeights_w2 qX1_takeHeights_w3 qX1_takeHeights_w4 rfl) (dk_gIn (fun w h => List.mem_cons_of_mem _ (List.mem_append_right _ (List.mem_append_right _ (List.mem_append_left _ h)))) gd_vsX1_commonDivisor)
def bX1_takeHeights_5 (W_rows : Nat → Int64) (W_heightOf : Nat → Int32) (x1 : Int32) (st : Int64 × Int32) : Option ((Int64) ⊕ (Int64 × Int32)) := if x1 ≤ st.2 then some (.inl st.1) else dk_gd (dk_in ((st.2 * 13) + x1) 156) (dk_bnd (fX1_commonDivisor st.1 (W_rows ((st.2 * 13) + x1).toNatClampNeg)) (fun r_5 => dk_let (st.2 + 1) (fun x4_6 => some (.inr (r_5, x4_6)))))
def jX1_takeHeights_74 (W_rows : Nat → Int64) (W_heightOf : Nat → Int32) (x1 : Int32) (x2 : Int64) (x4 s1 s2 : Int32) : Option (((Nat → Int32)) ⊕ (Int32 × (Nat → Int32))) := dk_gd (dk_in s1 12) (dk_let (upd W_heightOf s1.toNatClampNeg s2) (fun W_heightOf_12 => dk_let (x4 + 1) (fun x4_13 => some (.inr (x4_13, W_heightOf_12)))))
def bX1_takeHeights_37 (W_rows : Nat → Int64) (x1 : Int32) (x2 : Int64) (st : Int32 × (Nat → Int32)) : Option (((Nat → Int32)) ⊕ (Int32 × (Nat → Int32))) := if x1 ≤ st.1 then some (.inl st.2) else if (lg_cmp x2 0) = 0 then jX1_takeHeights_74 W_rows st.2 x1 x2 st.1 st.1 0 else dk_gd (dk_in ((st.1 * 13) + x1) 156) (dk_gd (dk_nz x2) (jX1_takeHeights_74 W_rows st.2 x1 x2 st.1 st.1 (((W_rows ((st.1 * 13) + x1).toNatClampNeg) / x2).toInt32)))
def fX1_takeHeights (W_rows : Nat → Int64) (W_heightOf : Nat → Int32) (x1 : Int32) : Option ((Nat → Int32)) := dk_bnd (dk_loop (bX1_takeHeights_5 W_rows W_heightOf x1) 1000 (0, 0)) (fun r_1 => dk_bnd (dk_loop (bX1_takeHeights_37 W_rows x1 r_1) 1000 (0, W_heightOf)) (fun r_2 => some r_2))
section
variable {p : Program} {l : Launch} {e : Env} {s : State} {m : MethodId} {args : Array Value} {below : List Frame} {meth : Method} {c : Code} {dC : Nat → ClassId} {dI : Nat → Nat → Nat} {cI cJ cZ : ClassId} {A : Nat → Prop} {oW : Nat} {aW : Nat → Nat} {W_rows : Nat → Int64} {W_heightOf W_currentOf W_placeOf W_isPlaced : Nat → Int32} {W_wide W_high : Int32} {W_treeCount : Int64}
set_option maxHeartbeats 4000000 in
set_option maxRecDepth 100000 in
theorem tX1_takeHeights_5 (C : dk_C p s m meth c args cX1_takeHeights none 5 RX1 vsX1_takeHeights) (hK : va_K (dC, dI) vwCl (dk_ty cI cJ cZ) s) (hA : ∀ q : Nat, s.heap.size ≤ q → A q) {out : (Nat → Int32)} {x1 : Int32} {st : Int64 × Int32} {y : (Int64) ⊕ (Int64 × Int32)} (h : bX1_takeHeights_5 W_rows W_heightOf x1 st = some y) (hE : ∀ z : Int64, y = .inl z → ∀ (H : Heap) (locs : List Loc), va_P (dC, dI) vwCl (wX1 oW aW cI cJ cZ W_rows W_heightOf W_currentOf W_placeOf W_isPlaced W_wide W_high W_treeCount) H → va_D A (wX1 oW aW cI cJ cZ W_rows W_heightOf W_currentOf W_placeOf W_isPlaced W_wide W_high W_treeCount) → va_S A s.heap H locs → ∀ ls : Array Slot, lv_has ls 5 [(0, .ref oW), (1, .int x1), (2, .long z)] → W p l e rX1_takeHeights s m args below meth c H locs 0 0 (MQ below (dk_Qv (dC, dI) (dk_ty cI cJ cZ) (wX1 oW aW cI cJ cZ W_rows out W_currentOf W_placeOf W_isPlaced W_wide W_high W_treeCount) A) args s 0 0 A) (F0 m 34 ls [])) (hC : ∀ z : Int64 × Int32, y = .inr z → ∀ (H : Heap) (locs : List Loc), va_P (dC, dI) vwCl (wX1 oW aW cI cJ cZ W_rows W_heightOf W_currentOf W_placeOf W_isPlaced W_wide W_high W_treeCount) H → va_D A (wX1 oW aW cI cJ cZ W_rows W_heightOf W_currentOf W_placeOf W_isPlaced W_wide W_high W_treeCount) → va_S A s.heap H locs → ∀ ls : Array Slot, lv_has ls 5 [(0, .ref oW), (1, .int x1), (2, .long z.1), (4, .int z.2)] → W p l e rX1_takeHeights s m args below meth c H locs 0 0 (MQ below (dk_Qv (dC, dI) (dk_ty cI cJ cZ) (wX1 oW aW cI cJ cZ W_rows out W_currentOf W_placeOf W_isPlaced W_wide W_high W_treeCount) A) args s 0 0 A) (F0 m 5 ls [])) : ∀ (H : Heap) (locs : List Loc), va_P (dC, dI) vwCl (wX1 oW aW cI cJ cZ W_rows W_heightOf W_currentOf W_placeOf W_isPlaced W_wide W_high W_treeCount) H → va_D A (wX1 oW aW cI cJ cZ W_rows W_heightOf W_currentOf W_placeOf W_isPlaced W_wide W_high W_treeCount) → va_S A s.heap H locs → ∀ ls : Array Slot, lv_has ls 5 [(0, .ref oW), (1, .int x1), (2, .long st.1), (4, .int st.2)] → W p l e rX1_takeHeights s m args below meth c H locs 0 0 (MQ below (dk_Qv (dC, dI) (dk_ty cI cJ cZ) (wX1 oW aW cI cJ cZ W_rows out W_currentOf W_placeOf W_isPlaced W_wide W_high W_treeCount) A) args s 0 0 A) (F0 m 5 ls []) := by
  obtain ⟨hx, hb, hr, hml, hown, hts, hlocks⟩ := id C
  intro H locs hP hD hS ls hl
  unfold bX1_takeHeights_5 at h
  refine lv_iload hx hb dX1_takeHeights_5 (lv_at hl 3 rfl) ?_
  refine lv_iload_n hx hb dX1_takeHeights_7 rfl (lv_at hl 1 rfl) ?_
  refine lv_icmp_ge (tgt := 34) hx hb dX1_takeHeights_8 (by decide) (fun c_3 => ?_) (fun c_3 => ?_)
  · replace h := dk_it c_3 h
    exact hE _ (Option.some.inj h).symm _ _ hP hD hS ls (lv_sub hl [0, 1, 2] rfl)
  · replace h := dk_ie c_3 h
    refine lv_lload_n hx hb dX1_takeHeights_11 rfl (lv_at hl 2 rfl) ?_
    refine lv_aload_n hx hb dX1_takeHeights_12 rfl (lv_at hl 0 rfl) ?_
    refine va_get (D := (dC, dI)) (ci := 1) (v := .ref (aW 0)) (C := RX1) (T := TX1) (N := 8) hx hb hts qX1_takeHeights_X1 hown hK hP 0 rfl rfl 0 (by decide) (hts _ qX1_takeHeights_f11) (fun _ h9 => h9) rfl dX1_takeHeights_13 ?_
    refine lv_iload hx hb dX1_takeHeights_16 (lv_at hl 3 rfl) ?_
    refine lv_bipush (v := 13) hx hb dX1_takeHeights_18 (by decide) ?_
    refine lv_imul hx hb dX1_takeHeights_20 ?_
    refine lv_iload_n hx hb dX1_takeHeights_21 rfl (lv_at hl 1 rfl) ?_
    refine lv_iadd hx hb dX1_takeHeights_22 ?_
    obtain ⟨g_4, h⟩ := dk_gd_to h
    have g_4 := dk_in_to g_4
    refine va_lald hx hb hK hP 1 1 rfl rfl g_4 dX1_takeHeights_23 ?_
    obtain ⟨r_5, hcr_5, h⟩ := dk_bnd_to h
    refine dk_rSl (As := [.long st.1, .long (W_rows ((st.2 * 13) + x1).toNatClampNeg)]) (rest := []) (wc := []) C hK hP hD hS hA (mX1_commonDivisor l dC dI cI cJ cZ hcr_5 _) (va_cwS 2 hts gvX1_takeHeights_X1_commonDivisor rfl rfl rfl (by decide +kernel) ⟨Nat.le_of_ble_eq_true rfl, Nat.le_of_ble_eq_true rfl⟩) [] rfl (by decide) rfl hl.1 rfl (Nat.le_of_ble_eq_true rfl) ⟨Nat.le_of_ble_eq_true rfl, Nat.le_of_ble_eq_true rfl⟩ dX1_takeHeights_24 (fun H locs hP hD hS => ?_)
    refine lv_lstore_n (lv' := [(2, .long r_5), (0, .ref oW), (1, .int x1), (4, .int st.2)]) hx hb dX1_takeHeights_27 rfl hl (by decide) rfl (fun ls hl => ?_)
    obtain ⟨x4_6, ex4_6⟩ : ∃ z : Int32, z = st.2 + 1 := ⟨_, rfl⟩
    replace h := dk_let_to ex4_6 h
    refine lv_iinc (v := x4_6) (lv' := [(4, .int x4_6), (2, .long r_5), (0, .ref oW), (1, .int x1)]) hx hb dX1_takeHeights_28 hl (k := 3) rfl (by rw [ex4_6]; rfl) (by decide) rfl (fun ls hl => ?_)
    refine lv_goto (tgt := 5) hx hb dX1_takeHeights_31 (by decide) ?_
    exact hC _ (Option.some.inj h).symm _ _ hP hD hS ls (lv_sub hl [2, 3, 1, 0] rfl)
set_option maxHeartbeats 4000000 in
set_option maxRecDepth 100000 in
theorem lX1_takeHeights_5 (C : dk_C p s m meth c args cX1_takeHeights none 5 RX1 vsX1_takeHeights) (hK : va_K (dC, dI) vwCl (dk_ty cI cJ cZ) s) (hA : ∀ q : Nat, s.heap.size ≤ q → A q) {out : (Nat → Int32)} {x1 : Int32} {n : Nat} {st : Int64 × Int32} {r : Int64} (h : dk_loop (bX1_takeHeights_5 W_rows W_heightOf x1) n st = some r) (hE : ∀ (H : Heap) (locs : List Loc), va_P (dC, dI) vwCl (wX1 oW aW cI cJ cZ W_rows W_heightOf W_currentOf W_placeOf W_isPlaced W_wide W_high W_treeCount) H → va_D A (wX1 oW aW cI cJ cZ W_rows W_heightOf W_currentOf W_placeOf W_isPlaced W_wide W_high W_treeCount) → va_S A s.heap H locs → ∀ ls : Array Slot, lv_has ls 5 [(0, .ref oW), (1, .int x1), (2, .long r)] → W p l e rX1_takeHeights s m args below meth c H locs 0 0 (MQ below (dk_Qv (dC, dI) (dk_ty cI cJ cZ) (wX1 oW aW cI cJ cZ W_rows out W_currentOf W_placeOf W_isPlaced W_wide W_high W_treeCount) A) args s 0 0 A) (F0 m 34 ls [])) : ∀ (H : Heap) (locs : List Loc), va_P (dC, dI) vwCl (wX1 oW aW cI cJ cZ W_rows W_heightOf W_currentOf W_placeOf W_isPlaced W_wide W_high W_treeCount) H → va_D A (wX1 oW aW cI cJ cZ W_rows W_heightOf W_currentOf W_placeOf W_isPlaced W_wide W_high W_treeCount) → va_S A s.heap H locs → ∀ ls : Array Slot, lv_has ls 5 [(0, .ref oW), (1, .int x1), (2, .long st.1), (4, .int st.2)] → W p l e rX1_takeHeights s m args below meth c H locs 0 0 (MQ below (dk_Qv (dC, dI) (dk_ty cI cJ cZ) (wX1 oW aW cI cJ cZ W_rows out W_currentOf W_placeOf W_isPlaced W_wide W_high W_treeCount) A) args s 0 0 A) (F0 m 5 ls []) :=
  dk_loopW (P := fun st => ∀ (H : Heap) (locs : List Loc), va_P (dC, dI) vwCl (wX1 oW aW cI cJ cZ W_rows W_heightOf W_currentOf W_placeOf W_isPlaced W_wide W_high W_treeCount) H → va_D A (wX1 oW aW cI cJ cZ W_rows W_heightOf W_currentOf W_placeOf W_isPlaced W_wide W_high W_treeCount) → va_S A s.heap H locs → ∀ ls : Array Slot, lv_has ls 5 [(0, .ref oW), (1, .int x1), (2, .long st.1), (4, .int st.2)] → W p l e rX1_takeHeights s m args below meth c H locs 0 0 (MQ below (dk_Qv (dC, dI) (dk_ty cI cJ cZ) (wX1 oW aW cI cJ cZ W_rows out W_currentOf W_placeOf W_isPlaced W_wide W_high W_treeCount) A) args s 0 0 A) (F0 m 5 ls [])) (K := fun r => ∀ (H : Heap) (locs : List Loc), va_P (dC, dI) vwCl (wX1 oW aW cI cJ cZ W_rows W_heightOf W_currentOf W_placeOf W_isPlaced W_wide W_high W_treeCount) H → va_D A (wX1 oW aW cI cJ cZ W_rows W_heightOf W_currentOf W_placeOf W_isPlaced W_wide W_high W_treeCount) → va_S A s.heap H locs → ∀ ls : Array Slot, lv_has ls 5 [(0, .ref oW), (1, .int x1), (2, .long r)] → W p l e rX1_takeHeights s m args below meth c H locs 0 0 (MQ below (dk_Qv (dC, dI) (dk_ty cI cJ cZ) (wX1 oW aW cI cJ cZ W_rows out W_currentOf W_placeOf W_isPlaced W_wide W_high W_treeCount) A) args s 0 0 A) (F0 m 34 ls [])) (fun st y hy k1 k2 => tX1_takeHeights_5 C hK hA hy k1 k2) n st r h hE
set_option maxHeartbeats 4000000 in
set_option maxRecDepth 100000 in
theorem kX1_takeHeights_74 (C : dk_C p s m meth c args cX1_takeHeights none 5 RX1 vsX1_takeHeights) (hK : va_K (dC, dI) vwCl (dk_ty cI cJ cZ) s) (hA : ∀ q : Nat, s.heap.size ≤ q → A q) {out : (Nat → Int32)} {x1 : Int32} {x2 : Int64} {x4 s1 s2 : Int32} {y : ((Nat → Int32)) ⊕ (Int32 × (Nat → Int32))} (h : jX1_takeHeights_74 W_rows W_heightOf x1 x2 x4 s1 s2 = some y) (hE : ∀ z : (Nat → Int32), y = .inl z → ∀ (H : Heap) (locs : List Loc), va_P (dC, dI) vwCl (wX1 oW aW cI cJ cZ W_rows z W_currentOf W_placeOf W_isPlaced W_wide W_high W_treeCount) H → va_D A (wX1 oW aW cI cJ cZ W_rows z W_currentOf W_placeOf W_isPlaced W_wide W_high W_treeCount) → va_S A s.heap H locs → ∀ ls : Array Slot, lv_has ls 5 [(0, .ref oW)] → W p l e rX1_takeHeights s m args below meth c H locs 0 0 (MQ below (dk_Qv (dC, dI) (dk_ty cI cJ cZ) (wX1 oW aW cI cJ cZ W_rows out W_currentOf W_placeOf W_isPlaced W_wide W_high W_treeCount) A) args s 0 0 A) (F0 m 81 ls [])) (hC : ∀ z : Int32 × (Nat → Int32), y = .inr z → ∀ (H : Heap) (locs : List Loc), va_P (dC, dI) vwCl (wX1 oW aW cI cJ cZ W_rows z.2 W_currentOf W_placeOf W_isPlaced W_wide W_high W_treeCount) H → va_D A (wX1 oW aW cI cJ cZ W_rows z.2 W_currentOf W_placeOf W_isPlaced W_wide W_high W_treeCount) → va_S A s.heap H locs → ∀ ls : Array Slot, lv_has ls 5 [(0, .ref oW), (1, .int x1), (2, .long x2), (4, .int z.1)] → W p l e rX1_takeHeights s m args below meth c H locs 0 0 (MQ below (dk_Qv (dC, dI) (dk_ty cI cJ cZ) (wX1 oW aW cI cJ cZ W_rows out W_currentOf W_placeOf W_isPlaced W_wide W_high W_treeCount) A) args s 0 0 A) (F0 m 37 ls [])) : ∀ (H : Heap) (locs : List Loc), va_P (dC, dI) vwCl (wX1 oW aW cI cJ cZ W_rows W_heightOf W_currentOf W_placeOf W_isPlaced W_wide W_high W_treeCount) H → va_D A (wX1 oW aW cI cJ cZ W_rows W_heightOf W_currentOf W_placeOf W_isPlaced W_wide W_high W_treeCount) → va_S A s.heap H locs → ∀ ls : Array Slot, lv_has ls 5 [(0, .ref oW), (1, .int x1), (2, .long x2), (4, .int x4)] → W p l e rX1_takeHeights s m args below meth c H locs 0 0 (MQ below (dk_Qv (dC, dI) (dk_ty cI cJ cZ) (wX1 oW aW cI cJ cZ W_rows out W_currentOf W_placeOf W_isPlaced W_wide W_high W_treeCount) A) args s 0 0 A) (F0 m 74 ls [.int s2, .int s1, .ref (aW 1)]) := by
  obtain ⟨hx, hb, hr, hml, hown, hts, hlocks⟩ := id C
  intro H locs hP hD hS ls hl
  unfold jX1_takeHeights_74 at h
  obtain ⟨g_11, h⟩ := dk_gd_to h
  have g_11 := dk_in_to g_11
  refine va_iast hx hb hK hP hD hS 2 0 rfl rfl g_11 dX1_takeHeights_74 (fun H locs hP hD hS => ?_)
  obtain ⟨W_heightOf_12, eW_heightOf_12⟩ : ∃ z : Nat → Int32, z = upd W_heightOf s1.toNatClampNeg s2 := ⟨_, rfl⟩
  replace h := dk_let_to eW_heightOf_12 h
  have hP : va_P (dC, dI) vwCl (wX1 oW aW cI cJ cZ W_rows W_heightOf_12 W_currentOf W_placeOf W_isPlaced W_wide W_high W_treeCount) H := by rw [eW_heightOf_12]; exact hP
  have hD : va_D A (wX1 oW aW cI cJ cZ W_rows W_heightOf_12 W_currentOf W_placeOf W_isPlaced W_wide W_high W_treeCount) := by rw [eW_heightOf_12]; exact hD
  obtain ⟨x4_13, ex4_13⟩ : ∃ z : Int32, z = x4 + 1 := ⟨_, rfl⟩
  replace h := dk_let_to ex4_13 h
  refine lv_iinc (v := x4_13) (lv' := [(4, .int x4_13), (0, .ref oW), (1, .int x1), (2, .long x2)]) hx hb dX1_takeHeights_75 hl (k := 3) rfl (by rw [ex4_13]; rfl) (by decide) rfl (fun ls hl => ?_)
  refine lv_goto (tgt := 37) hx hb dX1_takeHeights_78 (by decide) ?_
  exact hC _ (Option.some.inj h).symm _ _ hP hD hS ls (lv_sub hl [1, 2, 3, 0] rfl)
set_option maxHeartbeats 4000000 in
set_option maxRecDepth 100000 in
theorem tX1_takeHeights_37 (C : dk_C p s m meth c args cX1_takeHeights none 5 RX1 vsX1_takeHeights) (hK : va_K (dC, dI) vwCl (dk_ty cI cJ cZ) s) (hA : ∀ q : Nat, s.heap.size ≤ q → A q) {out : (Nat → Int32)} {x1 : Int32} {x2 : Int64} {st : Int32 × (Nat → Int32)} {y : ((Nat → Int32)) ⊕ (Int32 × (Nat → Int32))} (h : bX1_takeHeights_37 W_rows x1 x2 st = some y) (hE : ∀ z : (Nat → Int32), y = .inl z → ∀ (H : Heap) (locs : List Loc), va_P (dC, dI) vwCl (wX1 oW aW cI cJ cZ W_rows z W_currentOf W_placeOf W_isPlaced W_wide W_high W_treeCount) H → va_D A (wX1 oW aW cI cJ cZ W_rows z W_currentOf W_placeOf W_isPlaced W_wide W_high W_treeCount) → va_S A s.heap H locs → ∀ ls : Array Slot, lv_has ls 5 [(0, .ref oW)] → W p l e rX1_takeHeights s m args below meth c H locs 0 0 (MQ below (dk_Qv (dC, dI) (dk_ty cI cJ cZ) (wX1 oW aW cI cJ cZ W_rows out W_currentOf W_placeOf W_isPlaced W_wide W_high W_treeCount) A) args s 0 0 A) (F0 m 81 ls [])) (hC : ∀ z : Int32 × (Nat → Int32), y = .inr z → ∀ (H : Heap) (locs : List Loc), va_P (dC, dI) vwCl (wX1 oW aW cI cJ cZ W_rows z.2 W_currentOf W_placeOf W_isPlaced W_wide W_high W_treeCount) H → va_D A (wX1 oW aW cI cJ cZ W_rows z.2 W_currentOf W_placeOf W_isPlaced W_wide W_high W_treeCount) → va_S A s.heap H locs → ∀ ls : Array Slot, lv_has ls 5 [(0, .ref oW), (1, .int x1), (2, .long x2), (4, .int z.1)] → W p l e rX1_takeHeights s m args below meth c H locs 0 0 (MQ below (dk_Qv (dC, dI) (dk_ty cI cJ cZ) (wX1 oW aW cI cJ cZ W_rows out W_currentOf W_placeOf W_isPlaced W_wide W_high W_treeCount) A) args s 0 0 A) (F0 m 37 ls [])) : ∀ (H : Heap) (locs : List Loc), va_P (dC, dI) vwCl (wX1 oW aW cI cJ cZ W_rows st.2 W_currentOf W_placeOf W_isPlaced W_wide W_high W_treeCount) H → va_D A (wX1 oW aW cI cJ cZ W_rows st.2 W_currentOf W_placeOf W_isPlaced W_wide W_high W_treeCount) → va_S A s.heap H locs → ∀ ls : Array Slot, lv_has ls 5 [(0, .ref oW), (1, .int x1), (2, .long x2), (4, .int st.1)] → W p l e rX1_takeHeights s m args below meth c H locs 0 0 (MQ below (dk_Qv (dC, dI) (dk_ty cI cJ cZ) (wX1 oW aW cI cJ cZ W_rows out W_currentOf W_placeOf W_isPlaced W_wide W_high W_treeCount) A) args s 0 0 A) (F0 m 37 ls []) := by
  obtain ⟨hx, hb, hr, hml, hown, hts, hlocks⟩ := id C
  intro H locs hP hD hS ls hl
  unfold bX1_takeHeights_37 at h
  refine lv_iload hx hb dX1_takeHeights_37 (lv_at hl 3 rfl) ?_
  refine lv_iload_n hx hb dX1_takeHeights_39 rfl (lv_at hl 1 rfl) ?_
  refine lv_icmp_ge (tgt := 81) hx hb dX1_takeHeights_40 (by decide) (fun c_7 => ?_) (fun c_7 => ?_)
  · replace h := dk_it c_7 h
    exact hE _ (Option.some.inj h).symm _ _ hP hD hS ls (lv_sub hl [0] rfl)
  · replace h := dk_ie c_7 h
    refine lv_aload_n hx hb dX1_takeHeights_43 rfl (lv_at hl 0 rfl) ?_
    refine va_get (D := (dC, dI)) (ci := 1) (v := .ref (aW 1)) (C := RX1) (T := TX1) (N := 8) hx hb hts qX1_takeHeights_X1 hown hK hP 0 rfl rfl 1 (by decide) (hts _ qX1_takeHeights_f15) (fun _ h9 => h9) rfl dX1_takeHeights_44 ?_
    refine lv_iload hx hb dX1_takeHeights_47 (lv_at hl 3 rfl) ?_
    refine lv_lload_n hx hb dX1_takeHeights_49 rfl (lv_at hl 2 rfl) ?_
    refine lv_lconst (v := 0) hx hb dX1_takeHeights_50 (by decide) ?_
    refine W.lcmp hx hb dX1_takeHeights_51 ?_
    refine lv_if_ne (tgt := 59) hx hb dX1_takeHeights_52 (by decide) (fun c_8 => ?_) (fun c_8 => ?_)
    · replace h := dk_ie c_8 h
      refine lv_aload_n hx hb dX1_takeHeights_59 rfl (lv_at hl 0 rfl) ?_
      refine va_get (D := (dC, dI)) (ci := 1) (v := .ref (aW 0)) (C := RX1) (T := TX1) (N := 8) hx hb hts qX1_takeHeights_X1 hown hK hP 0 rfl rfl 0 (by decide) (hts _ qX1_takeHeights_f11) (fun _ h9 => h9) rfl dX1_takeHeights_60 ?_
      refine lv_iload hx hb dX1_takeHeights_63 (lv_at hl 3 rfl) ?_
      refine lv_bipush (v := 13) hx hb dX1_takeHeights_65 (by decide) ?_
      refine lv_imul hx hb dX1_takeHeights_67 ?_
      refine lv_iload_n hx hb dX1_takeHeights_68 rfl (lv_at hl 1 rfl) ?_
      refine lv_iadd hx hb dX1_takeHeights_69 ?_
      obtain ⟨g_9, h⟩ := dk_gd_to h
      have g_9 := dk_in_to g_9
      refine va_lald hx hb hK hP 1 1 rfl rfl g_9 dX1_takeHeights_70 ?_
      refine lv_lload_n hx hb dX1_takeHeights_71 rfl (lv_at hl 2 rfl) ?_
      obtain ⟨g_10, h⟩ := dk_gd_to h
      have g_10 := dk_nz_to g_10
      refine lv_ldiv hx hb dX1_takeHeights_72 g_10 ?_
      refine lv_l2i hx hb dX1_takeHeights_73 rfl ?_
      exact kX1_takeHeights_74 C hK hA h hE hC _ _ hP hD hS ls (lv_sub hl [0, 1, 2, 3] rfl)
    · replace h := dk_it c_8 h
      refine lv_iconst (v := 0) hx hb dX1_takeHeights_55 (by decide) ?_
      refine lv_goto (tgt := 74) hx hb dX1_takeHeights_56 (by decide) ?_
      exact kX1_takeHeights_74 C hK hA h hE hC _ _ hP hD hS ls (lv_sub hl [0, 1, 2, 3] rfl)
set_option maxHeartbeats 4000000 in
set_option maxRecDepth 100000 in
theorem lX1_takeHeights_37 (C : dk_C p s m meth c args cX1_takeHeights none 5 RX1 vsX1_takeHeights) (hK : va_K (dC, dI) vwCl (dk_ty cI cJ cZ) s) (hA : ∀ q : Nat, s.heap.size ≤ q → A q) {out : (Nat → Int32)} {x1 : Int32} {x2 : Int64} {n : Nat} {st : Int32 × (Nat → Int32)} {r : (Nat → Int32)} (h : dk_loop (bX1_takeHeights_37 W_rows x1 x2) n st = some r) (hE : ∀ (H : Heap) (locs : List Loc), va_P (dC, dI) vwCl (wX1 oW aW cI cJ cZ W_rows r W_currentOf W_placeOf W_isPlaced W_wide W_high W_treeCount) H → va_D A (wX1 oW aW cI cJ cZ W_rows r W_currentOf W_placeOf W_isPlaced W_wide W_high W_treeCount) → va_S A s.heap H locs → ∀ ls : Array Slot, lv_has ls 5 [(0, .ref oW)] → W p l e rX1_takeHeights s m args below meth c H locs 0 0 (MQ below (dk_Qv (dC, dI) (dk_ty cI cJ cZ) (wX1 oW aW cI cJ cZ W_rows out W_currentOf W_placeOf W_isPlaced W_wide W_high W_treeCount) A) args s 0 0 A) (F0 m 81 ls [])) : ∀ (H : Heap) (locs : List Loc), va_P (dC, dI) vwCl (wX1 oW aW cI cJ cZ W_rows st.2 W_currentOf W_placeOf W_isPlaced W_wide W_high W_treeCount) H → va_D A (wX1 oW aW cI cJ cZ W_rows st.2 W_currentOf W_placeOf W_isPlaced W_wide W_high W_treeCount) → va_S A s.heap H locs → ∀ ls : Array Slot, lv_has ls 5 [(0, .ref oW), (1, .int x1), (2, .long x2), (4, .int st.1)] → W p l e rX1_takeHeights s m args below meth c H locs 0 0 (MQ below (dk_Qv (dC, dI) (dk_ty cI cJ cZ) (wX1 oW aW cI cJ cZ W_rows out W_currentOf W_placeOf W_isPlaced W_wide W_high W_treeCount) A) args s 0 0 A) (F0 m 37 ls []) :=
  dk_loopW (P := fun st => ∀ (H : Heap) (locs : List Loc), va_P (dC, dI) vwCl (wX1 oW aW cI cJ cZ W_rows st.2 W_currentOf W_placeOf W_isPlaced W_wide W_high W_treeCount) H → va_D A (wX1 oW aW cI cJ cZ W_rows st.2 W_currentOf W_placeOf W_isPlaced W_wide W_high W_treeCount) → va_S A s.heap H locs → ∀ ls : Array Slot, lv_has ls 5 [(0, .ref oW), (1, .int x1), (2, .long x2), (4, .int st.1)] → W p l e rX1_takeHeights s m args below meth c H locs 0 0 (MQ below (dk_Qv (dC, dI) (dk_ty cI cJ cZ) (wX1 oW aW cI cJ cZ W_rows out W_currentOf W_placeOf W_isPlaced W_wide W_high W_treeCount) A) args s 0 0 A) (F0 m 37 ls [])) (K := fun r => ∀ (H : Heap) (locs : List Loc), va_P (dC, dI) vwCl (wX1 oW aW cI cJ cZ W_rows r W_currentOf W_placeOf W_isPlaced W_wide W_high W_treeCount) H → va_D A (wX1 oW aW cI cJ cZ W_rows r W_currentOf W_placeOf W_isPlaced W_wide W_high W_treeCount) → va_S A s.heap H locs → ∀ ls : Array Slot, lv_has ls 5 [(0, .ref oW)] → W p l e rX1_takeHeights s m args below meth c H locs 0 0 (MQ below (dk_Qv (dC, dI) (dk_ty cI cJ cZ) (wX1 oW aW cI cJ cZ W_rows out W_currentOf W_placeOf W_isPlaced W_wide W_high W_treeCount) A) args s 0 0 A) (F0 m 81 ls [])) (fun st y hy k1 k2 => tX1_takeHeights_37 C hK hA hy k1 k2) n st r h hE
end
set_option maxHeartbeats 4000000 in
set_option maxRecDepth 100000 in
theorem mX1_takeHeights (l : Launch) (dC : Nat → ClassId) (dI : Nat → Nat → Nat) (cI cJ cZ : ClassId) {oW : Nat} {aW : Nat → Nat} {W_rows : Nat → Int64} {W_heightOf W_currentOf W_placeOf W_isPlaced : Nat → Int32} {W_wide W_high : Int32} {W_treeCount : Int64} {x1 : Int32} {out : (Nat → Int32)} (h : fX1_takeHeights W_rows W_heightOf x1 = some out) (sz : Nat) : Met l yX1_takeHeights vsX1_takeHeights rX1_takeHeights (va_Pc [.ref oW, .int x1] (dk_Pre (dC, dI) (dk_ty cI cJ cZ) (wX1 oW aW cI cJ cZ W_rows W_heightOf W_currentOf W_placeOf W_isPlaced W_wide W_high W_treeCount) sz)) (dk_Qv (dC, dI) (dk_ty cI cJ cZ) (wX1 oW aW cI cJ cZ W_rows out W_currentOf W_placeOf W_isPlaced W_wide W_high W_treeCount) (va_A (wX1 oW aW cI cJ cZ W_rows W_heightOf W_currentOf W_placeOf W_isPlaced W_wide W_high W_treeCount) sz)) 0 0 (va_A (wX1 oW aW cI cJ cZ W_rows W_heightOf W_currentOf W_placeOf W_isPlaced W_wide W_high W_treeCount) sz) := by
  refine dk_met (cc := cX1_takeHeights) (maxL := 5) (ret := none) (Qc := fun A => dk_Qv (dC, dI) (dk_ty cI cJ cZ) (wX1 oW aW cI cJ cZ W_rows out W_currentOf W_placeOf W_isPlaced W_wide W_high W_treeCount) A) (by decide) rfl (Nat.le_of_ble_eq_true rfl) ?_
  intro p e s m below meth c A C hnm hA hK hP hD hS ls hl
  have C : dk_C p s m meth c _ cX1_takeHeights none 5 RX1 vsX1_takeHeights := C
  obtain ⟨hx, hb, hr, hml, hown, hts, hlocks⟩ := id C
  have hl : lv_has ls 5 [(0, .ref oW), (1, .int x1)] := hl
  unfold fX1_takeHeights at h
  refine lv_lconst (v := 0) hx hb dX1_takeHeights_0 (by decide) ?_
  refine lv_lstore_n (lv' := [(2, .long 0), (0, .ref oW), (1, .int x1)]) hx hb dX1_takeHeights_1 rfl hl (by decide) rfl (fun ls hl => ?_)
  refine lv_iconst (v := 0) hx hb dX1_takeHeights_2 (by decide) ?_
  refine lv_istore (lv' := [(4, .int 0), (2, .long 0), (0, .ref oW), (1, .int x1)]) hx hb dX1_takeHeights_3 hl (by decide) rfl (fun ls hl => ?_)
  obtain ⟨r_1, hLr_1, h⟩ := dk_bnd_to h
  refine lX1_takeHeights_5 C hK hA hLr_1 (fun H locs hP hD hS ls hl => ?_) _ _ hP hD hS ls (lv_sub hl [2, 3, 1, 0] rfl)
  refine lv_iconst (v := 0) hx hb dX1_takeHeights_34 (by decide) ?_
  refine lv_istore (lv' := [(4, .int 0), (0, .ref oW), (1, .int x1), (2, .long r_1)]) hx hb dX1_takeHeights_35 hl (by decide) rfl (fun ls hl => ?_)
  obtain ⟨r_2, hLr_2, h⟩ := dk_bnd_to h
  refine lX1_takeHeights_37 C hK hA hLr_2 (fun H locs hP hD hS ls hl => ?_) _ _ hP hD hS ls (lv_sub hl [1, 2, 3, 0] rfl)
  have e9 := Option.some.inj h
  subst e9
  exact dk_vret C hK hP hD hS dX1_takeHeights_81
/-! ===== SquareTiler$Flow.writeWire ===== -/
abbrev rX1_writeWire : Room := { frames := 0, cells := 0, slots := 0, locals := 0 }
def ovX1_writeWire : List Cond := [Cond.fieldLink RX1 11 "SquareTiler$Flow" "rows" "[J"]
def vsX1_writeWire : List Cond := .code yX1_writeWire cX1_writeWire 3 none :: (ovX1_writeWire ++ (wsX10 ++ []))
theorem qX1_writeWire_f11 : Cond.fieldLink RX1 11 "SquareTiler$Flow" "rows" "[J" ∈ vsX1_writeWire := List.mem_cons_of_mem _ (List.mem_append_left _ (List.mem_of_getElem? (i := 0) rfl))
theorem qX1_writeWire_X1 : ∀ w ∈ u_ws RX1 TX1 8, w ∈ vsX1_writeWire := fun w h => List.mem_cons_of_mem _ (List.mem_append_right _ (List.mem_append_left _ h))
theorem gd_vsX1_writeWire : ∀ w ∈ vsX1_writeWire, goodWord w = true := dk_cons rfl (dk_app (dk_all (by decide +kernel)) (dk_app gd_wsX10 dk_nil))
def fX1_writeWire (W_rows : Nat → Int64) (x1 x2 : Int32) : Option ((Nat → Int64)) := dk_gd (dk_in ((x1 * 13) + x1) 156) (dk_let (vp_updL W_rows ((x1 * 13) + x1).toNatClampNeg ((W_rows ((x1 * 13) + x1).toNatClampNeg) + 1)) (fun W_rows_2 => dk_gd (dk_in ((x2 * 13) + x2) 156) (dk_let (vp_updL W_rows_2 ((x2 * 13) + x2).toNatClampNeg ((W_rows_2 ((x2 * 13) + x2).toNatClampNeg) + 1)) (fun W_rows_4 => dk_gd (dk_in ((x1 * 13) + x2) 156) (dk_let (vp_updL W_rows_4 ((x1 * 13) + x2).toNatClampNeg ((W_rows_4 ((x1 * 13) + x2).toNatClampNeg) - 1)) (fun W_rows_6 => dk_gd (dk_in ((x2 * 13) + x1) 156) (dk_let (vp_updL W_rows_6 ((x2 * 13) + x1).toNatClampNeg ((W_rows_6 ((x2 * 13) + x1).toNatClampNeg) - 1)) (fun W_rows_8 => some W_rows_8))))))))
section
variable {p : Program} {l : Launch} {e : Env} {s : State} {m : MethodId} {args : Array Value} {below : List Frame} {meth : Method} {c : Code} {dC : Nat → ClassId} {dI : Nat → Nat → Nat} {cI cJ cZ : ClassId} {A : Nat → Prop} {oW : Nat} {aW : Nat → Nat} {W_rows : Nat → Int64} {W_heightOf W_currentOf W_placeOf W_isPlaced : Nat → Int32} {W_wide W_high : Int32} {W_treeCount : Int64}
end
set_option maxHeartbeats 4000000 in
set_option maxRecDepth 100000 in
theorem mX1_writeWire (l : Launch) (dC : Nat → ClassId) (dI : Nat → Nat → Nat) (cI cJ cZ : ClassId) {oW : Nat} {aW : Nat → Nat} {W_rows : Nat → Int64} {W_heightOf W_currentOf W_placeOf W_isPlaced : Nat → Int32} {W_wide W_high : Int32} {W_treeCount : Int64} {x1 x2 : Int32} {out : (Nat → Int64)} (h : fX1_writeWire W_rows x1 x2 = some out) (sz : Nat) : Met l yX1_writeWire vsX1_writeWire rX1_writeWire (va_Pc [.ref oW, .int x1, .int x2] (dk_Pre (dC, dI) (dk_ty cI cJ cZ) (wX1 oW aW cI cJ cZ W_rows W_heightOf W_currentOf W_placeOf W_isPlaced W_wide W_high W_treeCount) sz)) (dk_Qv (dC, dI) (dk_ty cI cJ cZ) (wX1 oW aW cI cJ cZ out W_heightOf W_currentOf W_placeOf W_isPlaced W_wide W_high W_treeCount) (va_A (wX1 oW aW cI cJ cZ W_rows W_heightOf W_currentOf W_placeOf W_isPlaced W_wide W_high W_treeCount) sz)) 0 0 (va_A (wX1 oW aW cI cJ cZ W_rows W_heightOf W_currentOf W_placeOf W_isPlaced W_wide W_high W_treeCount) sz) := by
  refine dk_met (cc := cX1_writeWire) (maxL := 3) (ret := none) (Qc := fun A => dk_Qv (dC, dI) (dk_ty cI cJ cZ) (wX1 oW aW cI cJ cZ out W_heightOf W_currentOf W_placeOf W_isPlaced W_wide W_high W_treeCount) A) (by decide) rfl (Nat.le_of_ble_eq_true rfl) ?_
  intro p e s m below meth c A C hnm hA hK hP hD hS ls hl
  have C : dk_C p s m meth c _ cX1_writeWire none 3 RX1 vsX1_writeWire := C
  obtain ⟨hx, hb, hr, hml, hown, hts, hlocks⟩ := id C
  have hl : lv_has ls 3 [(0, .ref oW), (1, .int x1), (2, .int x2)] := hl
  unfold fX1_writeWire at h
  refine lv_aload_n hx hb dX1_writeWire_0 rfl (lv_at hl 0 rfl) ?_
  refine va_get (D := (dC, dI)) (ci := 1) (v := .ref (aW 0)) (C := RX1) (T := TX1) (N := 8) hx hb hts qX1_writeWire_X1 hown hK hP 0 rfl rfl 0 (by decide) (hts _ qX1_writeWire_f11) (fun _ h9 => h9) rfl dX1_writeWire_1 ?_
  refine lv_iload_n hx hb dX1_writeWire_4 rfl (lv_at hl 1 rfl) ?_
  refine lv_bipush (v := 13) hx hb dX1_writeWire_5 (by decide) ?_
  refine lv_imul hx hb dX1_writeWire_7 ?_
  refine lv_iload_n hx hb dX1_writeWire_8 rfl (lv_at hl 1 rfl) ?_
  refine lv_iadd hx hb dX1_writeWire_9 ?_
  refine lv_dup2_11 hx hb dX1_writeWire_10 rfl rfl ?_
  obtain ⟨g_1, h⟩ := dk_gd_to h
  have g_1 := dk_in_to g_1
  refine va_lald hx hb hK hP 1 1 rfl rfl g_1 dX1_writeWire_11 ?_
  refine lv_lconst (v := 1) hx hb dX1_writeWire_12 (by decide) ?_
  refine lv_ladd hx hb dX1_writeWire_13 ?_
  refine va_last hx hb hK hP hD hS 1 1 rfl rfl g_1 dX1_writeWire_14 (fun H locs hP hD hS => ?_)
  obtain ⟨W_rows_2, eW_rows_2⟩ : ∃ z : Nat → Int64, z = vp_updL W_rows ((x1 * 13) + x1).toNatClampNeg ((W_rows ((x1 * 13) + x1).toNatClampNeg) + 1) := ⟨_, rfl⟩
  replace h := dk_let_to eW_rows_2 h
  have hP : va_P (dC, dI) vwCl (wX1 oW aW cI cJ cZ W_rows_2 W_heightOf W_currentOf W_placeOf W_isPlaced W_wide W_high W_treeCount) H := by rw [eW_rows_2]; exact hP
  have hD : va_D A (wX1 oW aW cI cJ cZ W_rows_2 W_heightOf W_currentOf W_placeOf W_isPlaced W_wide W_high W_treeCount) := by rw [eW_rows_2]; exact hD
  refine lv_aload_n hx hb dX1_writeWire_15 rfl (lv_at hl 0 rfl) ?_
  refine va_get (D := (dC, dI)) (ci := 1) (v := .ref (aW 0)) (C := RX1) (T := TX1) (N := 8) hx hb hts qX1_writeWire_X1 hown hK hP 0 rfl rfl 0 (by decide) (hts _ qX1_writeWire_f11) (fun _ h9 => h9) rfl dX1_writeWire_16 ?_
  refine lv_iload_n hx hb dX1_writeWire_19 rfl (lv_at hl 2 rfl) ?_
  refine lv_bipush (v := 13) hx hb dX1_writeWire_20 (by decide) ?_
  refine lv_imul hx hb dX1_writeWire_22 ?_
  refine lv_iload_n hx hb dX1_writeWire_23 rfl (lv_at hl 2 rfl) ?_
  refine lv_iadd hx hb dX1_writeWire_24 ?_
  refine lv_dup2_11 hx hb dX1_writeWire_25 rfl rfl ?_
  obtain ⟨g_3, h⟩ := dk_gd_to h
  have g_3 := dk_in_to g_3
  refine va_lald hx hb hK hP 1 1 rfl rfl g_3 dX1_writeWire_26 ?_
  refine lv_lconst (v := 1) hx hb dX1_writeWire_27 (by decide) ?_
  refine lv_ladd hx hb dX1_writeWire_28 ?_
  refine va_last hx hb hK hP hD hS 1 1 rfl rfl g_3 dX1_writeWire_29 (fun H locs hP hD hS => ?_)
  obtain ⟨W_rows_4, eW_rows_4⟩ : ∃ z : Nat → Int64, z = vp_updL W_rows_2 ((x2 * 13) + x2).toNatClampNeg ((W_rows_2 ((x2 * 13) + x2).toNatClampNeg) + 1) := ⟨_, rfl⟩
  replace h := dk_let_to eW_rows_4 h
  have hP : va_P (dC, dI) vwCl (wX1 oW aW cI cJ cZ W_rows_4 W_heightOf W_currentOf W_placeOf W_isPlaced W_wide W_high W_treeCount) H := by rw [eW_rows_4]; exact hP
  have hD : va_D A (wX1 oW aW cI cJ cZ W_rows_4 W_heightOf W_currentOf W_placeOf W_isPlaced W_wide W_high W_treeCount) := by rw [eW_rows_4]; exact hD
  refine lv_aload_n hx hb dX1_writeWire_30 rfl (lv_at hl 0 rfl) ?_
  refine va_get (D := (dC, dI)) (ci := 1) (v := .ref (aW 0)) (C := RX1) (T := TX1) (N := 8) hx hb hts qX1_writeWire_X1 hown hK hP 0 rfl rfl 0 (by decide) (hts _ qX1_writeWire_f11) (fun _ h9 => h9) rfl dX1_writeWire_31 ?_
  refine lv_iload_n hx hb dX1_writeWire_34 rfl (lv_at hl 1 rfl) ?_
  refine lv_bipush (v := 13) hx hb dX1_writeWire_35 (by decide) ?_
  refine lv_imul hx hb dX1_writeWire_37 ?_
  refine lv_iload_n hx hb dX1_writeWire_38 rfl (lv_at hl 2 rfl) ?_
  refine lv_iadd hx hb dX1_writeWire_39 ?_
  refine lv_dup2_11 hx hb dX1_writeWire_40 rfl rfl ?_
  obtain ⟨g_5, h⟩ := dk_gd_to h
  have g_5 := dk_in_to g_5
  refine va_lald hx hb hK hP 1 1 rfl rfl g_5 dX1_writeWire_41 ?_
  refine lv_lconst (v := 1) hx hb dX1_writeWire_42 (by decide) ?_
  refine lv_lsub hx hb dX1_writeWire_43 ?_
  refine va_last hx hb hK hP hD hS 1 1 rfl rfl g_5 dX1_writeWire_44 (fun H locs hP hD hS => ?_)
  obtain ⟨W_rows_6, eW_rows_6⟩ : ∃ z : Nat → Int64, z = vp_updL W_rows_4 ((x1 * 13) + x2).toNatClampNeg ((W_rows_4 ((x1 * 13) + x2).toNatClampNeg) - 1) := ⟨_, rfl⟩
  replace h := dk_let_to eW_rows_6 h
  have hP : va_P (dC, dI) vwCl (wX1 oW aW cI cJ cZ W_rows_6 W_heightOf W_currentOf W_placeOf W_isPlaced W_wide W_high W_treeCount) H := by rw [eW_rows_6]; exact hP
  have hD : va_D A (wX1 oW aW cI cJ cZ W_rows_6 W_heightOf W_currentOf W_placeOf W_isPlaced W_wide W_high W_treeCount) := by rw [eW_rows_6]; exact hD
  refine lv_aload_n hx hb dX1_writeWire_45 rfl (lv_at hl 0 rfl) ?_
  refine va_get (D := (dC, dI)) (ci := 1) (v := .ref (aW 0)) (C := RX1) (T := TX1) (N := 8) hx hb hts qX1_writeWire_X1 hown hK hP 0 rfl rfl 0 (by decide) (hts _ qX1_writeWire_f11) (fun _ h9 => h9) rfl dX1_writeWire_46 ?_
  refine lv_iload_n hx hb dX1_writeWire_49 rfl (lv_at hl 2 rfl) ?_
  refine lv_bipush (v := 13) hx hb dX1_writeWire_50 (by decide) ?_
  refine lv_imul hx hb dX1_writeWire_52 ?_
  refine lv_iload_n hx hb dX1_writeWire_53 rfl (lv_at hl 1 rfl) ?_
  refine lv_iadd hx hb dX1_writeWire_54 ?_
  refine lv_dup2_11 hx hb dX1_writeWire_55 rfl rfl ?_
  obtain ⟨g_7, h⟩ := dk_gd_to h
  have g_7 := dk_in_to g_7
  refine va_lald hx hb hK hP 1 1 rfl rfl g_7 dX1_writeWire_56 ?_
  refine lv_lconst (v := 1) hx hb dX1_writeWire_57 (by decide) ?_
  refine lv_lsub hx hb dX1_writeWire_58 ?_
  refine va_last hx hb hK hP hD hS 1 1 rfl rfl g_7 dX1_writeWire_59 (fun H locs hP hD hS => ?_)
  obtain ⟨W_rows_8, eW_rows_8⟩ : ∃ z : Nat → Int64, z = vp_updL W_rows_6 ((x2 * 13) + x1).toNatClampNeg ((W_rows_6 ((x2 * 13) + x1).toNatClampNeg) - 1) := ⟨_, rfl⟩
  replace h := dk_let_to eW_rows_8 h
  have hP : va_P (dC, dI) vwCl (wX1 oW aW cI cJ cZ W_rows_8 W_heightOf W_currentOf W_placeOf W_isPlaced W_wide W_high W_treeCount) H := by rw [eW_rows_8]; exact hP
  have hD : va_D A (wX1 oW aW cI cJ cZ W_rows_8 W_heightOf W_currentOf W_placeOf W_isPlaced W_wide W_high W_treeCount) := by rw [eW_rows_8]; exact hD
  have e9 := Option.some.inj h
  subst e9
  exact dk_vret C hK hP hD hS dX1_writeWire_60
/-! ===== SquareTiler$Flow.writeRows ===== -/
abbrev rX1_writeRows : Room := { frames := 1, cells := 0, slots := 0, locals := 22 }
def ovX1_writeRows : List Cond := [Cond.fieldLink RX1 79 "SquareTiler$Net" "second" "[I", Cond.fieldLink RX1 40 "SquareTiler$Net" "power" "I", Cond.fieldLink RX1 11 "SquareTiler$Flow" "rows" "[J", Cond.fieldLink RX1 66 "SquareTiler$Net" "first" "[I", Cond.fieldLink RX1 53 "SquareTiler$Net" "knots" "I", Cond.fieldLink RX1 73 "SquareTiler$Net" "wires" "I", Cond.methodLink RX1 76 yX4_isPlain, Cond.instanceMethod yX4_isPlain, Cond.selects RX4 yX4_isPlain yX4_isPlain, Cond.initialized RX4, Cond.methodLink RX1 82 yX1_writeWire, Cond.instanceMethod yX1_writeWire, Cond.selects RX1 yX1_writeWire yX1_writeWire, Cond.initialized RX1]
def vsX1_writeRows : List Cond := .code yX1_writeRows cX1_writeRows 4 none :: (ovX1_writeRows ++ (wsX40 ++ (wsX10 ++ (vsX4_isPlain ++ (vsX1_writeWire ++ [])))))
theorem qX1_writeRows_f79 : Cond.fieldLink RX1 79 "SquareTiler$Net" "second" "[I" ∈ vsX1_writeRows := List.mem_cons_of_mem _ (List.mem_append_left _ (List.mem_of_getElem? (i := 0) rfl))
theorem qX1_writeRows_f40 : Cond.fieldLink RX1 40 "SquareTiler$Net" "power" "I" ∈ vsX1_writeRows := List.mem_cons_of_mem _ (List.mem_append_left _ (List.mem_of_getElem? (i := 1) rfl))
theorem qX1_writeRows_f11 : Cond.fieldLink RX1 11 "SquareTiler$Flow" "rows" "[J" ∈ vsX1_writeRows := List.mem_cons_of_mem _ (List.mem_append_left _ (List.mem_of_getElem? (i := 2) rfl))
theorem qX1_writeRows_f66 : Cond.fieldLink RX1 66 "SquareTiler$Net" "first" "[I" ∈ vsX1_writeRows := List.mem_cons_of_mem _ (List.mem_append_left _ (List.mem_of_getElem? (i := 3) rfl))
theorem qX1_writeRows_f53 : Cond.fieldLink RX1 53 "SquareTiler$Net" "knots" "I" ∈ vsX1_writeRows := List.mem_cons_of_mem _ (List.mem_append_left _ (List.mem_of_getElem? (i := 4) rfl))
theorem qX1_writeRows_f73 : Cond.fieldLink RX1 73 "SquareTiler$Net" "wires" "I" ∈ vsX1_writeRows := List.mem_cons_of_mem _ (List.mem_append_left _ (List.mem_of_getElem? (i := 5) rfl))
theorem qX1_writeRows_w6 : Cond.methodLink RX1 76 yX4_isPlain ∈ vsX1_writeRows := List.mem_cons_of_mem _ (List.mem_append_left _ (List.mem_of_getElem? (i := 6) rfl))
theorem qX1_writeRows_w7 : Cond.instanceMethod yX4_isPlain ∈ vsX1_writeRows := List.mem_cons_of_mem _ (List.mem_append_left _ (List.mem_of_getElem? (i := 7) rfl))
theorem qX1_writeRows_w8 : Cond.selects RX4 yX4_isPlain yX4_isPlain ∈ vsX1_writeRows := List.mem_cons_of_mem _ (List.mem_append_left _ (List.mem_of_getElem? (i := 8) rfl))
theorem qX1_writeRows_w9 : Cond.initialized RX4 ∈ vsX1_writeRows := List.mem_cons_of_mem _ (List.mem_append_left _ (List.mem_of_getElem? (i := 9) rfl))
theorem qX1_writeRows_w10 : Cond.methodLink RX1 82 yX1_writeWire ∈ vsX1_writeRows := List.mem_cons_of_mem _ (List.mem_append_left _ (List.mem_of_getElem? (i := 10) rfl))
theorem qX1_writeRows_w11 : Cond.instanceMethod yX1_writeWire ∈ vsX1_writeRows := List.mem_cons_of_mem _ (List.mem_append_left _ (List.mem_of_getElem? (i := 11) rfl))
theorem qX1_writeRows_w12 : Cond.selects RX1 yX1_writeWire yX1_writeWire ∈ vsX1_writeRows := List.mem_cons_of_mem _ (List.mem_append_left _ (List.mem_of_getElem? (i := 12) rfl))
theorem qX1_writeRows_w13 : Cond.initialized RX1 ∈ vsX1_writeRows := List.mem_cons_of_mem _ (List.mem_append_left _ (List.mem_of_getElem? (i := 13) rfl))
theorem qX1_writeRows_X4 : ∀ w ∈ u_ws RX4 TX4 10, w ∈ vsX1_writeRows := fun w h => List.mem_cons_of_mem _ (List.mem_append_right _ (List.mem_append_left _ h))
theorem qX1_writeRows_X1 : ∀ w ∈ u_ws RX1 TX1 8, w ∈ vsX1_writeRows := fun w h => List.mem_cons_of_mem _ (List.mem_append_right _ (List.mem_append_right _ (List.mem_append_left _ h)))
theorem gd_vsX1_writeRows : ∀ w ∈ vsX1_writeRows, goodWord w = true := dk_cons rfl (dk_app (dk_all (by decide +kernel)) (dk_app gd_wsX40 (dk_app gd_wsX10 (dk_app gd_vsX4_isPlain (dk_app gd_vsX1_writeWire dk_nil)))))
theorem gvX1_writeRows_X4_isPlain : GoodIn vsX1_writeRows (wsV RX1 76 RX4 yX4_isPlain vsX4_isPlain) := goodIn_app (dk_g4 qX1_writeRows_w6 qX1_writeRows_w7 qX1_writeRows_w8 qX1_writeRows_w9 rfl) (dk_gIn (fun w h => List.mem_cons_of_mem _ (List.mem_append_right _ (List.mem_append_right _ (List.mem_append_right _ (List.mem_append_left _ h))))) gd_vsX4_isPlain)
theorem gvX1_writeRows_X1_writeWire : GoodIn vsX1_writeRows (wsV RX1 82 RX1 yX1_writeWire vsX1_writeWire) := goodIn_app (dk_g4 qX1_writeRows_w10 qX1_writeRows_w11 qX1_writeRows_w12 qX1_writeRows_w13 rfl) (dk_gIn (fun w h => List.mem_cons_of_mem _ (List.mem_append_right _ (List.mem_append_right _ (List.mem_append_right _ (List.mem_append_right _ (List.mem_append_left _ h)))))) gd_vsX1_writeWire)
def bX1_writeRows_2 (N_first N_second N_isCut : Nat → Int32) (N_knots N_wires N_power : Int32) (st : Int32 × (Nat → Int64)) : Option (((Nat → Int64)) ⊕ (Int32 × (Nat → Int64))) := if 156 ≤ st.1 then some (.inl st.2) else dk_gd (dk_in st.1 156) (dk_let (vp_updL st.2 st.1.toNatClampNeg 0) (fun W_rows_13 => dk_let (st.1 + 1) (fun x2_14 => some (.inr (x2_14, W_rows_13)))))
def jX1_writeRows_56 (W_rows : Nat → Int64) (N_first N_second N_isCut : Nat → Int32) (N_knots N_wires N_power x2 : Int32) : Option (((Nat → Int64)) ⊕ (Int32 × (Nat → Int64))) := dk_let (x2 + 1) (fun x2_20 => some (.inr (x2_20, W_rows)))
def bX1_writeRows_24 (N_first N_second N_isCut : Nat → Int32) (N_knots N_wires N_power : Int32) (st : Int32 × (Nat → Int64)) : Option (((Nat → Int64)) ⊕ (Int32 × (Nat → Int64))) := if N_wires ≤ st.1 then some (.inl st.2) else dk_bnd (fX4_isPlain N_isCut N_power st.1) (fun r_16 => if r_16 = 0 then jX1_writeRows_56 st.2 N_first N_second N_isCut N_knots N_wires N_power st.1 else dk_gd (dk_in st.1 22) (dk_bnd (fX1_writeWire st.2 (N_first st.1.toNatClampNeg) (N_second st.1.toNatClampNeg)) (fun r_19 => jX1_writeRows_56 r_19 N_first N_second N_isCut N_knots N_wires N_power st.1)))
def bX1_writeRows_74 (N_first N_second N_isCut : Nat → Int32) (N_knots N_wires N_power x2 : Int32) (st : Int32 × (Nat → Int64)) : Option (((Nat → Int64)) ⊕ (Int32 × (Nat → Int64))) := if N_knots ≤ st.1 then some (.inl st.2) else dk_gd (dk_in ((x2 * 13) + st.1) 156) (dk_let (vp_updL st.2 ((x2 * 13) + st.1).toNatClampNeg 0) (fun W_rows_23 => dk_gd (dk_in ((st.1 * 13) + x2) 156) (dk_let (vp_updL W_rows_23 ((st.1 * 13) + x2).toNatClampNeg 0) (fun W_rows_25 => dk_let (st.1 + 1) (fun x3_26 => some (.inr (x3_26, W_rows_25)))))))
def fX1_writeRows (W_rows : Nat → Int64) (N_first N_second N_isCut : Nat → Int32) (N_knots N_wires N_power : Int32) : Option ((Nat → Int64)) := dk_bnd (dk_loop (bX1_writeRows_2 N_first N_second N_isCut N_knots N_wires N_power) 1000 (0, W_rows)) (fun r_1 => dk_bnd (dk_loop (bX1_writeRows_24 N_first N_second N_isCut N_knots N_wires N_power) 1000 (0, r_1)) (fun r_2 => dk_gd (dk_in N_power 22) (dk_let ((N_second N_power.toNatClampNeg)) (fun x2_4 => dk_bnd (dk_loop (bX1_writeRows_74 N_first N_second N_isCut N_knots N_wires N_power x2_4) 1000 (0, r_2)) (fun r_5 => dk_gd (dk_in ((x2_4 * 13) + x2_4) 156) (dk_let (vp_updL r_5 ((x2_4 * 13) + x2_4).toNatClampNeg 1) (fun W_rows_7 => dk_gd (dk_in N_power 22) (dk_gd (dk_in (((N_first N_power.toNatClampNeg) * 13) + N_knots) 156) (dk_let (vp_updL W_rows_7 (((N_first N_power.toNatClampNeg) * 13) + N_knots).toNatClampNeg 1) (fun W_rows_10 => some W_rows_10))))))))))
section
variable {p : Program} {l : Launch} {e : Env} {s : State} {m : MethodId} {args : Array Value} {below : List Frame} {meth : Method} {c : Code} {dC : Nat → ClassId} {dI : Nat → Nat → Nat} {cI cJ cZ : ClassId} {A : Nat → Prop} {oW : Nat} {aW : Nat → Nat} {oN : Nat} {aN : Nat → Nat} {W_rows : Nat → Int64} {W_heightOf W_currentOf W_placeOf W_isPlaced : Nat → Int32} {W_wide W_high : Int32} {W_treeCount : Int64} {N_first N_second N_isCut N_wireClaim N_knotClaim N_turnSize N_turns : Nat → Int32} {N_knots N_wires N_power : Int32}
set_option maxHeartbeats 4000000 in
set_option maxRecDepth 100000 in
theorem tX1_writeRows_2 (C : dk_C p s m meth c args cX1_writeRows none 4 RX1 vsX1_writeRows) (hK : va_K (dC, dI) vwCl (dk_ty cI cJ cZ) s) (hA : ∀ q : Nat, s.heap.size ≤ q → A q) {out : (Nat → Int64)} {st : Int32 × (Nat → Int64)} {y : ((Nat → Int64)) ⊕ (Int32 × (Nat → Int64))} (h : bX1_writeRows_2 N_first N_second N_isCut N_knots N_wires N_power st = some y) (hE : ∀ z : (Nat → Int64), y = .inl z → ∀ (H : Heap) (locs : List Loc), va_P (dC, dI) vwCl (wX1 oW aW cI cJ cZ z W_heightOf W_currentOf W_placeOf W_isPlaced W_wide W_high W_treeCount ++ (wX4 oN aN cI cJ cZ N_first N_second N_isCut N_wireClaim N_knotClaim N_turnSize N_turns N_knots N_wires N_power)) H → va_D A (wX1 oW aW cI cJ cZ z W_heightOf W_currentOf W_placeOf W_isPlaced W_wide W_high W_treeCount ++ (wX4 oN aN cI cJ cZ N_first N_second N_isCut N_wireClaim N_knotClaim N_turnSize N_turns N_knots N_wires N_power)) → va_S A s.heap H locs → ∀ ls : Array Slot, lv_has ls 4 [(0, .ref oW), (1, .ref oN)] → W p l e rX1_writeRows s m args below meth c H locs 0 0 (MQ below (dk_Qv (dC, dI) (dk_ty cI cJ cZ) (wX1 oW aW cI cJ cZ out W_heightOf W_currentOf W_placeOf W_isPlaced W_wide W_high W_treeCount ++ (wX4 oN aN cI cJ cZ N_first N_second N_isCut N_wireClaim N_knotClaim N_turnSize N_turns N_knots N_wires N_power)) A) args s 0 0 A) (F0 m 22 ls [])) (hC : ∀ z : Int32 × (Nat → Int64), y = .inr z → ∀ (H : Heap) (locs : List Loc), va_P (dC, dI) vwCl (wX1 oW aW cI cJ cZ z.2 W_heightOf W_currentOf W_placeOf W_isPlaced W_wide W_high W_treeCount ++ (wX4 oN aN cI cJ cZ N_first N_second N_isCut N_wireClaim N_knotClaim N_turnSize N_turns N_knots N_wires N_power)) H → va_D A (wX1 oW aW cI cJ cZ z.2 W_heightOf W_currentOf W_placeOf W_isPlaced W_wide W_high W_treeCount ++ (wX4 oN aN cI cJ cZ N_first N_second N_isCut N_wireClaim N_knotClaim N_turnSize N_turns N_knots N_wires N_power)) → va_S A s.heap H locs → ∀ ls : Array Slot, lv_has ls 4 [(0, .ref oW), (1, .ref oN), (2, .int z.1)] → W p l e rX1_writeRows s m args below meth c H locs 0 0 (MQ below (dk_Qv (dC, dI) (dk_ty cI cJ cZ) (wX1 oW aW cI cJ cZ out W_heightOf W_currentOf W_placeOf W_isPlaced W_wide W_high W_treeCount ++ (wX4 oN aN cI cJ cZ N_first N_second N_isCut N_wireClaim N_knotClaim N_turnSize N_turns N_knots N_wires N_power)) A) args s 0 0 A) (F0 m 2 ls [])) : ∀ (H : Heap) (locs : List Loc), va_P (dC, dI) vwCl (wX1 oW aW cI cJ cZ st.2 W_heightOf W_currentOf W_placeOf W_isPlaced W_wide W_high W_treeCount ++ (wX4 oN aN cI cJ cZ N_first N_second N_isCut N_wireClaim N_knotClaim N_turnSize N_turns N_knots N_wires N_power)) H → va_D A (wX1 oW aW cI cJ cZ st.2 W_heightOf W_currentOf W_placeOf W_isPlaced W_wide W_high W_treeCount ++ (wX4 oN aN cI cJ cZ N_first N_second N_isCut N_wireClaim N_knotClaim N_turnSize N_turns N_knots N_wires N_power)) → va_S A s.heap H locs → ∀ ls : Array Slot, lv_has ls 4 [(0, .ref oW), (1, .ref oN), (2, .int st.1)] → W p l e rX1_writeRows s m args below meth c H locs 0 0 (MQ below (dk_Qv (dC, dI) (dk_ty cI cJ cZ) (wX1 oW aW cI cJ cZ out W_heightOf W_currentOf W_placeOf W_isPlaced W_wide W_high W_treeCount ++ (wX4 oN aN cI cJ cZ N_first N_second N_isCut N_wireClaim N_knotClaim N_turnSize N_turns N_knots N_wires N_power)) A) args s 0 0 A) (F0 m 2 ls []) := by
  obtain ⟨hx, hb, hr, hml, hown, hts, hlocks⟩ := id C
  intro H locs hP hD hS ls hl
  unfold bX1_writeRows_2 at h
  refine lv_iload_n hx hb dX1_writeRows_2 rfl (lv_at hl 2 rfl) ?_
  refine lv_sipush (v := 156) hx hb dX1_writeRows_3 (by decide) ?_
  refine lv_icmp_ge (tgt := 22) hx hb dX1_writeRows_6 (by decide) (fun c_11 => ?_) (fun c_11 => ?_)
  · replace h := dk_it c_11 h
    exact hE _ (Option.some.inj h).symm _ _ hP hD hS ls (lv_sub hl [0, 1] rfl)
  · replace h := dk_ie c_11 h
    refine lv_aload_n hx hb dX1_writeRows_9 rfl (lv_at hl 0 rfl) ?_
    refine va_get (D := (dC, dI)) (ci := 1) (v := .ref (aW 0)) (C := RX1) (T := TX1) (N := 8) hx hb hts qX1_writeRows_X1 hown hK hP 0 rfl rfl 0 (by decide) (hts _ qX1_writeRows_f11) (fun _ h9 => h9) rfl dX1_writeRows_10 ?_
    refine lv_iload_n hx hb dX1_writeRows_13 rfl (lv_at hl 2 rfl) ?_
    refine lv_lconst (v := 0) hx hb dX1_writeRows_14 (by decide) ?_
    obtain ⟨g_12, h⟩ := dk_gd_to h
    have g_12 := dk_in_to g_12
    refine va_last hx hb hK hP hD hS 1 1 rfl rfl g_12 dX1_writeRows_15 (fun H locs hP hD hS => ?_)
    obtain ⟨W_rows_13, eW_rows_13⟩ : ∃ z : Nat → Int64, z = vp_updL st.2 st.1.toNatClampNeg 0 := ⟨_, rfl⟩
    replace h := dk_let_to eW_rows_13 h
    have hP : va_P (dC, dI) vwCl (wX1 oW aW cI cJ cZ W_rows_13 W_heightOf W_currentOf W_placeOf W_isPlaced W_wide W_high W_treeCount ++ (wX4 oN aN cI cJ cZ N_first N_second N_isCut N_wireClaim N_knotClaim N_turnSize N_turns N_knots N_wires N_power)) H := by rw [eW_rows_13]; exact hP
    have hD : va_D A (wX1 oW aW cI cJ cZ W_rows_13 W_heightOf W_currentOf W_placeOf W_isPlaced W_wide W_high W_treeCount ++ (wX4 oN aN cI cJ cZ N_first N_second N_isCut N_wireClaim N_knotClaim N_turnSize N_turns N_knots N_wires N_power)) := by rw [eW_rows_13]; exact hD
    obtain ⟨x2_14, ex2_14⟩ : ∃ z : Int32, z = st.1 + 1 := ⟨_, rfl⟩
    replace h := dk_let_to ex2_14 h
    refine lv_iinc (v := x2_14) (lv' := [(2, .int x2_14), (0, .ref oW), (1, .ref oN)]) hx hb dX1_writeRows_16 hl (k := 2) rfl (by rw [ex2_14]; rfl) (by decide) rfl (fun ls hl => ?_)
    refine lv_goto (tgt := 2) hx hb dX1_writeRows_19 (by decide) ?_
    exact hC _ (Option.some.inj h).symm _ _ hP hD hS ls (lv_sub hl [1, 2, 0] rfl)
set_option maxHeartbeats 4000000 in
set_option maxRecDepth 100000 in
theorem lX1_writeRows_2 (C : dk_C p s m meth c args cX1_writeRows none 4 RX1 vsX1_writeRows) (hK : va_K (dC, dI) vwCl (dk_ty cI cJ cZ) s) (hA : ∀ q : Nat, s.heap.size ≤ q → A q) {out : (Nat → Int64)} {n : Nat} {st : Int32 × (Nat → Int64)} {r : (Nat → Int64)} (h : dk_loop (bX1_writeRows_2 N_first N_second N_isCut N_knots N_wires N_power) n st = some r) (hE : ∀ (H : Heap) (locs : List Loc), va_P (dC, dI) vwCl (wX1 oW aW cI cJ cZ r W_heightOf W_currentOf W_placeOf W_isPlaced W_wide W_high W_treeCount ++ (wX4 oN aN cI cJ cZ N_first N_second N_isCut N_wireClaim N_knotClaim N_turnSize N_turns N_knots N_wires N_power)) H → va_D A (wX1 oW aW cI cJ cZ r W_heightOf W_currentOf W_placeOf W_isPlaced W_wide W_high W_treeCount ++ (wX4 oN aN cI cJ cZ N_first N_second N_isCut N_wireClaim N_knotClaim N_turnSize N_turns N_knots N_wires N_power)) → va_S A s.heap H locs → ∀ ls : Array Slot, lv_has ls 4 [(0, .ref oW), (1, .ref oN)] → W p l e rX1_writeRows s m args below meth c H locs 0 0 (MQ below (dk_Qv (dC, dI) (dk_ty cI cJ cZ) (wX1 oW aW cI cJ cZ out W_heightOf W_currentOf W_placeOf W_isPlaced W_wide W_high W_treeCount ++ (wX4 oN aN cI cJ cZ N_first N_second N_isCut N_wireClaim N_knotClaim N_turnSize N_turns N_knots N_wires N_power)) A) args s 0 0 A) (F0 m 22 ls [])) : ∀ (H : Heap) (locs : List Loc), va_P (dC, dI) vwCl (wX1 oW aW cI cJ cZ st.2 W_heightOf W_currentOf W_placeOf W_isPlaced W_wide W_high W_treeCount ++ (wX4 oN aN cI cJ cZ N_first N_second N_isCut N_wireClaim N_knotClaim N_turnSize N_turns N_knots N_wires N_power)) H → va_D A (wX1 oW aW cI cJ cZ st.2 W_heightOf W_currentOf W_placeOf W_isPlaced W_wide W_high W_treeCount ++ (wX4 oN aN cI cJ cZ N_first N_second N_isCut N_wireClaim N_knotClaim N_turnSize N_turns N_knots N_wires N_power)) → va_S A s.heap H locs → ∀ ls : Array Slot, lv_has ls 4 [(0, .ref oW), (1, .ref oN), (2, .int st.1)] → W p l e rX1_writeRows s m args below meth c H locs 0 0 (MQ below (dk_Qv (dC, dI) (dk_ty cI cJ cZ) (wX1 oW aW cI cJ cZ out W_heightOf W_currentOf W_placeOf W_isPlaced W_wide W_high W_treeCount ++ (wX4 oN aN cI cJ cZ N_first N_second N_isCut N_wireClaim N_knotClaim N_turnSize N_turns N_knots N_wires N_power)) A) args s 0 0 A) (F0 m 2 ls []) :=
  dk_loopW (P := fun st => ∀ (H : Heap) (locs : List Loc), va_P (dC, dI) vwCl (wX1 oW aW cI cJ cZ st.2 W_heightOf W_currentOf W_placeOf W_isPlaced W_wide W_high W_treeCount ++ (wX4 oN aN cI cJ cZ N_first N_second N_isCut N_wireClaim N_knotClaim N_turnSize N_turns N_knots N_wires N_power)) H → va_D A (wX1 oW aW cI cJ cZ st.2 W_heightOf W_currentOf W_placeOf W_isPlaced W_wide W_high W_treeCount ++ (wX4 oN aN cI cJ cZ N_first N_second N_isCut N_wireClaim N_knotClaim N_turnSize N_turns N_knots N_wires N_power)) → va_S A s.heap H locs → ∀ ls : Array Slot, lv_has ls 4 [(0, .ref oW), (1, .ref oN), (2, .int st.1)] → W p l e rX1_writeRows s m args below meth c H locs 0 0 (MQ below (dk_Qv (dC, dI) (dk_ty cI cJ cZ) (wX1 oW aW cI cJ cZ out W_heightOf W_currentOf W_placeOf W_isPlaced W_wide W_high W_treeCount ++ (wX4 oN aN cI cJ cZ N_first N_second N_isCut N_wireClaim N_knotClaim N_turnSize N_turns N_knots N_wires N_power)) A) args s 0 0 A) (F0 m 2 ls [])) (K := fun r => ∀ (H : Heap) (locs : List Loc), va_P (dC, dI) vwCl (wX1 oW aW cI cJ cZ r W_heightOf W_currentOf W_placeOf W_isPlaced W_wide W_high W_treeCount ++ (wX4 oN aN cI cJ cZ N_first N_second N_isCut N_wireClaim N_knotClaim N_turnSize N_turns N_knots N_wires N_power)) H → va_D A (wX1 oW aW cI cJ cZ r W_heightOf W_currentOf W_placeOf W_isPlaced W_wide W_high W_treeCount ++ (wX4 oN aN cI cJ cZ N_first N_second N_isCut N_wireClaim N_knotClaim N_turnSize N_turns N_knots N_wires N_power)) → va_S A s.heap H locs → ∀ ls : Array Slot, lv_has ls 4 [(0, .ref oW), (1, .ref oN)] → W p l e rX1_writeRows s m args below meth c H locs 0 0 (MQ below (dk_Qv (dC, dI) (dk_ty cI cJ cZ) (wX1 oW aW cI cJ cZ out W_heightOf W_currentOf W_placeOf W_isPlaced W_wide W_high W_treeCount ++ (wX4 oN aN cI cJ cZ N_first N_second N_isCut N_wireClaim N_knotClaim N_turnSize N_turns N_knots N_wires N_power)) A) args s 0 0 A) (F0 m 22 ls [])) (fun st y hy k1 k2 => tX1_writeRows_2 C hK hA hy k1 k2) n st r h hE
set_option maxHeartbeats 4000000 in
set_option maxRecDepth 100000 in
theorem kX1_writeRows_56 (C : dk_C p s m meth c args cX1_writeRows none 4 RX1 vsX1_writeRows) (hK : va_K (dC, dI) vwCl (dk_ty cI cJ cZ) s) (hA : ∀ q : Nat, s.heap.size ≤ q → A q) {out : (Nat → Int64)} {x2 : Int32} {y : ((Nat → Int64)) ⊕ (Int32 × (Nat → Int64))} (h : jX1_writeRows_56 W_rows N_first N_second N_isCut N_knots N_wires N_power x2 = some y) (hE : ∀ z : (Nat → Int64), y = .inl z → ∀ (H : Heap) (locs : List Loc), va_P (dC, dI) vwCl (wX1 oW aW cI cJ cZ z W_heightOf W_currentOf W_placeOf W_isPlaced W_wide W_high W_treeCount ++ (wX4 oN aN cI cJ cZ N_first N_second N_isCut N_wireClaim N_knotClaim N_turnSize N_turns N_knots N_wires N_power)) H → va_D A (wX1 oW aW cI cJ cZ z W_heightOf W_currentOf W_placeOf W_isPlaced W_wide W_high W_treeCount ++ (wX4 oN aN cI cJ cZ N_first N_second N_isCut N_wireClaim N_knotClaim N_turnSize N_turns N_knots N_wires N_power)) → va_S A s.heap H locs → ∀ ls : Array Slot, lv_has ls 4 [(0, .ref oW), (1, .ref oN)] → W p l e rX1_writeRows s m args below meth c H locs 0 0 (MQ below (dk_Qv (dC, dI) (dk_ty cI cJ cZ) (wX1 oW aW cI cJ cZ out W_heightOf W_currentOf W_placeOf W_isPlaced W_wide W_high W_treeCount ++ (wX4 oN aN cI cJ cZ N_first N_second N_isCut N_wireClaim N_knotClaim N_turnSize N_turns N_knots N_wires N_power)) A) args s 0 0 A) (F0 m 62 ls [])) (hC : ∀ z : Int32 × (Nat → Int64), y = .inr z → ∀ (H : Heap) (locs : List Loc), va_P (dC, dI) vwCl (wX1 oW aW cI cJ cZ z.2 W_heightOf W_currentOf W_placeOf W_isPlaced W_wide W_high W_treeCount ++ (wX4 oN aN cI cJ cZ N_first N_second N_isCut N_wireClaim N_knotClaim N_turnSize N_turns N_knots N_wires N_power)) H → va_D A (wX1 oW aW cI cJ cZ z.2 W_heightOf W_currentOf W_placeOf W_isPlaced W_wide W_high W_treeCount ++ (wX4 oN aN cI cJ cZ N_first N_second N_isCut N_wireClaim N_knotClaim N_turnSize N_turns N_knots N_wires N_power)) → va_S A s.heap H locs → ∀ ls : Array Slot, lv_has ls 4 [(0, .ref oW), (1, .ref oN), (2, .int z.1)] → W p l e rX1_writeRows s m args below meth c H locs 0 0 (MQ below (dk_Qv (dC, dI) (dk_ty cI cJ cZ) (wX1 oW aW cI cJ cZ out W_heightOf W_currentOf W_placeOf W_isPlaced W_wide W_high W_treeCount ++ (wX4 oN aN cI cJ cZ N_first N_second N_isCut N_wireClaim N_knotClaim N_turnSize N_turns N_knots N_wires N_power)) A) args s 0 0 A) (F0 m 24 ls [])) : ∀ (H : Heap) (locs : List Loc), va_P (dC, dI) vwCl (wX1 oW aW cI cJ cZ W_rows W_heightOf W_currentOf W_placeOf W_isPlaced W_wide W_high W_treeCount ++ (wX4 oN aN cI cJ cZ N_first N_second N_isCut N_wireClaim N_knotClaim N_turnSize N_turns N_knots N_wires N_power)) H → va_D A (wX1 oW aW cI cJ cZ W_rows W_heightOf W_currentOf W_placeOf W_isPlaced W_wide W_high W_treeCount ++ (wX4 oN aN cI cJ cZ N_first N_second N_isCut N_wireClaim N_knotClaim N_turnSize N_turns N_knots N_wires N_power)) → va_S A s.heap H locs → ∀ ls : Array Slot, lv_has ls 4 [(0, .ref oW), (1, .ref oN), (2, .int x2)] → W p l e rX1_writeRows s m args below meth c H locs 0 0 (MQ below (dk_Qv (dC, dI) (dk_ty cI cJ cZ) (wX1 oW aW cI cJ cZ out W_heightOf W_currentOf W_placeOf W_isPlaced W_wide W_high W_treeCount ++ (wX4 oN aN cI cJ cZ N_first N_second N_isCut N_wireClaim N_knotClaim N_turnSize N_turns N_knots N_wires N_power)) A) args s 0 0 A) (F0 m 56 ls []) := by
  obtain ⟨hx, hb, hr, hml, hown, hts, hlocks⟩ := id C
  intro H locs hP hD hS ls hl
  unfold jX1_writeRows_56 at h
  obtain ⟨x2_20, ex2_20⟩ : ∃ z : Int32, z = x2 + 1 := ⟨_, rfl⟩
  replace h := dk_let_to ex2_20 h
  refine lv_iinc (v := x2_20) (lv' := [(2, .int x2_20), (0, .ref oW), (1, .ref oN)]) hx hb dX1_writeRows_56 hl (k := 2) rfl (by rw [ex2_20]; rfl) (by decide) rfl (fun ls hl => ?_)
  refine lv_goto (tgt := 24) hx hb dX1_writeRows_59 (by decide) ?_
  exact hC _ (Option.some.inj h).symm _ _ hP hD hS ls (lv_sub hl [1, 2, 0] rfl)
set_option maxHeartbeats 4000000 in
set_option maxRecDepth 100000 in
theorem tX1_writeRows_24 (C : dk_C p s m meth c args cX1_writeRows none 4 RX1 vsX1_writeRows) (hK : va_K (dC, dI) vwCl (dk_ty cI cJ cZ) s) (hA : ∀ q : Nat, s.heap.size ≤ q → A q) {out : (Nat → Int64)} {st : Int32 × (Nat → Int64)} {y : ((Nat → Int64)) ⊕ (Int32 × (Nat → Int64))} (h : bX1_writeRows_24 N_first N_second N_isCut N_knots N_wires N_power st = some y) (hE : ∀ z : (Nat → Int64), y = .inl z → ∀ (H : Heap) (locs : List Loc), va_P (dC, dI) vwCl (wX1 oW aW cI cJ cZ z W_heightOf W_currentOf W_placeOf W_isPlaced W_wide W_high W_treeCount ++ (wX4 oN aN cI cJ cZ N_first N_second N_isCut N_wireClaim N_knotClaim N_turnSize N_turns N_knots N_wires N_power)) H → va_D A (wX1 oW aW cI cJ cZ z W_heightOf W_currentOf W_placeOf W_isPlaced W_wide W_high W_treeCount ++ (wX4 oN aN cI cJ cZ N_first N_second N_isCut N_wireClaim N_knotClaim N_turnSize N_turns N_knots N_wires N_power)) → va_S A s.heap H locs → ∀ ls : Array Slot, lv_has ls 4 [(0, .ref oW), (1, .ref oN)] → W p l e rX1_writeRows s m args below meth c H locs 0 0 (MQ below (dk_Qv (dC, dI) (dk_ty cI cJ cZ) (wX1 oW aW cI cJ cZ out W_heightOf W_currentOf W_placeOf W_isPlaced W_wide W_high W_treeCount ++ (wX4 oN aN cI cJ cZ N_first N_second N_isCut N_wireClaim N_knotClaim N_turnSize N_turns N_knots N_wires N_power)) A) args s 0 0 A) (F0 m 62 ls [])) (hC : ∀ z : Int32 × (Nat → Int64), y = .inr z → ∀ (H : Heap) (locs : List Loc), va_P (dC, dI) vwCl (wX1 oW aW cI cJ cZ z.2 W_heightOf W_currentOf W_placeOf W_isPlaced W_wide W_high W_treeCount ++ (wX4 oN aN cI cJ cZ N_first N_second N_isCut N_wireClaim N_knotClaim N_turnSize N_turns N_knots N_wires N_power)) H → va_D A (wX1 oW aW cI cJ cZ z.2 W_heightOf W_currentOf W_placeOf W_isPlaced W_wide W_high W_treeCount ++ (wX4 oN aN cI cJ cZ N_first N_second N_isCut N_wireClaim N_knotClaim N_turnSize N_turns N_knots N_wires N_power)) → va_S A s.heap H locs → ∀ ls : Array Slot, lv_has ls 4 [(0, .ref oW), (1, .ref oN), (2, .int z.1)] → W p l e rX1_writeRows s m args below meth c H locs 0 0 (MQ below (dk_Qv (dC, dI) (dk_ty cI cJ cZ) (wX1 oW aW cI cJ cZ out W_heightOf W_currentOf W_placeOf W_isPlaced W_wide W_high W_treeCount ++ (wX4 oN aN cI cJ cZ N_first N_second N_isCut N_wireClaim N_knotClaim N_turnSize N_turns N_knots N_wires N_power)) A) args s 0 0 A) (F0 m 24 ls [])) : ∀ (H : Heap) (locs : List Loc), va_P (dC, dI) vwCl (wX1 oW aW cI cJ cZ st.2 W_heightOf W_currentOf W_placeOf W_isPlaced W_wide W_high W_treeCount ++ (wX4 oN aN cI cJ cZ N_first N_second N_isCut N_wireClaim N_knotClaim N_turnSize N_turns N_knots N_wires N_power)) H → va_D A (wX1 oW aW cI cJ cZ st.2 W_heightOf W_currentOf W_placeOf W_isPlaced W_wide W_high W_treeCount ++ (wX4 oN aN cI cJ cZ N_first N_second N_isCut N_wireClaim N_knotClaim N_turnSize N_turns N_knots N_wires N_power)) → va_S A s.heap H locs → ∀ ls : Array Slot, lv_has ls 4 [(0, .ref oW), (1, .ref oN), (2, .int st.1)] → W p l e rX1_writeRows s m args below meth c H locs 0 0 (MQ below (dk_Qv (dC, dI) (dk_ty cI cJ cZ) (wX1 oW aW cI cJ cZ out W_heightOf W_currentOf W_placeOf W_isPlaced W_wide W_high W_treeCount ++ (wX4 oN aN cI cJ cZ N_first N_second N_isCut N_wireClaim N_knotClaim N_turnSize N_turns N_knots N_wires N_power)) A) args s 0 0 A) (F0 m 24 ls []) := by
  obtain ⟨hx, hb, hr, hml, hown, hts, hlocks⟩ := id C
  intro H locs hP hD hS ls hl
  unfold bX1_writeRows_24 at h
  refine lv_iload_n hx hb dX1_writeRows_24 rfl (lv_at hl 2 rfl) ?_
  refine lv_aload_n hx hb dX1_writeRows_25 rfl (lv_at hl 1 rfl) ?_
  refine va_get (D := (dC, dI)) (ci := 4) (v := .int N_wires) (C := RX4) (T := TX4) (N := 10) hx hb hts qX1_writeRows_X4 hown hK hP 6 rfl rfl 8 (by decide) (hts _ qX1_writeRows_f73) (fun _ h9 => h9) rfl dX1_writeRows_26 ?_
  refine lv_icmp_ge (tgt := 62) hx hb dX1_writeRows_29 (by decide) (fun c_15 => ?_) (fun c_15 => ?_)
  · replace h := dk_it c_15 h
    exact hE _ (Option.some.inj h).symm _ _ hP hD hS ls (lv_sub hl [0, 1] rfl)
  · replace h := dk_ie c_15 h
    refine lv_aload_n hx hb dX1_writeRows_32 rfl (lv_at hl 1 rfl) ?_
    refine lv_iload_n hx hb dX1_writeRows_33 rfl (lv_at hl 2 rfl) ?_
    obtain ⟨r_16, hcr_16, h⟩ := dk_bnd_to h
    refine dk_rVi (b := oN) (As := [.int st.1]) (rest := []) (wc := (wX4 oN aN cI cJ cZ N_first N_second N_isCut N_wireClaim N_knotClaim N_turnSize N_turns N_knots N_wires N_power)) C hK hP hD hS hA (mX4_isPlain l dC dI cI cJ cZ hcr_16 _) (cwV 1 hts gvX1_writeRows_X4_isPlain rfl rfl rfl (by decide +kernel) ⟨Nat.le_of_ble_eq_true rfl, Nat.le_of_ble_eq_true rfl⟩) [6, 7, 8, 9, 10, 11, 12, 13] rfl (by decide) 0 4 rfl rfl rfl hl.1 rfl (Nat.le_of_ble_eq_true rfl) ⟨Nat.le_of_ble_eq_true rfl, Nat.le_of_ble_eq_true rfl⟩ dX1_writeRows_34 (fun H locs hP hD hS => ?_)
    refine lv_if_eq (tgt := 56) hx hb dX1_writeRows_37 (by decide) (fun c_17 => ?_) (fun c_17 => ?_)
    · replace h := dk_it c_17 h
      exact kX1_writeRows_56 C hK hA h hE hC _ _ hP hD hS ls (lv_sub hl [0, 1, 2] rfl)
    · replace h := dk_ie c_17 h
      refine lv_aload_n hx hb dX1_writeRows_40 rfl (lv_at hl 0 rfl) ?_
      refine lv_aload_n hx hb dX1_writeRows_41 rfl (lv_at hl 1 rfl) ?_
      refine va_get (D := (dC, dI)) (ci := 4) (v := .ref (aN 0)) (C := RX4) (T := TX4) (N := 10) hx hb hts qX1_writeRows_X4 hown hK hP 6 rfl rfl 0 (by decide) (hts _ qX1_writeRows_f66) (fun _ h9 => h9) rfl dX1_writeRows_42 ?_
      refine lv_iload_n hx hb dX1_writeRows_45 rfl (lv_at hl 2 rfl) ?_
      obtain ⟨g_18, h⟩ := dk_gd_to h
      have g_18 := dk_in_to g_18
      refine va_iald hx hb hK hP 7 0 rfl rfl g_18 dX1_writeRows_46 ?_
      refine lv_aload_n hx hb dX1_writeRows_47 rfl (lv_at hl 1 rfl) ?_
      refine va_get (D := (dC, dI)) (ci := 4) (v := .ref (aN 1)) (C := RX4) (T := TX4) (N := 10) hx hb hts qX1_writeRows_X4 hown hK hP 6 rfl rfl 1 (by decide) (hts _ qX1_writeRows_f79) (fun _ h9 => h9) rfl dX1_writeRows_48 ?_
      refine lv_iload_n hx hb dX1_writeRows_51 rfl (lv_at hl 2 rfl) ?_
      refine va_iald hx hb hK hP 8 0 rfl rfl g_18 dX1_writeRows_52 ?_
      obtain ⟨r_19, hcr_19, h⟩ := dk_bnd_to h
      refine dk_cVv (b := oW) (As := [.int (N_first st.1.toNatClampNeg), .int (N_second st.1.toNatClampNeg)]) (rest := []) (wc := (wX1 oW aW cI cJ cZ st.2 W_heightOf W_currentOf W_placeOf W_isPlaced W_wide W_high W_treeCount)) (wc' := (wX1 oW aW cI cJ cZ r_19 W_heightOf W_currentOf W_placeOf W_isPlaced W_wide W_high W_treeCount)) (wr := (wX4 oN aN cI cJ cZ N_first N_second N_isCut N_wireClaim N_knotClaim N_turnSize N_turns N_knots N_wires N_power)) (ws' := (wX1 oW aW cI cJ cZ r_19 W_heightOf W_currentOf W_placeOf W_isPlaced W_wide W_high W_treeCount ++ (wX4 oN aN cI cJ cZ N_first N_second N_isCut N_wireClaim N_knotClaim N_turnSize N_turns N_knots N_wires N_power))) C hK hP hD hS hA (mX1_writeWire l dC dI cI cJ cZ hcr_19 _) (cwV 2 hts gvX1_writeRows_X1_writeWire rfl rfl rfl (by decide +kernel) ⟨Nat.le_of_ble_eq_true rfl, Nat.le_of_ble_eq_true rfl⟩) [0, 1, 2, 3, 4, 5] [6, 7, 8, 9, 10, 11, 12, 13] [8, 9, 10, 11, 12, 13, 0, 1, 2, 3, 4, 5, 6, 7] rfl (by decide) rfl (by decide) (by decide) rfl (by decide) 0 1 rfl rfl rfl hl.1 rfl (Nat.le_of_ble_eq_true rfl) ⟨Nat.le_of_ble_eq_true rfl, Nat.le_of_ble_eq_true rfl⟩ dX1_writeRows_53 (fun H locs hP hD hS => ?_)
      exact kX1_writeRows_56 C hK hA h hE hC _ _ hP hD hS ls (lv_sub hl [0, 1, 2] rfl)
set_option maxHeartbeats 4000000 in
set_option maxRecDepth 100000 in
theorem lX1_writeRows_24 (C : dk_C p s m meth c args cX1_writeRows none 4 RX1 vsX1_writeRows) (hK : va_K (dC, dI) vwCl (dk_ty cI cJ cZ) s) (hA : ∀ q : Nat, s.heap.size ≤ q → A q) {out : (Nat → Int64)} {n : Nat} {st : Int32 × (Nat → Int64)} {r : (Nat → Int64)} (h : dk_loop (bX1_writeRows_24 N_first N_second N_isCut N_knots N_wires N_power) n st = some r) (hE : ∀ (H : Heap) (locs : List Loc), va_P (dC, dI) vwCl (wX1 oW aW cI cJ cZ r W_heightOf W_currentOf W_placeOf W_isPlaced W_wide W_high W_treeCount ++ (wX4 oN aN cI cJ cZ N_first N_second N_isCut N_wireClaim N_knotClaim N_turnSize N_turns N_knots N_wires N_power)) H → va_D A (wX1 oW aW cI cJ cZ r W_heightOf W_currentOf W_placeOf W_isPlaced W_wide W_high W_treeCount ++ (wX4 oN aN cI cJ cZ N_first N_second N_isCut N_wireClaim N_knotClaim N_turnSize N_turns N_knots N_wires N_power)) → va_S A s.heap H locs → ∀ ls : Array Slot, lv_has ls 4 [(0, .ref oW), (1, .ref oN)] → W p l e rX1_writeRows s m args below meth c H locs 0 0 (MQ below (dk_Qv (dC, dI) (dk_ty cI cJ cZ) (wX1 oW aW cI cJ cZ out W_heightOf W_currentOf W_placeOf W_isPlaced W_wide W_high W_treeCount ++ (wX4 oN aN cI cJ cZ N_first N_second N_isCut N_wireClaim N_knotClaim N_turnSize N_turns N_knots N_wires N_power)) A) args s 0 0 A) (F0 m 62 ls [])) : ∀ (H : Heap) (locs : List Loc), va_P (dC, dI) vwCl (wX1 oW aW cI cJ cZ st.2 W_heightOf W_currentOf W_placeOf W_isPlaced W_wide W_high W_treeCount ++ (wX4 oN aN cI cJ cZ N_first N_second N_isCut N_wireClaim N_knotClaim N_turnSize N_turns N_knots N_wires N_power)) H → va_D A (wX1 oW aW cI cJ cZ st.2 W_heightOf W_currentOf W_placeOf W_isPlaced W_wide W_high W_treeCount ++ (wX4 oN aN cI cJ cZ N_first N_second N_isCut N_wireClaim N_knotClaim N_turnSize N_turns N_knots N_wires N_power)) → va_S A s.heap H locs → ∀ ls : Array Slot, lv_has ls 4 [(0, .ref oW), (1, .ref oN), (2, .int st.1)] → W p l e rX1_writeRows s m args below meth c H locs 0 0 (MQ below (dk_Qv (dC, dI) (dk_ty cI cJ cZ) (wX1 oW aW cI cJ cZ out W_heightOf W_currentOf W_placeOf W_isPlaced W_wide W_high W_treeCount ++ (wX4 oN aN cI cJ cZ N_first N_second N_isCut N_wireClaim N_knotClaim N_turnSize N_turns N_knots N_wires N_power)) A) args s 0 0 A) (F0 m 24 ls []) :=
  dk_loopW (P := fun st => ∀ (H : Heap) (locs : List Loc), va_P (dC, dI) vwCl (wX1 oW aW cI cJ cZ st.2 W_heightOf W_currentOf W_placeOf W_isPlaced W_wide W_high W_treeCount ++ (wX4 oN aN cI cJ cZ N_first N_second N_isCut N_wireClaim N_knotClaim N_turnSize N_turns N_knots N_wires N_power)) H → va_D A (wX1 oW aW cI cJ cZ st.2 W_heightOf W_currentOf W_placeOf W_isPlaced W_wide W_high W_treeCount ++ (wX4 oN aN cI cJ cZ N_first N_second N_isCut N_wireClaim N_knotClaim N_turnSize N_turns N_knots N_wires N_power)) → va_S A s.heap H locs → ∀ ls : Array Slot, lv_has ls 4 [(0, .ref oW), (1, .ref oN), (2, .int st.1)] → W p l e rX1_writeRows s m args below meth c H locs 0 0 (MQ below (dk_Qv (dC, dI) (dk_ty cI cJ cZ) (wX1 oW aW cI cJ cZ out W_heightOf W_currentOf W_placeOf W_isPlaced W_wide W_high W_treeCount ++ (wX4 oN aN cI cJ cZ N_first N_second N_isCut N_wireClaim N_knotClaim N_turnSize N_turns N_knots N_wires N_power)) A) args s 0 0 A) (F0 m 24 ls [])) (K := fun r => ∀ (H : Heap) (locs : List Loc), va_P (dC, dI) vwCl (wX1 oW aW cI cJ cZ r W_heightOf W_currentOf W_placeOf W_isPlaced W_wide W_high W_treeCount ++ (wX4 oN aN cI cJ cZ N_first N_second N_isCut N_wireClaim N_knotClaim N_turnSize N_turns N_knots N_wires N_power)) H → va_D A (wX1 oW aW cI cJ cZ r W_heightOf W_currentOf W_placeOf W_isPlaced W_wide W_high W_treeCount ++ (wX4 oN aN cI cJ cZ N_first N_second N_isCut N_wireClaim N_knotClaim N_turnSize N_turns N_knots N_wires N_power)) → va_S A s.heap H locs → ∀ ls : Array Slot, lv_has ls 4 [(0, .ref oW), (1, .ref oN)] → W p l e rX1_writeRows s m args below meth c H locs 0 0 (MQ below (dk_Qv (dC, dI) (dk_ty cI cJ cZ) (wX1 oW aW cI cJ cZ out W_heightOf W_currentOf W_placeOf W_isPlaced W_wide W_high W_treeCount ++ (wX4 oN aN cI cJ cZ N_first N_second N_isCut N_wireClaim N_knotClaim N_turnSize N_turns N_knots N_wires N_power)) A) args s 0 0 A) (F0 m 62 ls [])) (fun st y hy k1 k2 => tX1_writeRows_24 C hK hA hy k1 k2) n st r h hE
set_option maxHeartbeats 4000000 in
set_option maxRecDepth 100000 in
theorem tX1_writeRows_74 (C : dk_C p s m meth c args cX1_writeRows none 4 RX1 vsX1_writeRows) (hK : va_K (dC, dI) vwCl (dk_ty cI cJ cZ) s) (hA : ∀ q : Nat, s.heap.size ≤ q → A q) {out : (Nat → Int64)} {x2 : Int32} {st : Int32 × (Nat → Int64)} {y : ((Nat → Int64)) ⊕ (Int32 × (Nat → Int64))} (h : bX1_writeRows_74 N_first N_second N_isCut N_knots N_wires N_power x2 st = some y) (hE : ∀ z : (Nat → Int64), y = .inl z → ∀ (H : Heap) (locs : List Loc), va_P (dC, dI) vwCl (wX1 oW aW cI cJ cZ z W_heightOf W_currentOf W_placeOf W_isPlaced W_wide W_high W_treeCount ++ (wX4 oN aN cI cJ cZ N_first N_second N_isCut N_wireClaim N_knotClaim N_turnSize N_turns N_knots N_wires N_power)) H → va_D A (wX1 oW aW cI cJ cZ z W_heightOf W_currentOf W_placeOf W_isPlaced W_wide W_high W_treeCount ++ (wX4 oN aN cI cJ cZ N_first N_second N_isCut N_wireClaim N_knotClaim N_turnSize N_turns N_knots N_wires N_power)) → va_S A s.heap H locs → ∀ ls : Array Slot, lv_has ls 4 [(0, .ref oW), (1, .ref oN), (2, .int x2)] → W p l e rX1_writeRows s m args below meth c H locs 0 0 (MQ below (dk_Qv (dC, dI) (dk_ty cI cJ cZ) (wX1 oW aW cI cJ cZ out W_heightOf W_currentOf W_placeOf W_isPlaced W_wide W_high W_treeCount ++ (wX4 oN aN cI cJ cZ N_first N_second N_isCut N_wireClaim N_knotClaim N_turnSize N_turns N_knots N_wires N_power)) A) args s 0 0 A) (F0 m 112 ls [])) (hC : ∀ z : Int32 × (Nat → Int64), y = .inr z → ∀ (H : Heap) (locs : List Loc), va_P (dC, dI) vwCl (wX1 oW aW cI cJ cZ z.2 W_heightOf W_currentOf W_placeOf W_isPlaced W_wide W_high W_treeCount ++ (wX4 oN aN cI cJ cZ N_first N_second N_isCut N_wireClaim N_knotClaim N_turnSize N_turns N_knots N_wires N_power)) H → va_D A (wX1 oW aW cI cJ cZ z.2 W_heightOf W_currentOf W_placeOf W_isPlaced W_wide W_high W_treeCount ++ (wX4 oN aN cI cJ cZ N_first N_second N_isCut N_wireClaim N_knotClaim N_turnSize N_turns N_knots N_wires N_power)) → va_S A s.heap H locs → ∀ ls : Array Slot, lv_has ls 4 [(0, .ref oW), (1, .ref oN), (2, .int x2), (3, .int z.1)] → W p l e rX1_writeRows s m args below meth c H locs 0 0 (MQ below (dk_Qv (dC, dI) (dk_ty cI cJ cZ) (wX1 oW aW cI cJ cZ out W_heightOf W_currentOf W_placeOf W_isPlaced W_wide W_high W_treeCount ++ (wX4 oN aN cI cJ cZ N_first N_second N_isCut N_wireClaim N_knotClaim N_turnSize N_turns N_knots N_wires N_power)) A) args s 0 0 A) (F0 m 74 ls [])) : ∀ (H : Heap) (locs : List Loc), va_P (dC, dI) vwCl (wX1 oW aW cI cJ cZ st.2 W_heightOf W_currentOf W_placeOf W_isPlaced W_wide W_high W_treeCount ++ (wX4 oN aN cI cJ cZ N_first N_second N_isCut N_wireClaim N_knotClaim N_turnSize N_turns N_knots N_wires N_power)) H → va_D A (wX1 oW aW cI cJ cZ st.2 W_heightOf W_currentOf W_placeOf W_isPlaced W_wide W_high W_treeCount ++ (wX4 oN aN cI cJ cZ N_first N_second N_isCut N_wireClaim N_knotClaim N_turnSize N_turns N_knots N_wires N_power)) → va_S A s.heap H locs → ∀ ls : Array Slot, lv_has ls 4 [(0, .ref oW), (1, .ref oN), (2, .int x2), (3, .int st.1)] → W p l e rX1_writeRows s m args below meth c H locs 0 0 (MQ below (dk_Qv (dC, dI) (dk_ty cI cJ cZ) (wX1 oW aW cI cJ cZ out W_heightOf W_currentOf W_placeOf W_isPlaced W_wide W_high W_treeCount ++ (wX4 oN aN cI cJ cZ N_first N_second N_isCut N_wireClaim N_knotClaim N_turnSize N_turns N_knots N_wires N_power)) A) args s 0 0 A) (F0 m 74 ls []) := by
  obtain ⟨hx, hb, hr, hml, hown, hts, hlocks⟩ := id C
  intro H locs hP hD hS ls hl
  unfold bX1_writeRows_74 at h
  refine lv_iload_n hx hb dX1_writeRows_74 rfl (lv_at hl 3 rfl) ?_
  refine lv_aload_n hx hb dX1_writeRows_75 rfl (lv_at hl 1 rfl) ?_
  refine va_get (D := (dC, dI)) (ci := 4) (v := .int N_knots) (C := RX4) (T := TX4) (N := 10) hx hb hts qX1_writeRows_X4 hown hK hP 6 rfl rfl 7 (by decide) (hts _ qX1_writeRows_f53) (fun _ h9 => h9) rfl dX1_writeRows_76 ?_
  refine lv_icmp_ge (tgt := 112) hx hb dX1_writeRows_79 (by decide) (fun c_21 => ?_) (fun c_21 => ?_)
  · replace h := dk_it c_21 h
    exact hE _ (Option.some.inj h).symm _ _ hP hD hS ls (lv_sub hl [0, 1, 2] rfl)
  · replace h := dk_ie c_21 h
    refine lv_aload_n hx hb dX1_writeRows_82 rfl (lv_at hl 0 rfl) ?_
    refine va_get (D := (dC, dI)) (ci := 1) (v := .ref (aW 0)) (C := RX1) (T := TX1) (N := 8) hx hb hts qX1_writeRows_X1 hown hK hP 0 rfl rfl 0 (by decide) (hts _ qX1_writeRows_f11) (fun _ h9 => h9) rfl dX1_writeRows_83 ?_
    refine lv_iload_n hx hb dX1_writeRows_86 rfl (lv_at hl 2 rfl) ?_
    refine lv_bipush (v := 13) hx hb dX1_writeRows_87 (by decide) ?_
    refine lv_imul hx hb dX1_writeRows_89 ?_
    refine lv_iload_n hx hb dX1_writeRows_90 rfl (lv_at hl 3 rfl) ?_
    refine lv_iadd hx hb dX1_writeRows_91 ?_
    refine lv_lconst (v := 0) hx hb dX1_writeRows_92 (by decide) ?_
    obtain ⟨g_22, h⟩ := dk_gd_to h
    have g_22 := dk_in_to g_22
    refine va_last hx hb hK hP hD hS 1 1 rfl rfl g_22 dX1_writeRows_93 (fun H locs hP hD hS => ?_)
    obtain ⟨W_rows_23, eW_rows_23⟩ : ∃ z : Nat → Int64, z = vp_updL st.2 ((x2 * 13) + st.1).toNatClampNeg 0 := ⟨_, rfl⟩
    replace h := dk_let_to eW_rows_23 h
    have hP : va_P (dC, dI) vwCl (wX1 oW aW cI cJ cZ W_rows_23 W_heightOf W_currentOf W_placeOf W_isPlaced W_wide W_high W_treeCount ++ (wX4 oN aN cI cJ cZ N_first N_second N_isCut N_wireClaim N_knotClaim N_turnSize N_turns N_knots N_wires N_power)) H := by rw [eW_rows_23]; exact hP
    have hD : va_D A (wX1 oW aW cI cJ cZ W_rows_23 W_heightOf W_currentOf W_placeOf W_isPlaced W_wide W_high W_treeCount ++ (wX4 oN aN cI cJ cZ N_first N_second N_isCut N_wireClaim N_knotClaim N_turnSize N_turns N_knots N_wires N_power)) := by rw [eW_rows_23]; exact hD
    refine lv_aload_n hx hb dX1_writeRows_94 rfl (lv_at hl 0 rfl) ?_
    refine va_get (D := (dC, dI)) (ci := 1) (v := .ref (aW 0)) (C := RX1) (T := TX1) (N := 8) hx hb hts qX1_writeRows_X1 hown hK hP 0 rfl rfl 0 (by decide) (hts _ qX1_writeRows_f11) (fun _ h9 => h9) rfl dX1_writeRows_95 ?_
    refine lv_iload_n hx hb dX1_writeRows_98 rfl (lv_at hl 3 rfl) ?_
    refine lv_bipush (v := 13) hx hb dX1_writeRows_99 (by decide) ?_
    refine lv_imul hx hb dX1_writeRows_101 ?_
    refine lv_iload_n hx hb dX1_writeRows_102 rfl (lv_at hl 2 rfl) ?_
    refine lv_iadd hx hb dX1_writeRows_103 ?_
    refine lv_lconst (v := 0) hx hb dX1_writeRows_104 (by decide) ?_
    obtain ⟨g_24, h⟩ := dk_gd_to h
    have g_24 := dk_in_to g_24
    refine va_last hx hb hK hP hD hS 1 1 rfl rfl g_24 dX1_writeRows_105 (fun H locs hP hD hS => ?_)
    obtain ⟨W_rows_25, eW_rows_25⟩ : ∃ z : Nat → Int64, z = vp_updL W_rows_23 ((st.1 * 13) + x2).toNatClampNeg 0 := ⟨_, rfl⟩
    replace h := dk_let_to eW_rows_25 h
    have hP : va_P (dC, dI) vwCl (wX1 oW aW cI cJ cZ W_rows_25 W_heightOf W_currentOf W_placeOf W_isPlaced W_wide W_high W_treeCount ++ (wX4 oN aN cI cJ cZ N_first N_second N_isCut N_wireClaim N_knotClaim N_turnSize N_turns N_knots N_wires N_power)) H := by rw [eW_rows_25]; exact hP
    have hD : va_D A (wX1 oW aW cI cJ cZ W_rows_25 W_heightOf W_currentOf W_placeOf W_isPlaced W_wide W_high W_treeCount ++ (wX4 oN aN cI cJ cZ N_first N_second N_isCut N_wireClaim N_knotClaim N_turnSize N_turns N_knots N_wires N_power)) := by rw [eW_rows_25]; exact hD
    obtain ⟨x3_26, ex3_26⟩ : ∃ z : Int32, z = st.1 + 1 := ⟨_, rfl⟩
    replace h := dk_let_to ex3_26 h
    refine lv_iinc (v := x3_26) (lv' := [(3, .int x3_26), (0, .ref oW), (1, .ref oN), (2, .int x2)]) hx hb dX1_writeRows_106 hl (k := 3) rfl (by rw [ex3_26]; rfl) (by decide) rfl (fun ls hl => ?_)
    refine lv_goto (tgt := 74) hx hb dX1_writeRows_109 (by decide) ?_
    exact hC _ (Option.some.inj h).symm _ _ hP hD hS ls (lv_sub hl [1, 2, 3, 0] rfl)
set_option maxHeartbeats 4000000 in
set_option maxRecDepth 100000 in
theorem lX1_writeRows_74 (C : dk_C p s m meth c args cX1_writeRows none 4 RX1 vsX1_writeRows) (hK : va_K (dC, dI) vwCl (dk_ty cI cJ cZ) s) (hA : ∀ q : Nat, s.heap.size ≤ q → A q) {out : (Nat → Int64)} {x2 : Int32} {n : Nat} {st : Int32 × (Nat → Int64)} {r : (Nat → Int64)} (h : dk_loop (bX1_writeRows_74 N_first N_second N_isCut N_knots N_wires N_power x2) n st = some r) (hE : ∀ (H : Heap) (locs : List Loc), va_P (dC, dI) vwCl (wX1 oW aW cI cJ cZ r W_heightOf W_currentOf W_placeOf W_isPlaced W_wide W_high W_treeCount ++ (wX4 oN aN cI cJ cZ N_first N_second N_isCut N_wireClaim N_knotClaim N_turnSize N_turns N_knots N_wires N_power)) H → va_D A (wX1 oW aW cI cJ cZ r W_heightOf W_currentOf W_placeOf W_isPlaced W_wide W_high W_treeCount ++ (wX4 oN aN cI cJ cZ N_first N_second N_isCut N_wireClaim N_knotClaim N_turnSize N_turns N_knots N_wires N_power)) → va_S A s.heap H locs → ∀ ls : Array Slot, lv_has ls 4 [(0, .ref oW), (1, .ref oN), (2, .int x2)] → W p l e rX1_writeRows s m args below meth c H locs 0 0 (MQ below (dk_Qv (dC, dI) (dk_ty cI cJ cZ) (wX1 oW aW cI cJ cZ out W_heightOf W_currentOf W_placeOf W_isPlaced W_wide W_high W_treeCount ++ (wX4 oN aN cI cJ cZ N_first N_second N_isCut N_wireClaim N_knotClaim N_turnSize N_turns N_knots N_wires N_power)) A) args s 0 0 A) (F0 m 112 ls [])) : ∀ (H : Heap) (locs : List Loc), va_P (dC, dI) vwCl (wX1 oW aW cI cJ cZ st.2 W_heightOf W_currentOf W_placeOf W_isPlaced W_wide W_high W_treeCount ++ (wX4 oN aN cI cJ cZ N_first N_second N_isCut N_wireClaim N_knotClaim N_turnSize N_turns N_knots N_wires N_power)) H → va_D A (wX1 oW aW cI cJ cZ st.2 W_heightOf W_currentOf W_placeOf W_isPlaced W_wide W_high W_treeCount ++ (wX4 oN aN cI cJ cZ N_first N_second N_isCut N_wireClaim N_knotClaim N_turnSize N_turns N_knots N_wires N_power)) → va_S A s.heap H locs → ∀ ls : Array Slot, lv_has ls 4 [(0, .ref oW), (1, .ref oN), (2, .int x2), (3, .int st.1)] → W p l e rX1_writeRows s m args below meth c H locs 0 0 (MQ below (dk_Qv (dC, dI) (dk_ty cI cJ cZ) (wX1 oW aW cI cJ cZ out W_heightOf W_currentOf W_placeOf W_isPlaced W_wide W_high W_treeCount ++ (wX4 oN aN cI cJ cZ N_first N_second N_isCut N_wireClaim N_knotClaim N_turnSize N_turns N_knots N_wires N_power)) A) args s 0 0 A) (F0 m 74 ls []) :=
  dk_loopW (P := fun st => ∀ (H : Heap) (locs : List Loc), va_P (dC, dI) vwCl (wX1 oW aW cI cJ cZ st.2 W_heightOf W_currentOf W_placeOf W_isPlaced W_wide W_high W_treeCount ++ (wX4 oN aN cI cJ cZ N_first N_second N_isCut N_wireClaim N_knotClaim N_turnSize N_turns N_knots N_wires N_power)) H → va_D A (wX1 oW aW cI cJ cZ st.2 W_heightOf W_currentOf W_placeOf W_isPlaced W_wide W_high W_treeCount ++ (wX4 oN aN cI cJ cZ N_first N_second N_isCut N_wireClaim N_knotClaim N_turnSize N_turns N_knots N_wires N_power)) → va_S A s.heap H locs → ∀ ls : Array Slot, lv_has ls 4 [(0, .ref oW), (1, .ref oN), (2, .int x2), (3, .int st.1)] → W p l e rX1_writeRows s m args below meth c H locs 0 0 (MQ below (dk_Qv (dC, dI) (dk_ty cI cJ cZ) (wX1 oW aW cI cJ cZ out W_heightOf W_currentOf W_placeOf W_isPlaced W_wide W_high W_treeCount ++ (wX4 oN aN cI cJ cZ N_first N_second N_isCut N_wireClaim N_knotClaim N_turnSize N_turns N_knots N_wires N_power)) A) args s 0 0 A) (F0 m 74 ls [])) (K := fun r => ∀ (H : Heap) (locs : List Loc), va_P (dC, dI) vwCl (wX1 oW aW cI cJ cZ r W_heightOf W_currentOf W_placeOf W_isPlaced W_wide W_high W_treeCount ++ (wX4 oN aN cI cJ cZ N_first N_second N_isCut N_wireClaim N_knotClaim N_turnSize N_turns N_knots N_wires N_power)) H → va_D A (wX1 oW aW cI cJ cZ r W_heightOf W_currentOf W_placeOf W_isPlaced W_wide W_high W_treeCount ++ (wX4 oN aN cI cJ cZ N_first N_second N_isCut N_wireClaim N_knotClaim N_turnSize N_turns N_knots N_wires N_power)) → va_S A s.heap H locs → ∀ ls : Array Slot, lv_has ls 4 [(0, .ref oW), (1, .ref oN), (2, .int x2)] → W p l e rX1_writeRows s m args below meth c H locs 0 0 (MQ below (dk_Qv (dC, dI) (dk_ty cI cJ cZ) (wX1 oW aW cI cJ cZ out W_heightOf W_currentOf W_placeOf W_isPlaced W_wide W_high W_treeCount ++ (wX4 oN aN cI cJ cZ N_first N_second N_isCut N_wireClaim N_knotClaim N_turnSize N_turns N_knots N_wires N_power)) A) args s 0 0 A) (F0 m 112 ls [])) (fun st y hy k1 k2 => tX1_writeRows_74 C hK hA hy k1 k2) n st r h hE
end
set_option maxHeartbeats 4000000 in
set_option maxRecDepth 100000 in
theorem mX1_writeRows (l : Launch) (dC : Nat → ClassId) (dI : Nat → Nat → Nat) (cI cJ cZ : ClassId) {oW : Nat} {aW : Nat → Nat} {oN : Nat} {aN : Nat → Nat} {W_rows : Nat → Int64} {W_heightOf W_currentOf W_placeOf W_isPlaced : Nat → Int32} {W_wide W_high : Int32} {W_treeCount : Int64} {N_first N_second N_isCut N_wireClaim N_knotClaim N_turnSize N_turns : Nat → Int32} {N_knots N_wires N_power : Int32} {out : (Nat → Int64)} (h : fX1_writeRows W_rows N_first N_second N_isCut N_knots N_wires N_power = some out) (sz : Nat) : Met l yX1_writeRows vsX1_writeRows rX1_writeRows (va_Pc [.ref oW, .ref oN] (dk_Pre (dC, dI) (dk_ty cI cJ cZ) (wX1 oW aW cI cJ cZ W_rows W_heightOf W_currentOf W_placeOf W_isPlaced W_wide W_high W_treeCount ++ (wX4 oN aN cI cJ cZ N_first N_second N_isCut N_wireClaim N_knotClaim N_turnSize N_turns N_knots N_wires N_power)) sz)) (dk_Qv (dC, dI) (dk_ty cI cJ cZ) (wX1 oW aW cI cJ cZ out W_heightOf W_currentOf W_placeOf W_isPlaced W_wide W_high W_treeCount ++ (wX4 oN aN cI cJ cZ N_first N_second N_isCut N_wireClaim N_knotClaim N_turnSize N_turns N_knots N_wires N_power)) (va_A (wX1 oW aW cI cJ cZ W_rows W_heightOf W_currentOf W_placeOf W_isPlaced W_wide W_high W_treeCount ++ (wX4 oN aN cI cJ cZ N_first N_second N_isCut N_wireClaim N_knotClaim N_turnSize N_turns N_knots N_wires N_power)) sz)) 0 0 (va_A (wX1 oW aW cI cJ cZ W_rows W_heightOf W_currentOf W_placeOf W_isPlaced W_wide W_high W_treeCount ++ (wX4 oN aN cI cJ cZ N_first N_second N_isCut N_wireClaim N_knotClaim N_turnSize N_turns N_knots N_wires N_power)) sz) := by
  refine dk_met (cc := cX1_writeRows) (maxL := 4) (ret := none) (Qc := fun A => dk_Qv (dC, dI) (dk_ty cI cJ cZ) (wX1 oW aW cI cJ cZ out W_heightOf W_currentOf W_placeOf W_isPlaced W_wide W_high W_treeCount ++ (wX4 oN aN cI cJ cZ N_first N_second N_isCut N_wireClaim N_knotClaim N_turnSize N_turns N_knots N_wires N_power)) A) (by decide) rfl (Nat.le_of_ble_eq_true rfl) ?_
  intro p e s m below meth c A C hnm hA hK hP hD hS ls hl
  have C : dk_C p s m meth c _ cX1_writeRows none 4 RX1 vsX1_writeRows := C
  obtain ⟨hx, hb, hr, hml, hown, hts, hlocks⟩ := id C
  have hl : lv_has ls 4 [(0, .ref oW), (1, .ref oN)] := hl
  unfold fX1_writeRows at h
  refine lv_iconst (v := 0) hx hb dX1_writeRows_0 (by decide) ?_
  refine lv_istore_n (lv' := [(2, .int 0), (0, .ref oW), (1, .ref oN)]) hx hb dX1_writeRows_1 rfl hl (by decide) rfl (fun ls hl => ?_)
  obtain ⟨r_1, hLr_1, h⟩ := dk_bnd_to h
  refine lX1_writeRows_2 C hK hA hLr_1 (fun H locs hP hD hS ls hl => ?_) _ _ hP hD hS ls (lv_sub hl [1, 2, 0] rfl)
  refine lv_iconst (v := 0) hx hb dX1_writeRows_22 (by decide) ?_
  refine lv_istore_n (lv' := [(2, .int 0), (0, .ref oW), (1, .ref oN)]) hx hb dX1_writeRows_23 rfl hl (by decide) rfl (fun ls hl => ?_)
  obtain ⟨r_2, hLr_2, h⟩ := dk_bnd_to h
  refine lX1_writeRows_24 C hK hA hLr_2 (fun H locs hP hD hS ls hl => ?_) _ _ hP hD hS ls (lv_sub hl [1, 2, 0] rfl)
  refine lv_aload_n hx hb dX1_writeRows_62 rfl (lv_at hl 1 rfl) ?_
  refine va_get (D := (dC, dI)) (ci := 4) (v := .ref (aN 1)) (C := RX4) (T := TX4) (N := 10) hx hb hts qX1_writeRows_X4 hown hK hP 6 rfl rfl 1 (by decide) (hts _ qX1_writeRows_f79) (fun _ h9 => h9) rfl dX1_writeRows_63 ?_
  refine lv_aload_n hx hb dX1_writeRows_66 rfl (lv_at hl 1 rfl) ?_
  refine va_get (D := (dC, dI)) (ci := 4) (v := .int N_power) (C := RX4) (T := TX4) (N := 10) hx hb hts qX1_writeRows_X4 hown hK hP 6 rfl rfl 9 (by decide) (hts _ qX1_writeRows_f40) (fun _ h9 => h9) rfl dX1_writeRows_67 ?_
  obtain ⟨g_3, h⟩ := dk_gd_to h
  have g_3 := dk_in_to g_3
  refine va_iald hx hb hK hP 8 0 rfl rfl g_3 dX1_writeRows_70 ?_
  refine lv_topi (fun x2_4 ex2_4 => ?_)
  replace h := dk_let_to ex2_4 h
  refine lv_istore_n (lv' := [(2, .int x2_4), (0, .ref oW), (1, .ref oN)]) hx hb dX1_writeRows_71 rfl hl (by decide) rfl (fun ls hl => ?_)
  refine lv_iconst (v := 0) hx hb dX1_writeRows_72 (by decide) ?_
  refine lv_istore_n (lv' := [(3, .int 0), (2, .int x2_4), (0, .ref oW), (1, .ref oN)]) hx hb dX1_writeRows_73 rfl hl (by decide) rfl (fun ls hl => ?_)
  obtain ⟨r_5, hLr_5, h⟩ := dk_bnd_to h
  refine lX1_writeRows_74 C hK hA hLr_5 (fun H locs hP hD hS ls hl => ?_) _ _ hP hD hS ls (lv_sub hl [2, 3, 1, 0] rfl)
  refine lv_aload_n hx hb dX1_writeRows_112 rfl (lv_at hl 0 rfl) ?_
  refine va_get (D := (dC, dI)) (ci := 1) (v := .ref (aW 0)) (C := RX1) (T := TX1) (N := 8) hx hb hts qX1_writeRows_X1 hown hK hP 0 rfl rfl 0 (by decide) (hts _ qX1_writeRows_f11) (fun _ h9 => h9) rfl dX1_writeRows_113 ?_
  refine lv_iload_n hx hb dX1_writeRows_116 rfl (lv_at hl 2 rfl) ?_
  refine lv_bipush (v := 13) hx hb dX1_writeRows_117 (by decide) ?_
  refine lv_imul hx hb dX1_writeRows_119 ?_
  refine lv_iload_n hx hb dX1_writeRows_120 rfl (lv_at hl 2 rfl) ?_
  refine lv_iadd hx hb dX1_writeRows_121 ?_
  refine lv_lconst (v := 1) hx hb dX1_writeRows_122 (by decide) ?_
  obtain ⟨g_6, h⟩ := dk_gd_to h
  have g_6 := dk_in_to g_6
  refine va_last hx hb hK hP hD hS 1 1 rfl rfl g_6 dX1_writeRows_123 (fun H locs hP hD hS => ?_)
  obtain ⟨W_rows_7, eW_rows_7⟩ : ∃ z : Nat → Int64, z = vp_updL r_5 ((x2_4 * 13) + x2_4).toNatClampNeg 1 := ⟨_, rfl⟩
  replace h := dk_let_to eW_rows_7 h
  have hP : va_P (dC, dI) vwCl (wX1 oW aW cI cJ cZ W_rows_7 W_heightOf W_currentOf W_placeOf W_isPlaced W_wide W_high W_treeCount ++ (wX4 oN aN cI cJ cZ N_first N_second N_isCut N_wireClaim N_knotClaim N_turnSize N_turns N_knots N_wires N_power)) H := by rw [eW_rows_7]; exact hP
  have hD : va_D A (wX1 oW aW cI cJ cZ W_rows_7 W_heightOf W_currentOf W_placeOf W_isPlaced W_wide W_high W_treeCount ++ (wX4 oN aN cI cJ cZ N_first N_second N_isCut N_wireClaim N_knotClaim N_turnSize N_turns N_knots N_wires N_power)) := by rw [eW_rows_7]; exact hD
  refine lv_aload_n hx hb dX1_writeRows_124 rfl (lv_at hl 0 rfl) ?_
  refine va_get (D := (dC, dI)) (ci := 1) (v := .ref (aW 0)) (C := RX1) (T := TX1) (N := 8) hx hb hts qX1_writeRows_X1 hown hK hP 0 rfl rfl 0 (by decide) (hts _ qX1_writeRows_f11) (fun _ h9 => h9) rfl dX1_writeRows_125 ?_
  refine lv_aload_n hx hb dX1_writeRows_128 rfl (lv_at hl 1 rfl) ?_
  refine va_get (D := (dC, dI)) (ci := 4) (v := .ref (aN 0)) (C := RX4) (T := TX4) (N := 10) hx hb hts qX1_writeRows_X4 hown hK hP 6 rfl rfl 0 (by decide) (hts _ qX1_writeRows_f66) (fun _ h9 => h9) rfl dX1_writeRows_129 ?_
  refine lv_aload_n hx hb dX1_writeRows_132 rfl (lv_at hl 1 rfl) ?_
  refine va_get (D := (dC, dI)) (ci := 4) (v := .int N_power) (C := RX4) (T := TX4) (N := 10) hx hb hts qX1_writeRows_X4 hown hK hP 6 rfl rfl 9 (by decide) (hts _ qX1_writeRows_f40) (fun _ h9 => h9) rfl dX1_writeRows_133 ?_
  obtain ⟨g_8, h⟩ := dk_gd_to h
  have g_8 := dk_in_to g_8
  refine va_iald hx hb hK hP 7 0 rfl rfl g_8 dX1_writeRows_136 ?_
  refine lv_bipush (v := 13) hx hb dX1_writeRows_137 (by decide) ?_
  refine lv_imul hx hb dX1_writeRows_139 ?_
  refine lv_aload_n hx hb dX1_writeRows_140 rfl (lv_at hl 1 rfl) ?_
  refine va_get (D := (dC, dI)) (ci := 4) (v := .int N_knots) (C := RX4) (T := TX4) (N := 10) hx hb hts qX1_writeRows_X4 hown hK hP 6 rfl rfl 7 (by decide) (hts _ qX1_writeRows_f53) (fun _ h9 => h9) rfl dX1_writeRows_141 ?_
  refine lv_iadd hx hb dX1_writeRows_144 ?_
  refine lv_lconst (v := 1) hx hb dX1_writeRows_145 (by decide) ?_
  obtain ⟨g_9, h⟩ := dk_gd_to h
  have g_9 := dk_in_to g_9
  refine va_last hx hb hK hP hD hS 1 1 rfl rfl g_9 dX1_writeRows_146 (fun H locs hP hD hS => ?_)
  obtain ⟨W_rows_10, eW_rows_10⟩ : ∃ z : Nat → Int64, z = vp_updL W_rows_7 (((N_first N_power.toNatClampNeg) * 13) + N_knots).toNatClampNeg 1 := ⟨_, rfl⟩
  replace h := dk_let_to eW_rows_10 h
  have hP : va_P (dC, dI) vwCl (wX1 oW aW cI cJ cZ W_rows_10 W_heightOf W_currentOf W_placeOf W_isPlaced W_wide W_high W_treeCount ++ (wX4 oN aN cI cJ cZ N_first N_second N_isCut N_wireClaim N_knotClaim N_turnSize N_turns N_knots N_wires N_power)) H := by rw [eW_rows_10]; exact hP
  have hD : va_D A (wX1 oW aW cI cJ cZ W_rows_10 W_heightOf W_currentOf W_placeOf W_isPlaced W_wide W_high W_treeCount ++ (wX4 oN aN cI cJ cZ N_first N_second N_isCut N_wireClaim N_knotClaim N_turnSize N_turns N_knots N_wires N_power)) := by rw [eW_rows_10]; exact hD
  have e9 := Option.some.inj h
  subst e9
  exact dk_vret C hK hP hD hS dX1_writeRows_147
/-! ===== SquareTiler$Flow.solve ===== -/
abbrev rX1_solve : Room := { frames := 3, cells := 0, slots := 0, locals := 94 }
def ovX1_solve : List Cond := [Cond.fieldLink RX1 40 "SquareTiler$Net" "power" "I", Cond.fieldLink RX1 53 "SquareTiler$Net" "knots" "I", Cond.fieldLink RX1 15 "SquareTiler$Flow" "heightOf" "[I", Cond.fieldLink RX1 66 "SquareTiler$Net" "first" "[I", Cond.fieldLink RX1 33 "SquareTiler$Flow" "high" "I", Cond.methodLink RX1 45 yX4_isWire, Cond.instanceMethod yX4_isWire, Cond.selects RX4 yX4_isWire yX4_isWire, Cond.initialized RX4, Cond.methodLink RX1 49 yX1_writeRows, Cond.instanceMethod yX1_writeRows, Cond.selects RX1 yX1_writeRows yX1_writeRows, Cond.initialized RX1, Cond.methodLink RX1 56 yX1_eliminate, Cond.instanceMethod yX1_eliminate, Cond.selects RX1 yX1_eliminate yX1_eliminate, Cond.methodLink RX1 60 yX1_takeHeights, Cond.instanceMethod yX1_takeHeights, Cond.selects RX1 yX1_takeHeights yX1_takeHeights, Cond.methodLink RX1 63 yX1_takeCurrents, Cond.instanceMethod yX1_takeCurrents, Cond.selects RX1 yX1_takeCurrents yX1_takeCurrents, Cond.methodLink RX1 69 yX1_placeFaces, Cond.instanceMethod yX1_placeFaces, Cond.selects RX1 yX1_placeFaces yX1_placeFaces]
def vsX1_solve : List Cond := .code yX1_solve cX1_solve 3 none :: (ovX1_solve ++ (wsX40 ++ (wsX10 ++ (vsX4_isWire ++ (vsX1_writeRows ++ (vsX1_eliminate ++ (vsX1_takeHeights ++ (vsX1_takeCurrents ++ (vsX1_placeFaces ++ [])))))))))
theorem qX1_solve_f40 : Cond.fieldLink RX1 40 "SquareTiler$Net" "power" "I" ∈ vsX1_solve := List.mem_cons_of_mem _ (List.mem_append_left _ (List.mem_of_getElem? (i := 0) rfl))
theorem qX1_solve_f53 : Cond.fieldLink RX1 53 "SquareTiler$Net" "knots" "I" ∈ vsX1_solve := List.mem_cons_of_mem _ (List.mem_append_left _ (List.mem_of_getElem? (i := 1) rfl))
theorem qX1_solve_f15 : Cond.fieldLink RX1 15 "SquareTiler$Flow" "heightOf" "[I" ∈ vsX1_solve := List.mem_cons_of_mem _ (List.mem_append_left _ (List.mem_of_getElem? (i := 2) rfl))
theorem qX1_solve_f66 : Cond.fieldLink RX1 66 "SquareTiler$Net" "first" "[I" ∈ vsX1_solve := List.mem_cons_of_mem _ (List.mem_append_left _ (List.mem_of_getElem? (i := 3) rfl))
theorem qX1_solve_f33 : Cond.fieldLink RX1 33 "SquareTiler$Flow" "high" "I" ∈ vsX1_solve := List.mem_cons_of_mem _ (List.mem_append_left _ (List.mem_of_getElem? (i := 4) rfl))
theorem qX1_solve_w5 : Cond.methodLink RX1 45 yX4_isWire ∈ vsX1_solve := List.mem_cons_of_mem _ (List.mem_append_left _ (List.mem_of_getElem? (i := 5) rfl))
theorem qX1_solve_w6 : Cond.instanceMethod yX4_isWire ∈ vsX1_solve := List.mem_cons_of_mem _ (List.mem_append_left _ (List.mem_of_getElem? (i := 6) rfl))
theorem qX1_solve_w7 : Cond.selects RX4 yX4_isWire yX4_isWire ∈ vsX1_solve := List.mem_cons_of_mem _ (List.mem_append_left _ (List.mem_of_getElem? (i := 7) rfl))
theorem qX1_solve_w8 : Cond.initialized RX4 ∈ vsX1_solve := List.mem_cons_of_mem _ (List.mem_append_left _ (List.mem_of_getElem? (i := 8) rfl))
theorem qX1_solve_w9 : Cond.methodLink RX1 49 yX1_writeRows ∈ vsX1_solve := List.mem_cons_of_mem _ (List.mem_append_left _ (List.mem_of_getElem? (i := 9) rfl))
theorem qX1_solve_w10 : Cond.instanceMethod yX1_writeRows ∈ vsX1_solve := List.mem_cons_of_mem _ (List.mem_append_left _ (List.mem_of_getElem? (i := 10) rfl))
theorem qX1_solve_w11 : Cond.selects RX1 yX1_writeRows yX1_writeRows ∈ vsX1_solve := List.mem_cons_of_mem _ (List.mem_append_left _ (List.mem_of_getElem? (i := 11) rfl))
theorem qX1_solve_w12 : Cond.initialized RX1 ∈ vsX1_solve := List.mem_cons_of_mem _ (List.mem_append_left _ (List.mem_of_getElem? (i := 12) rfl))
theorem qX1_solve_w13 : Cond.methodLink RX1 56 yX1_eliminate ∈ vsX1_solve := List.mem_cons_of_mem _ (List.mem_append_left _ (List.mem_of_getElem? (i := 13) rfl))
theorem qX1_solve_w14 : Cond.instanceMethod yX1_eliminate ∈ vsX1_solve := List.mem_cons_of_mem _ (List.mem_append_left _ (List.mem_of_getElem? (i := 14) rfl))
theorem qX1_solve_w15 : Cond.selects RX1 yX1_eliminate yX1_eliminate ∈ vsX1_solve := List.mem_cons_of_mem _ (List.mem_append_left _ (List.mem_of_getElem? (i := 15) rfl))
theorem qX1_solve_w16 : Cond.methodLink RX1 60 yX1_takeHeights ∈ vsX1_solve := List.mem_cons_of_mem _ (List.mem_append_left _ (List.mem_of_getElem? (i := 16) rfl))
theorem qX1_solve_w17 : Cond.instanceMethod yX1_takeHeights ∈ vsX1_solve := List.mem_cons_of_mem _ (List.mem_append_left _ (List.mem_of_getElem? (i := 17) rfl))
theorem qX1_solve_w18 : Cond.selects RX1 yX1_takeHeights yX1_takeHeights ∈ vsX1_solve := List.mem_cons_of_mem _ (List.mem_append_left _ (List.mem_of_getElem? (i := 18) rfl))
theorem qX1_solve_w19 : Cond.methodLink RX1 63 yX1_takeCurrents ∈ vsX1_solve := List.mem_cons_of_mem _ (List.mem_append_left _ (List.mem_of_getElem? (i := 19) rfl))
theorem qX1_solve_w20 : Cond.instanceMethod yX1_takeCurrents ∈ vsX1_solve := List.mem_cons_of_mem _ (List.mem_append_left _ (List.mem_of_getElem? (i := 20) rfl))
theorem qX1_solve_w21 : Cond.selects RX1 yX1_takeCurrents yX1_takeCurrents ∈ vsX1_solve := List.mem_cons_of_mem _ (List.mem_append_left _ (List.mem_of_getElem? (i := 21) rfl))
theorem qX1_solve_w22 : Cond.methodLink RX1 69 yX1_placeFaces ∈ vsX1_solve := List.mem_cons_of_mem _ (List.mem_append_left _ (List.mem_of_getElem? (i := 22) rfl))
theorem qX1_solve_w23 : Cond.instanceMethod yX1_placeFaces ∈ vsX1_solve := List.mem_cons_of_mem _ (List.mem_append_left _ (List.mem_of_getElem? (i := 23) rfl))
theorem qX1_solve_w24 : Cond.selects RX1 yX1_placeFaces yX1_placeFaces ∈ vsX1_solve := List.mem_cons_of_mem _ (List.mem_append_left _ (List.mem_of_getElem? (i := 24) rfl))
theorem qX1_solve_X4 : ∀ w ∈ u_ws RX4 TX4 10, w ∈ vsX1_solve := fun w h => List.mem_cons_of_mem _ (List.mem_append_right _ (List.mem_append_left _ h))
theorem qX1_solve_X1 : ∀ w ∈ u_ws RX1 TX1 8, w ∈ vsX1_solve := fun w h => List.mem_cons_of_mem _ (List.mem_append_right _ (List.mem_append_right _ (List.mem_append_left _ h)))
theorem gd_vsX1_solve : ∀ w ∈ vsX1_solve, goodWord w = true := dk_cons rfl (dk_app (dk_all (by decide +kernel)) (dk_app gd_wsX40 (dk_app gd_wsX10 (dk_app gd_vsX4_isWire (dk_app gd_vsX1_writeRows (dk_app gd_vsX1_eliminate (dk_app gd_vsX1_takeHeights (dk_app gd_vsX1_takeCurrents (dk_app gd_vsX1_placeFaces dk_nil)))))))))
theorem gvX1_solve_X4_isWire : GoodIn vsX1_solve (wsV RX1 45 RX4 yX4_isWire vsX4_isWire) := goodIn_app (dk_g4 qX1_solve_w5 qX1_solve_w6 qX1_solve_w7 qX1_solve_w8 rfl) (dk_gIn (fun w h => List.mem_cons_of_mem _ (List.mem_append_right _ (List.mem_append_right _ (List.mem_append_right _ (List.mem_append_left _ h))))) gd_vsX4_isWire)
theorem gvX1_solve_X1_writeRows : GoodIn vsX1_solve (wsV RX1 49 RX1 yX1_writeRows vsX1_writeRows) := goodIn_app (dk_g4 qX1_solve_w9 qX1_solve_w10 qX1_solve_w11 qX1_solve_w12 rfl) (dk_gIn (fun w h => List.mem_cons_of_mem _ (List.mem_append_right _ (List.mem_append_right _ (List.mem_append_right _ (List.mem_append_right _ (List.mem_append_left _ h)))))) gd_vsX1_writeRows)
theorem gvX1_solve_X1_eliminate : GoodIn vsX1_solve (wsV RX1 56 RX1 yX1_eliminate vsX1_eliminate) := goodIn_app (dk_g4 qX1_solve_w13 qX1_solve_w14 qX1_solve_w15 qX1_solve_w12 rfl) (dk_gIn (fun w h => List.mem_cons_of_mem _ (List.mem_append_right _ (List.mem_append_right _ (List.mem_append_right _ (List.mem_append_right _ (List.mem_append_right _ (List.mem_append_left _ h))))))) gd_vsX1_eliminate)
theorem gvX1_solve_X1_takeHeights : GoodIn vsX1_solve (wsV RX1 60 RX1 yX1_takeHeights vsX1_takeHeights) := goodIn_app (dk_g4 qX1_solve_w16 qX1_solve_w17 qX1_solve_w18 qX1_solve_w12 rfl) (dk_gIn (fun w h => List.mem_cons_of_mem _ (List.mem_append_right _ (List.mem_append_right _ (List.mem_append_right _ (List.mem_append_right _ (List.mem_append_right _ (List.mem_append_right _ (List.mem_append_left _ h)))))))) gd_vsX1_takeHeights)
theorem gvX1_solve_X1_takeCurrents : GoodIn vsX1_solve (wsV RX1 63 RX1 yX1_takeCurrents vsX1_takeCurrents) := goodIn_app (dk_g4 qX1_solve_w19 qX1_solve_w20 qX1_solve_w21 qX1_solve_w12 rfl) (dk_gIn (fun w h => List.mem_cons_of_mem _ (List.mem_append_right _ (List.mem_append_right _ (List.mem_append_right _ (List.mem_append_right _ (List.mem_append_right _ (List.mem_append_right _ (List.mem_append_right _ (List.mem_append_left _ h))))))))) gd_vsX1_takeCurrents)
theorem gvX1_solve_X1_placeFaces : GoodIn vsX1_solve (wsV RX1 69 RX1 yX1_placeFaces vsX1_placeFaces) := goodIn_app (dk_g4 qX1_solve_w22 qX1_solve_w23 qX1_solve_w24 qX1_solve_w12 rfl) (dk_gIn (fun w h => List.mem_cons_of_mem _ (List.mem_append_right _ (List.mem_append_right _ (List.mem_append_right _ (List.mem_append_right _ (List.mem_append_right _ (List.mem_append_right _ (List.mem_append_right _ (List.mem_append_right _ (List.mem_append_left _ h)))))))))) gd_vsX1_placeFaces)
def fX1_solve (W_rows : Nat → Int64) (W_heightOf W_currentOf W_placeOf W_isPlaced : Nat → Int32) (W_wide W_high : Int32) (W_treeCount : Int64) (N_first N_second N_isCut : Nat → Int32) (N_knots N_wires N_power : Int32) (F_faceOf : Nat → Int32) (F_howMany : Int32) : Option ((Nat → Int64) × (Nat → Int32) × (Nat → Int32) × (Nat → Int32) × (Nat → Int32) × Int32 × Int32 × Int64) := dk_bnd (fX4_isWire N_wires N_power) (fun r_1 => if r_1 = 0 then some (W_rows, W_heightOf, W_currentOf, W_placeOf, W_isPlaced, W_wide, W_high, W_treeCount) else dk_bnd (fX1_writeRows W_rows N_first N_second N_isCut N_knots N_wires N_power) (fun r_3 => dk_bnd (fX1_eliminate r_3 W_treeCount N_knots) (fun r_4 => dk_bnd (fX1_takeHeights r_4.1 W_heightOf N_knots) (fun r_5 => dk_bnd (fX1_takeCurrents r_5 W_currentOf W_wide N_first N_second N_isCut N_wires N_power) (fun r_6 => dk_gd (dk_in N_power 22) (dk_gd (dk_in (N_first N_power.toNatClampNeg) 12) (dk_let ((r_5 (N_first N_power.toNatClampNeg).toNatClampNeg)) (fun W_high_9 => dk_bnd (fX1_placeFaces r_6.1 W_placeOf W_isPlaced N_wires N_power F_faceOf F_howMany) (fun r_10 => some (r_4.1, r_5, r_6.1, r_10.1, r_10.2, r_6.2, W_high_9, r_4.2))))))))))
section
variable {p : Program} {l : Launch} {e : Env} {s : State} {m : MethodId} {args : Array Value} {below : List Frame} {meth : Method} {c : Code} {dC : Nat → ClassId} {dI : Nat → Nat → Nat} {cI cJ cZ : ClassId} {A : Nat → Prop} {oW : Nat} {aW : Nat → Nat} {oN : Nat} {aN : Nat → Nat} {oF : Nat} {aF : Nat → Nat} {W_rows : Nat → Int64} {W_heightOf W_currentOf W_placeOf W_isPlaced : Nat → Int32} {W_wide W_high : Int32} {W_treeCount : Int64} {N_first N_second N_isCut N_wireClaim N_knotClaim N_turnSize N_turns : Nat → Int32} {N_knots N_wires N_power : Int32} {F_faceOf F_dartAhead : Nat → Int32} {F_howMany : Int32}
end
set_option maxHeartbeats 4000000 in
set_option maxRecDepth 100000 in
theorem mX1_solve (l : Launch) (dC : Nat → ClassId) (dI : Nat → Nat → Nat) (cI cJ cZ : ClassId) {oW : Nat} {aW : Nat → Nat} {oN : Nat} {aN : Nat → Nat} {oF : Nat} {aF : Nat → Nat} {W_rows : Nat → Int64} {W_heightOf W_currentOf W_placeOf W_isPlaced : Nat → Int32} {W_wide W_high : Int32} {W_treeCount : Int64} {N_first N_second N_isCut N_wireClaim N_knotClaim N_turnSize N_turns : Nat → Int32} {N_knots N_wires N_power : Int32} {F_faceOf F_dartAhead : Nat → Int32} {F_howMany : Int32} {out : (Nat → Int64) × (Nat → Int32) × (Nat → Int32) × (Nat → Int32) × (Nat → Int32) × Int32 × Int32 × Int64} (h : fX1_solve W_rows W_heightOf W_currentOf W_placeOf W_isPlaced W_wide W_high W_treeCount N_first N_second N_isCut N_knots N_wires N_power F_faceOf F_howMany = some out) (sz : Nat) : Met l yX1_solve vsX1_solve rX1_solve (va_Pc [.ref oW, .ref oN, .ref oF] (dk_Pre (dC, dI) (dk_ty cI cJ cZ) (wX1 oW aW cI cJ cZ W_rows W_heightOf W_currentOf W_placeOf W_isPlaced W_wide W_high W_treeCount ++ (wX4 oN aN cI cJ cZ N_first N_second N_isCut N_wireClaim N_knotClaim N_turnSize N_turns N_knots N_wires N_power ++ (wX0 oF aF cI cJ cZ F_faceOf F_dartAhead F_howMany))) sz)) (dk_Qv (dC, dI) (dk_ty cI cJ cZ) (wX1 oW aW cI cJ cZ out.1 out.2.1 out.2.2.1 out.2.2.2.1 out.2.2.2.2.1 out.2.2.2.2.2.1 out.2.2.2.2.2.2.1 out.2.2.2.2.2.2.2 ++ (wX4 oN aN cI cJ cZ N_first N_second N_isCut N_wireClaim N_knotClaim N_turnSize N_turns N_knots N_wires N_power ++ (wX0 oF aF cI cJ cZ F_faceOf F_dartAhead F_howMany))) (va_A (wX1 oW aW cI cJ cZ W_rows W_heightOf W_currentOf W_placeOf W_isPlaced W_wide W_high W_treeCount ++ (wX4 oN aN cI cJ cZ N_first N_second N_isCut N_wireClaim N_knotClaim N_turnSize N_turns N_knots N_wires N_power ++ (wX0 oF aF cI cJ cZ F_faceOf F_dartAhead F_howMany))) sz)) 0 0 (va_A (wX1 oW aW cI cJ cZ W_rows W_heightOf W_currentOf W_placeOf W_isPlaced W_wide W_high W_treeCount ++ (wX4 oN aN cI cJ cZ N_first N_second N_isCut N_wireClaim N_knotClaim N_turnSize N_turns N_knots N_wires N_power ++ (wX0 oF aF cI cJ cZ F_faceOf F_dartAhead F_howMany))) sz) := by
  refine dk_met (cc := cX1_solve) (maxL := 3) (ret := none) (Qc := fun A => dk_Qv (dC, dI) (dk_ty cI cJ cZ) (wX1 oW aW cI cJ cZ out.1 out.2.1 out.2.2.1 out.2.2.2.1 out.2.2.2.2.1 out.2.2.2.2.2.1 out.2.2.2.2.2.2.1 out.2.2.2.2.2.2.2 ++ (wX4 oN aN cI cJ cZ N_first N_second N_isCut N_wireClaim N_knotClaim N_turnSize N_turns N_knots N_wires N_power ++ (wX0 oF aF cI cJ cZ F_faceOf F_dartAhead F_howMany))) A) (by decide) rfl (Nat.le_of_ble_eq_true rfl) ?_
  intro p e s m below meth c A C hnm hA hK hP hD hS ls hl
  have C : dk_C p s m meth c _ cX1_solve none 3 RX1 vsX1_solve := C
  obtain ⟨hx, hb, hr, hml, hown, hts, hlocks⟩ := id C
  have hl : lv_has ls 3 [(0, .ref oW), (1, .ref oN), (2, .ref oF)] := hl
  unfold fX1_solve at h
  refine lv_aload_n hx hb dX1_solve_0 rfl (lv_at hl 1 rfl) ?_
  refine lv_aload_n hx hb dX1_solve_1 rfl (lv_at hl 1 rfl) ?_
  refine va_get (D := (dC, dI)) (ci := 4) (v := .int N_power) (C := RX4) (T := TX4) (N := 10) hx hb hts qX1_solve_X4 hown hK hP 6 rfl rfl 9 (by decide) (hts _ qX1_solve_f40) (fun _ h9 => h9) rfl dX1_solve_2 ?_
  obtain ⟨r_1, hcr_1, h⟩ := dk_bnd_to h
  refine dk_rVi (b := oN) (As := [.int N_power]) (rest := []) (wc := (wX4 oN aN cI cJ cZ N_first N_second N_isCut N_wireClaim N_knotClaim N_turnSize N_turns N_knots N_wires N_power)) C hK hP hD hS hA (mX4_isWire l dC dI cI cJ cZ hcr_1 _) (cwV 1 hts gvX1_solve_X4_isWire rfl rfl rfl (by decide +kernel) ⟨Nat.le_of_ble_eq_true rfl, Nat.le_of_ble_eq_true rfl⟩) [6, 7, 8, 9, 10, 11, 12, 13] rfl (by decide) 0 4 rfl rfl rfl hl.1 rfl (Nat.le_of_ble_eq_true rfl) ⟨Nat.le_of_ble_eq_true rfl, Nat.le_of_ble_eq_true rfl⟩ dX1_solve_5 (fun H locs hP hD hS => ?_)
  refine lv_if_ne (tgt := 12) hx hb dX1_solve_8 (by decide) (fun c_2 => ?_) (fun c_2 => ?_)
  · replace h := dk_ie c_2 h
    refine lv_aload_n hx hb dX1_solve_12 rfl (lv_at hl 0 rfl) ?_
    refine lv_aload_n hx hb dX1_solve_13 rfl (lv_at hl 1 rfl) ?_
    obtain ⟨r_3, hcr_3, h⟩ := dk_bnd_to h
    refine dk_cVv (b := oW) (As := [.ref oN]) (rest := []) (wc := (wX1 oW aW cI cJ cZ W_rows W_heightOf W_currentOf W_placeOf W_isPlaced W_wide W_high W_treeCount ++ (wX4 oN aN cI cJ cZ N_first N_second N_isCut N_wireClaim N_knotClaim N_turnSize N_turns N_knots N_wires N_power))) (wc' := (wX1 oW aW cI cJ cZ r_3 W_heightOf W_currentOf W_placeOf W_isPlaced W_wide W_high W_treeCount ++ (wX4 oN aN cI cJ cZ N_first N_second N_isCut N_wireClaim N_knotClaim N_turnSize N_turns N_knots N_wires N_power))) (wr := (wX0 oF aF cI cJ cZ F_faceOf F_dartAhead F_howMany)) (ws' := (wX1 oW aW cI cJ cZ r_3 W_heightOf W_currentOf W_placeOf W_isPlaced W_wide W_high W_treeCount ++ (wX4 oN aN cI cJ cZ N_first N_second N_isCut N_wireClaim N_knotClaim N_turnSize N_turns N_knots N_wires N_power ++ (wX0 oF aF cI cJ cZ F_faceOf F_dartAhead F_howMany)))) C hK hP hD hS hA (mX1_writeRows l dC dI cI cJ cZ hcr_3 _) (cwV 1 hts gvX1_solve_X1_writeRows rfl rfl rfl (by decide +kernel) ⟨Nat.le_of_ble_eq_true rfl, Nat.le_of_ble_eq_true rfl⟩) [0, 1, 2, 3, 4, 5, 6, 7, 8, 9, 10, 11, 12, 13] [14, 15, 16] [3, 4, 5, 6, 7, 8, 9, 10, 11, 12, 13, 14, 15, 16, 0, 1, 2] rfl (by decide) rfl (by decide) (by decide) rfl (by decide) 0 1 rfl rfl rfl hl.1 rfl (Nat.le_of_ble_eq_true rfl) ⟨Nat.le_of_ble_eq_true rfl, Nat.le_of_ble_eq_true rfl⟩ dX1_solve_14 (fun H locs hP hD hS => ?_)
    refine lv_aload_n hx hb dX1_solve_17 rfl (lv_at hl 0 rfl) ?_
    refine lv_aload_n hx hb dX1_solve_18 rfl (lv_at hl 1 rfl) ?_
    refine va_get (D := (dC, dI)) (ci := 4) (v := .int N_knots) (C := RX4) (T := TX4) (N := 10) hx hb hts qX1_solve_X4 hown hK hP 6 rfl rfl 7 (by decide) (hts _ qX1_solve_f53) (fun _ h9 => h9) rfl dX1_solve_19 ?_
    obtain ⟨r_4, hcr_4, h⟩ := dk_bnd_to h
    refine dk_cVv (b := oW) (As := [.int N_knots]) (rest := []) (wc := (wX1 oW aW cI cJ cZ r_3 W_heightOf W_currentOf W_placeOf W_isPlaced W_wide W_high W_treeCount)) (wc' := (wX1 oW aW cI cJ cZ r_4.1 W_heightOf W_currentOf W_placeOf W_isPlaced W_wide W_high r_4.2)) (wr := (wX4 oN aN cI cJ cZ N_first N_second N_isCut N_wireClaim N_knotClaim N_turnSize N_turns N_knots N_wires N_power ++ (wX0 oF aF cI cJ cZ F_faceOf F_dartAhead F_howMany))) (ws' := (wX1 oW aW cI cJ cZ r_4.1 W_heightOf W_currentOf W_placeOf W_isPlaced W_wide W_high r_4.2 ++ (wX4 oN aN cI cJ cZ N_first N_second N_isCut N_wireClaim N_knotClaim N_turnSize N_turns N_knots N_wires N_power ++ (wX0 oF aF cI cJ cZ F_faceOf F_dartAhead F_howMany)))) C hK hP hD hS hA (mX1_eliminate l dC dI cI cJ cZ hcr_4 _) (cwV 1 hts gvX1_solve_X1_eliminate rfl rfl rfl (by decide +kernel) ⟨Nat.le_of_ble_eq_true rfl, Nat.le_of_ble_eq_true rfl⟩) [0, 1, 2, 3, 4, 5] [6, 7, 8, 9, 10, 11, 12, 13, 14, 15, 16] [11, 12, 13, 14, 15, 16, 0, 1, 2, 3, 4, 5, 6, 7, 8, 9, 10] rfl (by decide) rfl (by decide) (by decide) rfl (by decide) 0 1 rfl rfl rfl hl.1 rfl (Nat.le_of_ble_eq_true rfl) ⟨Nat.le_of_ble_eq_true rfl, Nat.le_of_ble_eq_true rfl⟩ dX1_solve_22 (fun H locs hP hD hS => ?_)
    refine lv_aload_n hx hb dX1_solve_25 rfl (lv_at hl 0 rfl) ?_
    refine lv_aload_n hx hb dX1_solve_26 rfl (lv_at hl 1 rfl) ?_
    refine va_get (D := (dC, dI)) (ci := 4) (v := .int N_knots) (C := RX4) (T := TX4) (N := 10) hx hb hts qX1_solve_X4 hown hK hP 6 rfl rfl 7 (by decide) (hts _ qX1_solve_f53) (fun _ h9 => h9) rfl dX1_solve_27 ?_
    obtain ⟨r_5, hcr_5, h⟩ := dk_bnd_to h
    refine dk_cVv (b := oW) (As := [.int N_knots]) (rest := []) (wc := (wX1 oW aW cI cJ cZ r_4.1 W_heightOf W_currentOf W_placeOf W_isPlaced W_wide W_high r_4.2)) (wc' := (wX1 oW aW cI cJ cZ r_4.1 r_5 W_currentOf W_placeOf W_isPlaced W_wide W_high r_4.2)) (wr := (wX4 oN aN cI cJ cZ N_first N_second N_isCut N_wireClaim N_knotClaim N_turnSize N_turns N_knots N_wires N_power ++ (wX0 oF aF cI cJ cZ F_faceOf F_dartAhead F_howMany))) (ws' := (wX1 oW aW cI cJ cZ r_4.1 r_5 W_currentOf W_placeOf W_isPlaced W_wide W_high r_4.2 ++ (wX4 oN aN cI cJ cZ N_first N_second N_isCut N_wireClaim N_knotClaim N_turnSize N_turns N_knots N_wires N_power ++ (wX0 oF aF cI cJ cZ F_faceOf F_dartAhead F_howMany)))) C hK hP hD hS hA (mX1_takeHeights l dC dI cI cJ cZ hcr_5 _) (cwV 1 hts gvX1_solve_X1_takeHeights rfl rfl rfl (by decide +kernel) ⟨Nat.le_of_ble_eq_true rfl, Nat.le_of_ble_eq_true rfl⟩) [0, 1, 2, 3, 4, 5] [6, 7, 8, 9, 10, 11, 12, 13, 14, 15, 16] [11, 12, 13, 14, 15, 16, 0, 1, 2, 3, 4, 5, 6, 7, 8, 9, 10] rfl (by decide) rfl (by decide) (by decide) rfl (by decide) 0 1 rfl rfl rfl hl.1 rfl (Nat.le_of_ble_eq_true rfl) ⟨Nat.le_of_ble_eq_true rfl, Nat.le_of_ble_eq_true rfl⟩ dX1_solve_30 (fun H locs hP hD hS => ?_)
    refine lv_aload_n hx hb dX1_solve_33 rfl (lv_at hl 0 rfl) ?_
    refine lv_aload_n hx hb dX1_solve_34 rfl (lv_at hl 1 rfl) ?_
    obtain ⟨r_6, hcr_6, h⟩ := dk_bnd_to h
    refine dk_cVv (b := oW) (As := [.ref oN]) (rest := []) (wc := (wX1 oW aW cI cJ cZ r_4.1 r_5 W_currentOf W_placeOf W_isPlaced W_wide W_high r_4.2 ++ (wX4 oN aN cI cJ cZ N_first N_second N_isCut N_wireClaim N_knotClaim N_turnSize N_turns N_knots N_wires N_power))) (wc' := (wX1 oW aW cI cJ cZ r_4.1 r_5 r_6.1 W_placeOf W_isPlaced r_6.2 W_high r_4.2 ++ (wX4 oN aN cI cJ cZ N_first N_second N_isCut N_wireClaim N_knotClaim N_turnSize N_turns N_knots N_wires N_power))) (wr := (wX0 oF aF cI cJ cZ F_faceOf F_dartAhead F_howMany)) (ws' := (wX1 oW aW cI cJ cZ r_4.1 r_5 r_6.1 W_placeOf W_isPlaced r_6.2 W_high r_4.2 ++ (wX4 oN aN cI cJ cZ N_first N_second N_isCut N_wireClaim N_knotClaim N_turnSize N_turns N_knots N_wires N_power ++ (wX0 oF aF cI cJ cZ F_faceOf F_dartAhead F_howMany)))) C hK hP hD hS hA (mX1_takeCurrents l dC dI cI cJ cZ hcr_6 _) (cwV 1 hts gvX1_solve_X1_takeCurrents rfl rfl rfl (by decide +kernel) ⟨Nat.le_of_ble_eq_true rfl, Nat.le_of_ble_eq_true rfl⟩) [0, 1, 2, 3, 4, 5, 6, 7, 8, 9, 10, 11, 12, 13] [14, 15, 16] [3, 4, 5, 6, 7, 8, 9, 10, 11, 12, 13, 14, 15, 16, 0, 1, 2] rfl (by decide) rfl (by decide) (by decide) rfl (by decide) 0 1 rfl rfl rfl hl.1 rfl (Nat.le_of_ble_eq_true rfl) ⟨Nat.le_of_ble_eq_true rfl, Nat.le_of_ble_eq_true rfl⟩ dX1_solve_35 (fun H locs hP hD hS => ?_)
    refine lv_aload_n hx hb dX1_solve_38 rfl (lv_at hl 0 rfl) ?_
    refine lv_aload_n hx hb dX1_solve_39 rfl (lv_at hl 0 rfl) ?_
    refine va_get (D := (dC, dI)) (ci := 1) (v := .ref (aW 1)) (C := RX1) (T := TX1) (N := 8) hx hb hts qX1_solve_X1 hown hK hP 0 rfl rfl 1 (by decide) (hts _ qX1_solve_f15) (fun _ h9 => h9) rfl dX1_solve_40 ?_
    refine lv_aload_n hx hb dX1_solve_43 rfl (lv_at hl 1 rfl) ?_
    refine va_get (D := (dC, dI)) (ci := 4) (v := .ref (aN 0)) (C := RX4) (T := TX4) (N := 10) hx hb hts qX1_solve_X4 hown hK hP 6 rfl rfl 0 (by decide) (hts _ qX1_solve_f66) (fun _ h9 => h9) rfl dX1_solve_44 ?_
    refine lv_aload_n hx hb dX1_solve_47 rfl (lv_at hl 1 rfl) ?_
    refine va_get (D := (dC, dI)) (ci := 4) (v := .int N_power) (C := RX4) (T := TX4) (N := 10) hx hb hts qX1_solve_X4 hown hK hP 6 rfl rfl 9 (by decide) (hts _ qX1_solve_f40) (fun _ h9 => h9) rfl dX1_solve_48 ?_
    obtain ⟨g_7, h⟩ := dk_gd_to h
    have g_7 := dk_in_to g_7
    refine va_iald hx hb hK hP 7 0 rfl rfl g_7 dX1_solve_51 ?_
    obtain ⟨g_8, h⟩ := dk_gd_to h
    have g_8 := dk_in_to g_8
    refine va_iald hx hb hK hP 2 0 rfl rfl g_8 dX1_solve_52 ?_
    refine va_put (D := (dC, dI)) (ci := 1) (v := .int (r_5 (N_first N_power.toNatClampNeg).toNatClampNeg)) (ty := .int) (C := RX1) (T := TX1) (N := 8) hx hb hts qX1_solve_X1 tyX1 tyX1_ok nmX1 hown hK hP hD hS 0 rfl rfl 6 (by decide) (hts _ qX1_solve_f33) (fun _ h9 => h9) rfl (by decide +kernel) rfl rfl (Nat.le_of_ble_eq_true rfl) dX1_solve_53 (fun H locs hP hD hS => ?_)
    obtain ⟨W_high_9, eW_high_9⟩ : ∃ z : Int32, z = (r_5 (N_first N_power.toNatClampNeg).toNatClampNeg) := ⟨_, rfl⟩
    replace h := dk_let_to eW_high_9 h
    have hP : va_P (dC, dI) vwCl (wX1 oW aW cI cJ cZ r_4.1 r_5 r_6.1 W_placeOf W_isPlaced r_6.2 W_high_9 r_4.2 ++ (wX4 oN aN cI cJ cZ N_first N_second N_isCut N_wireClaim N_knotClaim N_turnSize N_turns N_knots N_wires N_power ++ (wX0 oF aF cI cJ cZ F_faceOf F_dartAhead F_howMany))) H := by rw [eW_high_9]; exact hP
    have hD : va_D A (wX1 oW aW cI cJ cZ r_4.1 r_5 r_6.1 W_placeOf W_isPlaced r_6.2 W_high_9 r_4.2 ++ (wX4 oN aN cI cJ cZ N_first N_second N_isCut N_wireClaim N_knotClaim N_turnSize N_turns N_knots N_wires N_power ++ (wX0 oF aF cI cJ cZ F_faceOf F_dartAhead F_howMany))) := by rw [eW_high_9]; exact hD
    refine lv_aload_n hx hb dX1_solve_56 rfl (lv_at hl 0 rfl) ?_
    refine lv_aload_n hx hb dX1_solve_57 rfl (lv_at hl 1 rfl) ?_
    refine lv_aload_n hx hb dX1_solve_58 rfl (lv_at hl 2 rfl) ?_
    obtain ⟨r_10, hcr_10, h⟩ := dk_bnd_to h
    refine dk_cVv (b := oW) (As := [.ref oN, .ref oF]) (rest := []) (wc := (wX1 oW aW cI cJ cZ r_4.1 r_5 r_6.1 W_placeOf W_isPlaced r_6.2 W_high_9 r_4.2 ++ (wX4 oN aN cI cJ cZ N_first N_second N_isCut N_wireClaim N_knotClaim N_turnSize N_turns N_knots N_wires N_power ++ (wX0 oF aF cI cJ cZ F_faceOf F_dartAhead F_howMany)))) (wc' := (wX1 oW aW cI cJ cZ r_4.1 r_5 r_6.1 r_10.1 r_10.2 r_6.2 W_high_9 r_4.2 ++ (wX4 oN aN cI cJ cZ N_first N_second N_isCut N_wireClaim N_knotClaim N_turnSize N_turns N_knots N_wires N_power ++ (wX0 oF aF cI cJ cZ F_faceOf F_dartAhead F_howMany)))) (wr := []) (ws' := (wX1 oW aW cI cJ cZ r_4.1 r_5 r_6.1 r_10.1 r_10.2 r_6.2 W_high_9 r_4.2 ++ (wX4 oN aN cI cJ cZ N_first N_second N_isCut N_wireClaim N_knotClaim N_turnSize N_turns N_knots N_wires N_power ++ (wX0 oF aF cI cJ cZ F_faceOf F_dartAhead F_howMany)))) C hK hP hD hS hA (mX1_placeFaces l dC dI cI cJ cZ hcr_10 _) (cwV 2 hts gvX1_solve_X1_placeFaces rfl rfl rfl (by decide +kernel) ⟨Nat.le_of_ble_eq_true rfl, Nat.le_of_ble_eq_true rfl⟩) [0, 1, 2, 3, 4, 5, 6, 7, 8, 9, 10, 11, 12, 13, 14, 15, 16] [] [0, 1, 2, 3, 4, 5, 6, 7, 8, 9, 10, 11, 12, 13, 14, 15, 16] rfl (by decide) rfl (by decide) (by decide) rfl (by decide) 0 1 rfl rfl rfl hl.1 rfl (Nat.le_of_ble_eq_true rfl) ⟨Nat.le_of_ble_eq_true rfl, Nat.le_of_ble_eq_true rfl⟩ dX1_solve_59 (fun H locs hP hD hS => ?_)
    have e9 := Option.some.inj h
    subst e9
    exact dk_vret C hK hP hD hS dX1_solve_62
  · replace h := dk_it c_2 h
    have e9 := Option.some.inj h
    subst e9
    exact dk_vret C hK hP hD hS dX1_solve_11

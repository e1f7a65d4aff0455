/-! ===== SquareTiler$Flow.reduceRow ===== -/
abbrev rX1_reduceRow : Room := { frames := 0, cells := 0, slots := 0, locals := 0 }
def ovX1_reduceRow : List Cond := [Cond.fieldLink RX1 11 "SquareTiler$Flow" "rows" "[J"]
def vsX1_reduceRow : List Cond := .code yX1_reduceRow cX1_reduceRow 11 none :: (ovX1_reduceRow ++ (wsX10 ++ []))
theorem qX1_reduceRow_f11 : Cond.fieldLink RX1 11 "SquareTiler$Flow" "rows" "[J" ∈ vsX1_reduceRow := List.mem_cons_of_mem _ (List.mem_append_left _ (List.mem_of_getElem? (i := 0) rfl))
theorem qX1_reduceRow_X1 : ∀ w ∈ u_ws RX1 TX1 8, w ∈ vsX1_reduceRow := fun w h => List.mem_cons_of_mem _ (List.mem_append_right _ (List.mem_append_left _ h))
theorem gd_vsX1_reduceRow : ∀ w ∈ vsX1_reduceRow, goodWord w = true := dk_cons rfl (dk_app (dk_all (by decide +kernel)) (dk_app gd_wsX10 dk_nil))
def bX1_reduceRow_37 (x1 x2 x3 : Int32) (x4 x6 x8 : Int64) (st : Int32 × (Nat → Int64)) : Option (((Nat → Int64)) ⊕ (Int32 × (Nat → Int64))) := if x3 < st.1 then some (.inl st.2) else dk_gd (dk_in ((x1 * 13) + st.1) 156) (dk_gd (dk_in ((x2 * 13) + st.1) 156) (dk_gd (dk_nz x4) (dk_let (vp_updL st.2 ((x1 * 13) + st.1).toNatClampNeg (((x6 * (st.2 ((x1 * 13) + st.1).toNatClampNeg)) - (x8 * (st.2 ((x2 * 13) + st.1).toNatClampNeg))) / x4)) (fun W_rows_11 => dk_let (st.1 + 1) (fun x10_12 => some (.inr (x10_12, W_rows_11)))))))
def fX1_reduceRow (W_rows : Nat → Int64) (x1 x2 x3 : Int32) (x4 : Int64) : Option ((Nat → Int64)) := if (lg_cmp x4 0) = 0 then some W_rows else dk_gd (dk_in ((x2 * 13) + x2) 156) (dk_let ((W_rows ((x2 * 13) + x2).toNatClampNeg)) (fun x6_3 => dk_gd (dk_in ((x1 * 13) + x2) 156) (dk_let ((W_rows ((x1 * 13) + x2).toNatClampNeg)) (fun x8_5 => dk_bnd (dk_loop (bX1_reduceRow_37 x1 x2 x3 x4 x6_3 x8_5) 1000 (0, W_rows)) (fun r_6 => some r_6)))))
section
variable {p : Program} {l : Launch} {e : Env} {s : State} {m : MethodId} {args : Array Value} {below : List Frame} {meth : Method} {c : Code} {dC : Nat → ClassId} {dI : Nat → Nat → Nat} {cI cJ cZ : ClassId} {A : Nat → Prop} {oW : Nat} {aW : Nat → Nat} {W_rows : Nat → Int64} {W_heightOf W_currentOf W_placeOf W_isPlaced : Nat → Int32} {W_wide W_high : Int32} {W_treeCount : Int64}
set_option maxHeartbeats 4000000 in
set_option maxRecDepth 100000 in
theorem tX1_reduceRow_37 (C : dk_C p s m meth c args cX1_reduceRow none 11 RX1 vsX1_reduceRow) (hK : va_K (dC, dI) vwCl (dk_ty cI cJ cZ) s) (hA : ∀ q : Nat, s.heap.size ≤ q → A q) {out : (Nat → Int64)} {x1 x2 x3 : Int32} {x4 x6 x8 : Int64} {st : Int32 × (Nat → Int64)} {y : ((Nat → Int64)) ⊕ (Int32 × (Nat → Int64))} (h : bX1_reduceRow_37 x1 x2 x3 x4 x6 x8 st = some y) (hE : ∀ z : (Nat → Int64), y = .inl z → ∀ (H : Heap) (locs : List Loc), va_P (dC, dI) vwCl (wX1 oW aW cI cJ cZ z W_heightOf W_currentOf W_placeOf W_isPlaced W_wide W_high W_treeCount) H → va_D A (wX1 oW aW cI cJ cZ z W_heightOf W_currentOf W_placeOf W_isPlaced W_wide W_high W_treeCount) → va_S A s.heap H locs → ∀ ls : Array Slot, lv_has ls 11 [(0, .ref oW)] → W p l e rX1_reduceRow s m args below meth c H locs 0 0 (MQ below (dk_Qv (dC, dI) (dk_ty cI cJ cZ) (wX1 oW aW cI cJ cZ out W_heightOf W_currentOf W_placeOf W_isPlaced W_wide W_high W_treeCount) A) args s 0 0 A) (F0 m 95 ls [])) (hC : ∀ z : Int32 × (Nat → Int64), y = .inr z → ∀ (H : Heap) (locs : List Loc), va_P (dC, dI) vwCl (wX1 oW aW cI cJ cZ z.2 W_heightOf W_currentOf W_placeOf W_isPlaced W_wide W_high W_treeCount) H → va_D A (wX1 oW aW cI cJ cZ z.2 W_heightOf W_currentOf W_placeOf W_isPlaced W_wide W_high W_treeCount) → va_S A s.heap H locs → ∀ ls : Array Slot, lv_has ls 11 [(0, .ref oW), (1, .int x1), (2, .int x2), (3, .int x3), (4, .long x4), (6, .long x6), (8, .long x8), (10, .int z.1)] → W p l e rX1_reduceRow s m args below meth c H locs 0 0 (MQ below (dk_Qv (dC, dI) (dk_ty cI cJ cZ) (wX1 oW aW cI cJ cZ out W_heightOf W_currentOf W_placeOf W_isPlaced W_wide W_high W_treeCount) A) args s 0 0 A) (F0 m 37 ls [])) : ∀ (H : Heap) (locs : List Loc), va_P (dC, dI) vwCl (wX1 oW aW cI cJ cZ st.2 W_heightOf W_currentOf W_placeOf W_isPlaced W_wide W_high W_treeCount) H → va_D A (wX1 oW aW cI cJ cZ st.2 W_heightOf W_currentOf W_placeOf W_isPlaced W_wide W_high W_treeCount) → va_S A s.heap H locs → ∀ ls : Array Slot, lv_has ls 11 [(0, .ref oW), (1, .int x1), (2, .int x2), (3, .int x3), (4, .long x4), (6, .long x6), (8, .long x8), (10, .int st.1)] → W p l e rX1_reduceRow s m args below meth c H locs 0 0 (MQ below (dk_Qv (dC, dI) (dk_ty cI cJ cZ) (wX1 oW aW cI cJ cZ out W_heightOf W_currentOf W_placeOf W_isPlaced W_wide W_high W_treeCount) A) args s 0 0 A) (F0 m 37 ls []) := by
  obtain ⟨hx, hb, hr, hml, hown, hts, hlocks⟩ := id C
  intro H locs hP hD hS ls hl
  unfold bX1_reduceRow_37 at h
  refine lv_iload hx hb dX1_reduceRow_37 (lv_at hl 7 rfl) ?_
  refine lv_iload_n hx hb dX1_reduceRow_39 rfl (lv_at hl 3 rfl) ?_
  refine lv_icmp_gt (tgt := 95) hx hb dX1_reduceRow_40 (by decide) (fun c_7 => ?_) (fun c_7 => ?_)
  · replace h := dk_it c_7 h
    exact hE _ (Option.some.inj h).symm _ _ hP hD hS ls (lv_sub hl [0] rfl)
  · replace h := dk_ie c_7 h
    refine lv_aload_n hx hb dX1_reduceRow_43 rfl (lv_at hl 0 rfl) ?_
    refine va_get (D := (dC, dI)) (ci := 1) (v := .ref (aW 0)) (C := RX1) (T := TX1) (N := 8) hx hb hts qX1_reduceRow_X1 hown hK hP 0 rfl rfl 0 (by decide) (hts _ qX1_reduceRow_f11) (fun _ h9 => h9) rfl dX1_reduceRow_44 ?_
    refine lv_iload_n hx hb dX1_reduceRow_47 rfl (lv_at hl 1 rfl) ?_
    refine lv_bipush (v := 13) hx hb dX1_reduceRow_48 (by decide) ?_
    refine lv_imul hx hb dX1_reduceRow_50 ?_
    refine lv_iload hx hb dX1_reduceRow_51 (lv_at hl 7 rfl) ?_
    refine lv_iadd hx hb dX1_reduceRow_53 ?_
    refine lv_lload hx hb dX1_reduceRow_54 (lv_at hl 5 rfl) ?_
    refine lv_aload_n hx hb dX1_reduceRow_56 rfl (lv_at hl 0 rfl) ?_
    refine va_get (D := (dC, dI)) (ci := 1) (v := .ref (aW 0)) (C := RX1) (T := TX1) (N := 8) hx hb hts qX1_reduceRow_X1 hown hK hP 0 rfl rfl 0 (by decide) (hts _ qX1_reduceRow_f11) (fun _ h9 => h9) rfl dX1_reduceRow_57 ?_
    refine lv_iload_n hx hb dX1_reduceRow_60 rfl (lv_at hl 1 rfl) ?_
    refine lv_bipush (v := 13) hx hb dX1_reduceRow_61 (by decide) ?_
    refine lv_imul hx hb dX1_reduceRow_63 ?_
    refine lv_iload hx hb dX1_reduceRow_64 (lv_at hl 7 rfl) ?_
    refine lv_iadd hx hb dX1_reduceRow_66 ?_
    obtain ⟨g_8, h⟩ := dk_gd_to h
    have g_8 := dk_in_to g_8
    refine va_lald hx hb hK hP 1 1 rfl rfl g_8 dX1_reduceRow_67 ?_
    refine lv_lmul hx hb dX1_reduceRow_68 ?_
    refine lv_lload hx hb dX1_reduceRow_69 (lv_at hl 6 rfl) ?_
    refine lv_aload_n hx hb dX1_reduceRow_71 rfl (lv_at hl 0 rfl) ?_
    refine va_get (D := (dC, dI)) (ci := 1) (v := .ref (aW 0)) (C := RX1) (T := TX1) (N := 8) hx hb hts qX1_reduceRow_X1 hown hK hP 0 rfl rfl 0 (by decide) (hts _ qX1_reduceRow_f11) (fun _ h9 => h9) rfl dX1_reduceRow_72 ?_
    refine lv_iload_n hx hb dX1_reduceRow_75 rfl (lv_at hl 2 rfl) ?_
    refine lv_bipush (v := 13) hx hb dX1_reduceRow_76 (by decide) ?_
    refine lv_imul hx hb dX1_reduceRow_78 ?_
    refine lv_iload hx hb dX1_reduceRow_79 (lv_at hl 7 rfl) ?_
    refine lv_iadd hx hb dX1_reduceRow_81 ?_
    obtain ⟨g_9, h⟩ := dk_gd_to h
    have g_9 := dk_in_to g_9
    refine va_lald hx hb hK hP 1 1 rfl rfl g_9 dX1_reduceRow_82 ?_
    refine lv_lmul hx hb dX1_reduceRow_83 ?_
    refine lv_lsub hx hb dX1_reduceRow_84 ?_
    refine lv_lload hx hb dX1_reduceRow_85 (lv_at hl 4 rfl) ?_
    obtain ⟨g_10, h⟩ := dk_gd_to h
    have g_10 := dk_nz_to g_10
    refine lv_ldiv hx hb dX1_reduceRow_87 g_10 ?_
    refine va_last hx hb hK hP hD hS 1 1 rfl rfl g_8 dX1_reduceRow_88 (fun H locs hP hD hS => ?_)
    obtain ⟨W_rows_11, eW_rows_11⟩ : ∃ z : Nat → Int64, z = vp_updL st.2 ((x1 * 13) + st.1).toNatClampNeg (((x6 * (st.2 ((x1 * 13) + st.1).toNatClampNeg)) - (x8 * (st.2 ((x2 * 13) + st.1).toNatClampNeg))) / x4) := ⟨_, rfl⟩
    replace h := dk_let_to eW_rows_11 h
    have hP : va_P (dC, dI) vwCl (wX1 oW aW cI cJ cZ W_rows_11 W_heightOf W_currentOf W_placeOf W_isPlaced W_wide W_high W_treeCount) H := by rw [eW_rows_11]; exact hP
    have hD : va_D A (wX1 oW aW cI cJ cZ W_rows_11 W_heightOf W_currentOf W_placeOf W_isPlaced W_wide W_high W_treeCount) := by rw [eW_rows_11]; exact hD
    obtain ⟨x10_12, ex10_12⟩ : ∃ z : Int32, z = st.1 + 1 := ⟨_, rfl⟩
    replace h := dk_let_to ex10_12 h
    refine lv_iinc (v := x10_12) (lv' := [(10, .int x10_12), (0, .ref oW), (1, .int x1), (2, .int x2), (3, .int x3), (4, .long x4), (6, .long x6), (8, .long x8)]) hx hb dX1_reduceRow_89 hl (k := 7) rfl (by rw [ex10_12]; rfl) (by decide) rfl (fun ls hl => ?_)
    refine lv_goto (tgt := 37) hx hb dX1_reduceRow_92 (by decide) ?_
    exact hC _ (Option.some.inj h).symm _ _ hP hD hS ls (lv_sub hl [1, 2, 3, 4, 5, 6, 7, 0] rfl)
set_option maxHeartbeats 4000000 in
set_option maxRecDepth 100000 in
theorem lX1_reduceRow_37 (C : dk_C p s m meth c args cX1_reduceRow none 11 RX1 vsX1_reduceRow) (hK : va_K (dC, dI) vwCl (dk_ty cI cJ cZ) s) (hA : ∀ q : Nat, s.heap.size ≤ q → A q) {out : (Nat → Int64)} {x1 x2 x3 : Int32} {x4 x6 x8 : Int64} {n : Nat} {st : Int32 × (Nat → Int64)} {r : (Nat → Int64)} (h : dk_loop (bX1_reduceRow_37 x1 x2 x3 x4 x6 x8) n st = some r) (hE : ∀ (H : Heap) (locs : List Loc), va_P (dC, dI) vwCl (wX1 oW aW cI cJ cZ r W_heightOf W_currentOf W_placeOf W_isPlaced W_wide W_high W_treeCount) H → va_D A (wX1 oW aW cI cJ cZ r W_heightOf W_currentOf W_placeOf W_isPlaced W_wide W_high W_treeCount) → va_S A s.heap H locs → ∀ ls : Array Slot, lv_has ls 11 [(0, .ref oW)] → W p l e rX1_reduceRow s m args below meth c H locs 0 0 (MQ below (dk_Qv (dC, dI) (dk_ty cI cJ cZ) (wX1 oW aW cI cJ cZ out W_heightOf W_currentOf W_placeOf W_isPlaced W_wide W_high W_treeCount) A) args s 0 0 A) (F0 m 95 ls [])) : ∀ (H : Heap) (locs : List Loc), va_P (dC, dI) vwCl (wX1 oW aW cI cJ cZ st.2 W_heightOf W_currentOf W_placeOf W_isPlaced W_wide W_high W_treeCount) H → va_D A (wX1 oW aW cI cJ cZ st.2 W_heightOf W_currentOf W_placeOf W_isPlaced W_wide W_high W_treeCount) → va_S A s.heap H locs → ∀ ls : Array Slot, lv_has ls 11 [(0, .ref oW), (1, .int x1), (2, .int x2), (3, .int x3), (4, .long x4), (6, .long x6), (8, .long x8), (10, .int st.1)] → W p l e rX1_reduceRow s m args below meth c H locs 0 0 (MQ below (dk_Qv (dC, dI) (dk_ty cI cJ cZ) (wX1 oW aW cI cJ cZ out W_heightOf W_currentOf W_placeOf W_isPlaced W_wide W_high W_treeCount) A) args s 0 0 A) (F0 m 37 ls []) :=
  dk_loopW (P := fun st => ∀ (H : Heap) (locs : List Loc), va_P (dC, dI) vwCl (wX1 oW aW cI cJ cZ st.2 W_heightOf W_currentOf W_placeOf W_isPlaced W_wide W_high W_treeCount) H → va_D A (wX1 oW aW cI cJ cZ st.2 W_heightOf W_currentOf W_placeOf W_isPlaced W_wide W_high W_treeCount) → va_S A s.heap H locs → ∀ ls : Array Slot, lv_has ls 11 [(0, .ref oW), (1, .int x1), (2, .int x2), (3, .int x3), (4, .long x4), (6, .long x6), (8, .long x8), (10, .int st.1)] → W p l e rX1_reduceRow s m args below meth c H locs 0 0 (MQ below (dk_Qv (dC, dI) (dk_ty cI cJ cZ) (wX1 oW aW cI cJ cZ out W_heightOf W_currentOf W_placeOf W_isPlaced W_wide W_high W_treeCount) A) args s 0 0 A) (F0 m 37 ls [])) (K := fun r => ∀ (H : Heap) (locs : List Loc), va_P (dC, dI) vwCl (wX1 oW aW cI cJ cZ r W_heightOf W_currentOf W_placeOf W_isPlaced W_wide W_high W_treeCount) H → va_D A (wX1 oW aW cI cJ cZ r W_heightOf W_currentOf W_placeOf W_isPlaced W_wide W_high W_treeCount) → va_S A s.heap H locs → ∀ ls : Array Slot, lv_has ls 11 [(0, .ref oW)] → W p l e rX1_reduceRow s m args below meth c H locs 0 0 (MQ below (dk_Qv (dC, dI) (dk_ty cI cJ cZ) (wX1 oW aW cI cJ cZ out W_heightOf W_currentOf W_placeOf W_isPlaced W_wide W_high W_treeCount) A) args s 0 0 A) (F0 m 95 ls [])) (fun st y hy k1 k2 => tX1_reduceRow_37 C hK hA hy k1 k2) n st r h hE
end
set_option maxHeartbeats 4000000 in
set_option maxRecDepth 100000 in
theorem mX1_reduceRow (l : Launch) (dC : Nat → ClassId) (dI : Nat → Nat → Nat) (cI cJ cZ : ClassId) {oW : Nat} {aW : Nat → Nat} {W_rows : Nat → Int64} {W_heightOf W_currentOf W_placeOf W_isPlaced : Nat → Int32} {W_wide W_high : Int32} {W_treeCount : Int64} {x1 x2 x3 : Int32} {x4 : Int64} {out : (Nat → Int64)} (h : fX1_reduceRow W_rows x1 x2 x3 x4 = some out) (sz : Nat) : Met l yX1_reduceRow vsX1_reduceRow rX1_reduceRow (va_Pc [.ref oW, .int x1, .int x2, .int x3, .long x4] (dk_Pre (dC, dI) (dk_ty cI cJ cZ) (wX1 oW aW cI cJ cZ W_rows W_heightOf W_currentOf W_placeOf W_isPlaced W_wide W_high W_treeCount) sz)) (dk_Qv (dC, dI) (dk_ty cI cJ cZ) (wX1 oW aW cI cJ cZ out W_heightOf W_currentOf W_placeOf W_isPlaced W_wide W_high W_treeCount) (va_A (wX1 oW aW cI cJ cZ W_rows W_heightOf W_currentOf W_placeOf W_isPlaced W_wide W_high W_treeCount) sz)) 0 0 (va_A (wX1 oW aW cI cJ cZ W_rows W_heightOf W_currentOf W_placeOf W_isPlaced W_wide W_high W_treeCount) sz) := by
  refine dk_met (cc := cX1_reduceRow) (maxL := 11) (ret := none) (Qc := fun A => dk_Qv (dC, dI) (dk_ty cI cJ cZ) (wX1 oW aW cI cJ cZ out W_heightOf W_currentOf W_placeOf W_isPlaced W_wide W_high W_treeCount) A) (by decide) rfl (Nat.le_of_ble_eq_true rfl) ?_
  intro p e s m below meth c A C hnm hA hK hP hD hS ls hl
  have C : dk_C p s m meth c _ cX1_reduceRow none 11 RX1 vsX1_reduceRow := C
  obtain ⟨hx, hb, hr, hml, hown, hts, hlocks⟩ := id C
  have hl : lv_has ls 11 [(0, .ref oW), (1, .int x1), (2, .int x2), (3, .int x3), (4, .long x4)] := hl
  unfold fX1_reduceRow at h
  refine lv_lload hx hb dX1_reduceRow_0 (lv_at hl 4 rfl) ?_
  refine lv_lconst (v := 0) hx hb dX1_reduceRow_2 (by decide) ?_
  refine W.lcmp hx hb dX1_reduceRow_3 ?_
  refine lv_if_ne (tgt := 8) hx hb dX1_reduceRow_4 (by decide) (fun c_1 => ?_) (fun c_1 => ?_)
  · replace h := dk_ie c_1 h
    refine lv_aload_n hx hb dX1_reduceRow_8 rfl (lv_at hl 0 rfl) ?_
    refine va_get (D := (dC, dI)) (ci := 1) (v := .ref (aW 0)) (C := RX1) (T := TX1) (N := 8) hx hb hts qX1_reduceRow_X1 hown hK hP 0 rfl rfl 0 (by decide) (hts _ qX1_reduceRow_f11) (fun _ h9 => h9) rfl dX1_reduceRow_9 ?_
    refine lv_iload_n hx hb dX1_reduceRow_12 rfl (lv_at hl 2 rfl) ?_
    refine lv_bipush (v := 13) hx hb dX1_reduceRow_13 (by decide) ?_
    refine lv_imul hx hb dX1_reduceRow_15 ?_
    refine lv_iload_n hx hb dX1_reduceRow_16 rfl (lv_at hl 2 rfl) ?_
    refine lv_iadd hx hb dX1_reduceRow_17 ?_
    obtain ⟨g_2, h⟩ := dk_gd_to h
    have g_2 := dk_in_to g_2
    refine va_lald hx hb hK hP 1 1 rfl rfl g_2 dX1_reduceRow_18 ?_
    refine lv_topl (fun x6_3 ex6_3 => ?_)
    replace h := dk_let_to ex6_3 h
    refine lv_lstore (lv' := [(6, .long x6_3), (0, .ref oW), (1, .int x1), (2, .int x2), (3, .int x3), (4, .long x4)]) hx hb dX1_reduceRow_19 hl (by decide) rfl (fun ls hl => ?_)
    refine lv_aload_n hx hb dX1_reduceRow_21 rfl (lv_at hl 1 rfl) ?_
    refine va_get (D := (dC, dI)) (ci := 1) (v := .ref (aW 0)) (C := RX1) (T := TX1) (N := 8) hx hb hts qX1_reduceRow_X1 hown hK hP 0 rfl rfl 0 (by decide) (hts _ qX1_reduceRow_f11) (fun _ h9 => h9) rfl dX1_reduceRow_22 ?_
    refine lv_iload_n hx hb dX1_reduceRow_25 rfl (lv_at hl 2 rfl) ?_
    refine lv_bipush (v := 13) hx hb dX1_reduceRow_26 (by decide) ?_
    refine lv_imul hx hb dX1_reduceRow_28 ?_
    refine lv_iload_n hx hb dX1_reduceRow_29 rfl (lv_at hl 3 rfl) ?_
    refine lv_iadd hx hb dX1_reduceRow_30 ?_
    obtain ⟨g_4, h⟩ := dk_gd_to h
    have g_4 := dk_in_to g_4
    refine va_lald hx hb hK hP 1 1 rfl rfl g_4 dX1_reduceRow_31 ?_
    refine lv_topl (fun x8_5 ex8_5 => ?_)
    replace h := dk_let_to ex8_5 h
    refine lv_lstore (lv' := [(8, .long x8_5), (6, .long x6_3), (0, .ref oW), (1, .int x1), (2, .int x2), (3, .int x3), (4, .long x4)]) hx hb dX1_reduceRow_32 hl (by decide) rfl (fun ls hl => ?_)
    refine lv_iconst (v := 0) hx hb dX1_reduceRow_34 (by decide) ?_
    refine lv_istore (lv' := [(10, .int 0), (8, .long x8_5), (6, .long x6_3), (0, .ref oW), (1, .int x1), (2, .int x2), (3, .int x3), (4, .long x4)]) hx hb dX1_reduceRow_35 hl (by decide) rfl (fun ls hl => ?_)
    obtain ⟨r_6, hLr_6, h⟩ := dk_bnd_to h
    refine lX1_reduceRow_37 C hK hA hLr_6 (fun H locs hP hD hS ls hl => ?_) _ _ hP hD hS ls (lv_sub hl [3, 4, 5, 6, 7, 2, 1, 0] rfl)
    have e9 := Option.some.inj h
    subst e9
    exact dk_vret C hK hP hD hS dX1_reduceRow_95
  · replace h := dk_it c_1 h
    have e9 := Option.some.inj h
    subst e9
    exact dk_vret C hK hP hD hS dX1_reduceRow_7
/-! ===== SquareTiler$Flow.eliminate ===== -/
abbrev rX1_eliminate : Room := { frames := 1, cells := 0, slots := 0, locals := 30 }
def ovX1_eliminate : List Cond := [Cond.fieldLink RX1 36 "SquareTiler$Flow" "treeCount" "J", Cond.fieldLink RX1 11 "SquareTiler$Flow" "rows" "[J", Cond.methodLink RX1 86 yX1_reduceRow, Cond.instanceMethod yX1_reduceRow, Cond.selects RX1 yX1_reduceRow yX1_reduceRow, Cond.initialized RX1]
def vsX1_eliminate : List Cond := .code yX1_eliminate cX1_eliminate 8 none :: (ovX1_eliminate ++ (wsX10 ++ (vsX1_reduceRow ++ [])))
theorem qX1_eliminate_f36 : Cond.fieldLink RX1 36 "SquareTiler$Flow" "treeCount" "J" ∈ vsX1_eliminate := List.mem_cons_of_mem _ (List.mem_append_left _ (List.mem_of_getElem? (i := 0) rfl))
theorem qX1_eliminate_f11 : Cond.fieldLink RX1 11 "SquareTiler$Flow" "rows" "[J" ∈ vsX1_eliminate := List.mem_cons_of_mem _ (List.mem_append_left _ (List.mem_of_getElem? (i := 1) rfl))
theorem qX1_eliminate_w2 : Cond.methodLink RX1 86 yX1_reduceRow ∈ vsX1_eliminate := List.mem_cons_of_mem _ (List.mem_append_left _ (List.mem_of_getElem? (i := 2) rfl))
theorem qX1_eliminate_w3 : Cond.instanceMethod yX1_reduceRow ∈ vsX1_eliminate := List.mem_cons_of_mem _ (List.mem_append_left _ (List.mem_of_getElem? (i := 3) rfl))
theorem qX1_eliminate_w4 : Cond.selects RX1 yX1_reduceRow yX1_reduceRow ∈ vsX1_eliminate := List.mem_cons_of_mem _ (List.mem_append_left _ (List.mem_of_getElem? (i := 4) rfl))
theorem qX1_eliminate_w5 : Cond.initialized RX1 ∈ vsX1_eliminate := List.mem_cons_of_mem _ (List.mem_append_left _ (List.mem_of_getElem? (i := 5) rfl))
theorem qX1_eliminate_X1 : ∀ w ∈ u_ws RX1 TX1 8, w ∈ vsX1_eliminate := fun w h => List.mem_cons_of_mem _ (List.mem_append_right _ (List.mem_append_left _ h))
theorem gd_vsX1_eliminate : ∀ w ∈ vsX1_eliminate, goodWord w = true := dk_cons rfl (dk_app (dk_all (by decide +kernel)) (dk_app gd_wsX10 (dk_app gd_vsX1_reduceRow dk_nil)))
theorem gvX1_eliminate_X1_reduceRow : GoodIn vsX1_eliminate (wsV RX1 86 RX1 yX1_reduceRow vsX1_reduceRow) := goodIn_app (dk_g4 qX1_eliminate_w2 qX1_eliminate_w3 qX1_eliminate_w4 qX1_eliminate_w5 rfl) (dk_gIn (fun w h => List.mem_cons_of_mem _ (List.mem_append_right _ (List.mem_append_right _ (List.mem_append_left _ h)))) gd_vsX1_reduceRow)
def jX1_eliminate_52 (W_rows : Nat → Int64) (W_treeCount : Int64) (x1 : Int32) (x2 : Int64) (x4 : Int32) (x5 : Int64) (x7 : Int32) : Option (((Nat → Int64)) ⊕ (Int32 × (Nat → Int64))) := dk_let (x7 + 1) (fun x7_10 => some (.inr (x7_10, W_rows)))
def bX1_eliminate_29 (W_treeCount : Int64) (x1 : Int32) (x2 : Int64) (x4 : Int32) (x5 : Int64) (st : Int32 × (Nat → Int64)) : Option (((Nat → Int64)) ⊕ (Int32 × (Nat → Int64))) := if x1 ≤ st.1 then some (.inl st.2) else if st.1 = x4 then jX1_eliminate_52 st.2 W_treeCount x1 x2 x4 x5 st.1 else dk_bnd (fX1_reduceRow st.2 st.1 x4 x1 x2) (fun r_9 => jX1_eliminate_52 r_9 W_treeCount x1 x2 x4 x5 st.1)
def bX1_eliminate_5 (W_treeCount : Int64) (x1 : Int32) (st : Int64 × Int32 × (Nat → Int64)) : Option ((Int64 × (Nat → Int64)) ⊕ (Int64 × Int32 × (Nat → Int64))) := if x1 ≤ st.2.1 then some (.inl (st.1, st.2.2)) else dk_gd (dk_in ((st.2.1 * 13) + st.2.1) 156) (dk_let ((st.2.2 ((st.2.1 * 13) + st.2.1).toNatClampNeg)) (fun x5_4 => dk_bnd (dk_loop (bX1_eliminate_29 W_treeCount x1 st.1 st.2.1 x5_4) 1000 (0, st.2.2)) (fun r_5 => dk_let (st.2.1 + 1) (fun x4_6 => some (.inr (x5_4, x4_6, r_5))))))
def fX1_eliminate (W_rows : Nat → Int64) (W_treeCount : Int64) (x1 : Int32) : Option ((Nat → Int64) × Int64) := dk_bnd (dk_loop (bX1_eliminate_5 W_treeCount x1) 1000 (1, 0, W_rows)) (fun r_1 => some (r_1.2, r_1.1))
section
variable {p : Program} {l : Launch} {e : Env} {s : State} {m : MethodId} {args : Array Value} {below : List Frame} {meth : Method} {c : Code} {dC : Nat → ClassId} {dI : Nat → Nat → Nat} {cI cJ cZ : ClassId} {A : Nat → Prop} {oW : Nat} {aW : Nat → Nat} {W_rows : Nat → Int64} {W_heightOf W_currentOf W_placeOf W_isPlaced : Nat → Int32} {W_wide W_high : Int32} {W_treeCount : Int64}
set_option maxHeartbeats 4000000 in
set_option maxRecDepth 100000 in
theorem kX1_eliminate_52 (C : dk_C p s m meth c args cX1_eliminate none 8 RX1 vsX1_eliminate) (hK : va_K (dC, dI) vwCl (dk_ty cI cJ cZ) s) (hA : ∀ q : Nat, s.heap.size ≤ q → A q) {out : (Nat → Int64) × Int64} {x1 : Int32} {x2 : Int64} {x4 : Int32} {x5 : Int64} {x7 : Int32} {y : ((Nat → Int64)) ⊕ (Int32 × (Nat → Int64))} (h : jX1_eliminate_52 W_rows W_treeCount x1 x2 x4 x5 x7 = some y) (hE : ∀ z : (Nat → Int64), y = .inl z → ∀ (H : Heap) (locs : List Loc), va_P (dC, dI) vwCl (wX1 oW aW cI cJ cZ z W_heightOf W_currentOf W_placeOf W_isPlaced W_wide W_high W_treeCount) H → va_D A (wX1 oW aW cI cJ cZ z W_heightOf W_currentOf W_placeOf W_isPlaced W_wide W_high W_treeCount) → va_S A s.heap H locs → ∀ ls : Array Slot, lv_has ls 8 [(0, .ref oW), (1, .int x1), (4, .int x4), (5, .long x5)] → W p l e rX1_eliminate s m args below meth c H locs 0 0 (MQ below (dk_Qv (dC, dI) (dk_ty cI cJ cZ) (wX1 oW aW cI cJ cZ out.1 W_heightOf W_currentOf W_placeOf W_isPlaced W_wide W_high out.2) A) args s 0 0 A) (F0 m 58 ls [])) (hC : ∀ z : Int32 × (Nat → Int64), y = .inr z → ∀ (H : Heap) (locs : List Loc), va_P (dC, dI) vwCl (wX1 oW aW cI cJ cZ z.2 W_heightOf W_currentOf W_placeOf W_isPlaced W_wide W_high W_treeCount) H → va_D A (wX1 oW aW cI cJ cZ z.2 W_heightOf W_currentOf W_placeOf W_isPlaced W_wide W_high W_treeCount) → va_S A s.heap H locs → ∀ ls : Array Slot, lv_has ls 8 [(0, .ref oW), (1, .int x1), (2, .long x2), (4, .int x4), (5, .long x5), (7, .int z.1)] → W p l e rX1_eliminate s m args below meth c H locs 0 0 (MQ below (dk_Qv (dC, dI) (dk_ty cI cJ cZ) (wX1 oW aW cI cJ cZ out.1 W_heightOf W_currentOf W_placeOf W_isPlaced W_wide W_high out.2) A) args s 0 0 A) (F0 m 29 ls [])) : ∀ (H : Heap) (locs : List Loc), va_P (dC, dI) vwCl (wX1 oW aW cI cJ cZ W_rows W_heightOf W_currentOf W_placeOf W_isPlaced W_wide W_high W_treeCount) H → va_D A (wX1 oW aW cI cJ cZ W_rows W_heightOf W_currentOf W_placeOf W_isPlaced W_wide W_high W_treeCount) → va_S A s.heap H locs → ∀ ls : Array Slot, lv_has ls 8 [(0, .ref oW), (1, .int x1), (2, .long x2), (4, .int x4), (5, .long x5), (7, .int x7)] → W p l e rX1_eliminate s m args below meth c H locs 0 0 (MQ below (dk_Qv (dC, dI) (dk_ty cI cJ cZ) (wX1 oW aW cI cJ cZ out.1 W_heightOf W_currentOf W_placeOf W_isPlaced W_wide W_high out.2) A) args s 0 0 A) (F0 m 52 ls []) := by
  obtain ⟨hx, hb, hr, hml, hown, hts, hlocks⟩ := id C
  intro H locs hP hD hS ls hl
  unfold jX1_eliminate_52 at h
  obtain ⟨x7_10, ex7_10⟩ : ∃ z : Int32, z = x7 + 1 := ⟨_, rfl⟩
  replace h := dk_let_to ex7_10 h
  refine lv_iinc (v := x7_10) (lv' := [(7, .int x7_10), (0, .ref oW), (1, .int x1), (2, .long x2), (4, .int x4), (5, .long x5)]) hx hb dX1_eliminate_52 hl (k := 5) rfl (by rw [ex7_10]; rfl) (by decide) rfl (fun ls hl => ?_)
  refine lv_goto (tgt := 29) hx hb dX1_eliminate_55 (by decide) ?_
  exact hC _ (Option.some.inj h).symm _ _ hP hD hS ls (lv_sub hl [1, 2, 3, 4, 5, 0] rfl)
set_option maxHeartbeats 4000000 in
set_option maxRecDepth 100000 in
theorem tX1_eliminate_29 (C : dk_C p s m meth c args cX1_eliminate none 8 RX1 vsX1_eliminate) (hK : va_K (dC, dI) vwCl (dk_ty cI cJ cZ) s) (hA : ∀ q : Nat, s.heap.size ≤ q → A q) {out : (Nat → Int64) × Int64} {x1 : Int32} {x2 : Int64} {x4 : Int32} {x5 : Int64} {st : Int32 × (Nat → Int64)} {y : ((Nat → Int64)) ⊕ (Int32 × (Nat → Int64))} (h : bX1_eliminate_29 W_treeCount x1 x2 x4 x5 st = some y) (hE : ∀ z : (Nat → Int64), y = .inl z → ∀ (H : Heap) (locs : List Loc), va_P (dC, dI) vwCl (wX1 oW aW cI cJ cZ z W_heightOf W_currentOf W_placeOf W_isPlaced W_wide W_high W_treeCount) H → va_D A (wX1 oW aW cI cJ cZ z W_heightOf W_currentOf W_placeOf W_isPlaced W_wide W_high W_treeCount) → va_S A s.heap H locs → ∀ ls : Array Slot, lv_has ls 8 [(0, .ref oW), (1, .int x1), (4, .int x4), (5, .long x5)] → W p l e rX1_eliminate s m args below meth c H locs 0 0 (MQ below (dk_Qv (dC, dI) (dk_ty cI cJ cZ) (wX1 oW aW cI cJ cZ out.1 W_heightOf W_currentOf W_placeOf W_isPlaced W_wide W_high out.2) A) args s 0 0 A) (F0 m 58 ls [])) (hC : ∀ z : Int32 × (Nat → Int64), y = .inr z → ∀ (H : Heap) (locs : List Loc), va_P (dC, dI) vwCl (wX1 oW aW cI cJ cZ z.2 W_heightOf W_currentOf W_placeOf W_isPlaced W_wide W_high W_treeCount) H → va_D A (wX1 oW aW cI cJ cZ z.2 W_heightOf W_currentOf W_placeOf W_isPlaced W_wide W_high W_treeCount) → va_S A s.heap H locs → ∀ ls : Array Slot, lv_has ls 8 [(0, .ref oW), (1, .int x1), (2, .long x2), (4, .int x4), (5, .long x5), (7, .int z.1)] → W p l e rX1_eliminate s m args below meth c H locs 0 0 (MQ below (dk_Qv (dC, dI) (dk_ty cI cJ cZ) (wX1 oW aW cI cJ cZ out.1 W_heightOf W_currentOf W_placeOf W_isPlaced W_wide W_high out.2) A) args s 0 0 A) (F0 m 29 ls [])) : ∀ (H : Heap) (locs : List Loc), va_P (dC, dI) vwCl (wX1 oW aW cI cJ cZ st.2 W_heightOf W_currentOf W_placeOf W_isPlaced W_wide W_high W_treeCount) H → va_D A (wX1 oW aW cI cJ cZ st.2 W_heightOf W_currentOf W_placeOf W_isPlaced W_wide W_high W_treeCount) → va_S A s.heap H locs → ∀ ls : Array Slot, lv_has ls 8 [(0, .ref oW), (1, .int x1), (2, .long x2), (4, .int x4), (5, .long x5), (7, .int st.1)] → W p l e rX1_eliminate s m args below meth c H locs 0 0 (MQ below (dk_Qv (dC, dI) (dk_ty cI cJ cZ) (wX1 oW aW cI cJ cZ out.1 W_heightOf W_currentOf W_placeOf W_isPlaced W_wide W_high out.2) A) args s 0 0 A) (F0 m 29 ls []) := by
  obtain ⟨hx, hb, hr, hml, hown, hts, hlocks⟩ := id C
  intro H locs hP hD hS ls hl
  unfold bX1_eliminate_29 at h
  refine lv_iload hx hb dX1_eliminate_29 (lv_at hl 5 rfl) ?_
  refine lv_iload_n hx hb dX1_eliminate_31 rfl (lv_at hl 1 rfl) ?_
  refine lv_icmp_ge (tgt := 58) hx hb dX1_eliminate_32 (by decide) (fun c_7 => ?_) (fun c_7 => ?_)
  · replace h := dk_it c_7 h
    exact hE _ (Option.some.inj h).symm _ _ hP hD hS ls (lv_sub hl [0, 1, 3, 4] rfl)
  · replace h := dk_ie c_7 h
    refine lv_iload hx hb dX1_eliminate_35 (lv_at hl 5 rfl) ?_
    refine lv_iload hx hb dX1_eliminate_37 (lv_at hl 3 rfl) ?_
    refine lv_icmp_eq (tgt := 52) hx hb dX1_eliminate_39 (by decide) (fun c_8 => ?_) (fun c_8 => ?_)
    · replace h := dk_it c_8 h
      exact kX1_eliminate_52 C hK hA h hE hC _ _ hP hD hS ls (lv_sub hl [0, 1, 2, 3, 4, 5] rfl)
    · replace h := dk_ie c_8 h
      refine lv_aload_n hx hb dX1_eliminate_42 rfl (lv_at hl 0 rfl) ?_
      refine lv_iload hx hb dX1_eliminate_43 (lv_at hl 5 rfl) ?_
      refine lv_iload hx hb dX1_eliminate_45 (lv_at hl 3 rfl) ?_
      refine lv_iload_n hx hb dX1_eliminate_47 rfl (lv_at hl 1 rfl) ?_
      refine lv_lload_n hx hb dX1_eliminate_48 rfl (lv_at hl 2 rfl) ?_
      obtain ⟨r_9, hcr_9, h⟩ := dk_bnd_to h
      refine dk_cVv (b := oW) (As := [.int st.1, .int x4, .int x1, .long x2]) (rest := []) (wc := (wX1 oW aW cI cJ cZ st.2 W_heightOf W_currentOf W_placeOf W_isPlaced W_wide W_high W_treeCount)) (wc' := (wX1 oW aW cI cJ cZ r_9 W_heightOf W_currentOf W_placeOf W_isPlaced W_wide W_high W_treeCount)) (wr := []) (ws' := (wX1 oW aW cI cJ cZ r_9 W_heightOf W_currentOf W_placeOf W_isPlaced W_wide W_high W_treeCount)) C hK hP hD hS hA (mX1_reduceRow l dC dI cI cJ cZ hcr_9 _) (cwV 4 hts gvX1_eliminate_X1_reduceRow rfl rfl rfl (by decide +kernel) ⟨Nat.le_of_ble_eq_true rfl, Nat.le_of_ble_eq_true rfl⟩) [0, 1, 2, 3, 4, 5] [] [0, 1, 2, 3, 4, 5] rfl (by decide) rfl (by decide) (by decide) rfl (by decide) 0 1 rfl rfl rfl hl.1 rfl (Nat.le_of_ble_eq_true rfl) ⟨Nat.le_of_ble_eq_true rfl, Nat.le_of_ble_eq_true rfl⟩ dX1_eliminate_49 (fun H locs hP hD hS => ?_)
      exact kX1_eliminate_52 C hK hA h hE hC _ _ hP hD hS ls (lv_sub hl [0, 1, 2, 3, 4, 5] rfl)
set_option maxHeartbeats 4000000 in
set_option maxRecDepth 100000 in
theorem lX1_eliminate_29 (C : dk_C p s m meth c args cX1_eliminate none 8 RX1 vsX1_eliminate) (hK : va_K (dC, dI) vwCl (dk_ty cI cJ cZ) s) (hA : ∀ q : Nat, s.heap.size ≤ q → A q) {out : (Nat → Int64) × Int64} {x1 : Int32} {x2 : Int64} {x4 : Int32} {x5 : Int64} {n : Nat} {st : Int32 × (Nat → Int64)} {r : (Nat → Int64)} (h : dk_loop (bX1_eliminate_29 W_treeCount x1 x2 x4 x5) n st = some r) (hE : ∀ (H : Heap) (locs : List Loc), va_P (dC, dI) vwCl (wX1 oW aW cI cJ cZ r W_heightOf W_currentOf W_placeOf W_isPlaced W_wide W_high W_treeCount) H → va_D A (wX1 oW aW cI cJ cZ r W_heightOf W_currentOf W_placeOf W_isPlaced W_wide W_high W_treeCount) → va_S A s.heap H locs → ∀ ls : Array Slot, lv_has ls 8 [(0, .ref oW), (1, .int x1), (4, .int x4), (5, .long x5)] → W p l e rX1_eliminate s m args below meth c H locs 0 0 (MQ below (dk_Qv (dC, dI) (dk_ty cI cJ cZ) (wX1 oW aW cI cJ cZ out.1 W_heightOf W_currentOf W_placeOf W_isPlaced W_wide W_high out.2) A) args s 0 0 A) (F0 m 58 ls [])) : ∀ (H : Heap) (locs : List Loc), va_P (dC, dI) vwCl (wX1 oW aW cI cJ cZ st.2 W_heightOf W_currentOf W_placeOf W_isPlaced W_wide W_high W_treeCount) H → va_D A (wX1 oW aW cI cJ cZ st.2 W_heightOf W_currentOf W_placeOf W_isPlaced W_wide W_high W_treeCount) → va_S A s.heap H locs → ∀ ls : Array Slot, lv_has ls 8 [(0, .ref oW), (1, .int x1), (2, .long x2), (4, .int x4), (5, .long x5), (7, .int st.1)] → W p l e rX1_eliminate s m args below meth c H locs 0 0 (MQ below (dk_Qv (dC, dI) (dk_ty cI cJ cZ) (wX1 oW aW cI cJ cZ out.1 W_heightOf W_currentOf W_placeOf W_isPlaced W_wide W_high out.2) A) args s 0 0 A) (F0 m 29 ls []) :=
  dk_loopW (P := fun st => ∀ (H : Heap) (locs : List Loc), va_P (dC, dI) vwCl (wX1 oW aW cI cJ cZ st.2 W_heightOf W_currentOf W_placeOf W_isPlaced W_wide W_high W_treeCount) H → va_D A (wX1 oW aW cI cJ cZ st.2 W_heightOf W_currentOf W_placeOf W_isPlaced W_wide W_high W_treeCount) → va_S A s.heap H locs → ∀ ls : Array Slot, lv_has ls 8 [(0, .ref oW), (1, .int x1), (2, .long x2), (4, .int x4), (5, .long x5), (7, .int st.1)] → W p l e rX1_eliminate s m args below meth c H locs 0 0 (MQ below (dk_Qv (dC, dI) (dk_ty cI cJ cZ) (wX1 oW aW cI cJ cZ out.1 W_heightOf W_currentOf W_placeOf W_isPlaced W_wide W_high out.2) A) args s 0 0 A) (F0 m 29 ls [])) (K := fun r => ∀ (H : Heap) (locs : List Loc), va_P (dC, dI) vwCl (wX1 oW aW cI cJ cZ r W_heightOf W_currentOf W_placeOf W_isPlaced W_wide W_high W_treeCount) H → va_D A (wX1 oW aW cI cJ cZ r W_heightOf W_currentOf W_placeOf W_isPlaced W_wide W_high W_treeCount) → va_S A s.heap H locs → ∀ ls : Array Slot, lv_has ls 8 [(0, .ref oW), (1, .int x1), (4, .int x4), (5, .long x5)] → W p l e rX1_eliminate s m args below meth c H locs 0 0 (MQ below (dk_Qv (dC, dI) (dk_ty cI cJ cZ) (wX1 oW aW cI cJ cZ out.1 W_heightOf W_currentOf W_placeOf W_isPlaced W_wide W_high out.2) A) args s 0 0 A) (F0 m 58 ls [])) (fun st y hy k1 k2 => tX1_eliminate_29 C hK hA hy k1 k2) n st r h hE
set_option maxHeartbeats 4000000 in
set_option maxRecDepth 100000 in
theorem tX1_eliminate_5 (C : dk_C p s m meth c args cX1_eliminate none 8 RX1 vsX1_eliminate) (hK : va_K (dC, dI) vwCl (dk_ty cI cJ cZ) s) (hA : ∀ q : Nat, s.heap.size ≤ q → A q) {out : (Nat → Int64) × Int64} {x1 : Int32} {st : Int64 × Int32 × (Nat → Int64)} {y : (Int64 × (Nat → Int64)) ⊕ (Int64 × Int32 × (Nat → Int64))} (h : bX1_eliminate_5 W_treeCount x1 st = some y) (hE : ∀ z : Int64 × (Nat → Int64), y = .inl z → ∀ (H : Heap) (locs : List Loc), va_P (dC, dI) vwCl (wX1 oW aW cI cJ cZ z.2 W_heightOf W_currentOf W_placeOf W_isPlaced W_wide W_high W_treeCount) H → va_D A (wX1 oW aW cI cJ cZ z.2 W_heightOf W_currentOf W_placeOf W_isPlaced W_wide W_high W_treeCount) → va_S A s.heap H locs → ∀ ls : Array Slot, lv_has ls 8 [(0, .ref oW), (2, .long z.1)] → W p l e rX1_eliminate s m args below meth c H locs 0 0 (MQ below (dk_Qv (dC, dI) (dk_ty cI cJ cZ) (wX1 oW aW cI cJ cZ out.1 W_heightOf W_currentOf W_placeOf W_isPlaced W_wide W_high out.2) A) args s 0 0 A) (F0 m 67 ls [])) (hC : ∀ z : Int64 × Int32 × (Nat → Int64), y = .inr z → ∀ (H : Heap) (locs : List Loc), va_P (dC, dI) vwCl (wX1 oW aW cI cJ cZ z.2.2 W_heightOf W_currentOf W_placeOf W_isPlaced W_wide W_high W_treeCount) H → va_D A (wX1 oW aW cI cJ cZ z.2.2 W_heightOf W_currentOf W_placeOf W_isPlaced W_wide W_high W_treeCount) → va_S A s.heap H locs → ∀ ls : Array Slot, lv_has ls 8 [(0, .ref oW), (1, .int x1), (2, .long z.1), (4, .int z.2.1)] → W p l e rX1_eliminate s m args below meth c H locs 0 0 (MQ below (dk_Qv (dC, dI) (dk_ty cI cJ cZ) (wX1 oW aW cI cJ cZ out.1 W_heightOf W_currentOf W_placeOf W_isPlaced W_wide W_high out.2) A) args s 0 0 A) (F0 m 5 ls [])) : ∀ (H : Heap) (locs : List Loc), va_P (dC, dI) vwCl (wX1 oW aW cI cJ cZ st.2.2 W_heightOf W_currentOf W_placeOf W_isPlaced W_wide W_high W_treeCount) H → va_D A (wX1 oW aW cI cJ cZ st.2.2 W_heightOf W_currentOf W_placeOf W_isPlaced W_wide W_high W_treeCount) → va_S A s.heap H locs → ∀ ls : Array Slot, lv_has ls 8 [(0, .ref oW), (1, .int x1), (2, .long st.1), (4, .int st.2.1)] → W p l e rX1_eliminate s m args below meth c H locs 0 0 (MQ below (dk_Qv (dC, dI) (dk_ty cI cJ cZ) (wX1 oW aW cI cJ cZ out.1 W_heightOf W_currentOf W_placeOf W_isPlaced W_wide W_high out.2) A) args s 0 0 A) (F0 m 5 ls []) := by
  obtain ⟨hx, hb, hr, hml, hown, hts, hlocks⟩ := id C
  intro H locs hP hD hS ls hl
  unfold bX1_eliminate_5 at h
  refine lv_iload hx hb dX1_eliminate_5 (lv_at hl 3 rfl) ?_
  refine lv_iload_n hx hb dX1_eliminate_7 rfl (lv_at hl 1 rfl) ?_
  refine lv_icmp_ge (tgt := 67) hx hb dX1_eliminate_8 (by decide) (fun c_2 => ?_) (fun c_2 => ?_)
  · replace h := dk_it c_2 h
    exact hE _ (Option.some.inj h).symm _ _ hP hD hS ls (lv_sub hl [0, 2] rfl)
  · replace h := dk_ie c_2 h
    refine lv_aload_n hx hb dX1_eliminate_11 rfl (lv_at hl 0 rfl) ?_
    refine va_get (D := (dC, dI)) (ci := 1) (v := .ref (aW 0)) (C := RX1) (T := TX1) (N := 8) hx hb hts qX1_eliminate_X1 hown hK hP 0 rfl rfl 0 (by decide) (hts _ qX1_eliminate_f11) (fun _ h9 => h9) rfl dX1_eliminate_12 ?_
    refine lv_iload hx hb dX1_eliminate_15 (lv_at hl 3 rfl) ?_
    refine lv_bipush (v := 13) hx hb dX1_eliminate_17 (by decide) ?_
    refine lv_imul hx hb dX1_eliminate_19 ?_
    refine lv_iload hx hb dX1_eliminate_20 (lv_at hl 3 rfl) ?_
    refine lv_iadd hx hb dX1_eliminate_22 ?_
    obtain ⟨g_3, h⟩ := dk_gd_to h
    have g_3 := dk_in_to g_3
    refine va_lald hx hb hK hP 1 1 rfl rfl g_3 dX1_eliminate_23 ?_
    refine lv_topl (fun x5_4 ex5_4 => ?_)
    replace h := dk_let_to ex5_4 h
    refine lv_lstore (lv' := [(5, .long x5_4), (0, .ref oW), (1, .int x1), (2, .long st.1), (4, .int st.2.1)]) hx hb dX1_eliminate_24 hl (by decide) rfl (fun ls hl => ?_)
    refine lv_iconst (v := 0) hx hb dX1_eliminate_26 (by decide) ?_
    refine lv_istore (lv' := [(7, .int 0), (5, .long x5_4), (0, .ref oW), (1, .int x1), (2, .long st.1), (4, .int st.2.1)]) hx hb dX1_eliminate_27 hl (by decide) rfl (fun ls hl => ?_)
    obtain ⟨r_5, hLr_5, h⟩ := dk_bnd_to h
    refine lX1_eliminate_29 C hK hA hLr_5 (fun H locs hP hD hS ls hl => ?_) _ _ hP hD hS ls (lv_sub hl [2, 3, 4, 5, 1, 0] rfl)
    refine lv_lload hx hb dX1_eliminate_58 (lv_at hl 3 rfl) ?_
    refine lv_lstore_n (lv' := [(2, .long x5_4), (0, .ref oW), (1, .int x1), (4, .int st.2.1), (5, .long x5_4)]) hx hb dX1_eliminate_60 rfl hl (by decide) rfl (fun ls hl => ?_)
    obtain ⟨x4_6, ex4_6⟩ : ∃ z : Int32, z = st.2.1 + 1 := ⟨_, rfl⟩
    replace h := dk_let_to ex4_6 h
    refine lv_iinc (v := x4_6) (lv' := [(4, .int x4_6), (2, .long x5_4), (0, .ref oW), (1, .int x1), (5, .long x5_4)]) hx hb dX1_eliminate_61 hl (k := 3) rfl (by rw [ex4_6]; rfl) (by decide) rfl (fun ls hl => ?_)
    refine lv_goto (tgt := 5) hx hb dX1_eliminate_64 (by decide) ?_
    exact hC _ (Option.some.inj h).symm _ _ hP hD hS ls (lv_sub hl [2, 3, 1, 0] rfl)
set_option maxHeartbeats 4000000 in
set_option maxRecDepth 100000 in
theorem lX1_eliminate_5 (C : dk_C p s m meth c args cX1_eliminate none 8 RX1 vsX1_eliminate) (hK : va_K (dC, dI) vwCl (dk_ty cI cJ cZ) s) (hA : ∀ q : Nat, s.heap.size ≤ q → A q) {out : (Nat → Int64) × Int64} {x1 : Int32} {n : Nat} {st : Int64 × Int32 × (Nat → Int64)} {r : Int64 × (Nat → Int64)} (h : dk_loop (bX1_eliminate_5 W_treeCount x1) n st = some r) (hE : ∀ (H : Heap) (locs : List Loc), va_P (dC, dI) vwCl (wX1 oW aW cI cJ cZ r.2 W_heightOf W_currentOf W_placeOf W_isPlaced W_wide W_high W_treeCount) H → va_D A (wX1 oW aW cI cJ cZ r.2 W_heightOf W_currentOf W_placeOf W_isPlaced W_wide W_high W_treeCount) → va_S A s.heap H locs → ∀ ls : Array Slot, lv_has ls 8 [(0, .ref oW), (2, .long r.1)] → W p l e rX1_eliminate s m args below meth c H locs 0 0 (MQ below (dk_Qv (dC, dI) (dk_ty cI cJ cZ) (wX1 oW aW cI cJ cZ out.1 W_heightOf W_currentOf W_placeOf W_isPlaced W_wide W_high out.2) A) args s 0 0 A) (F0 m 67 ls [])) : ∀ (H : Heap) (locs : List Loc), va_P (dC, dI) vwCl (wX1 oW aW cI cJ cZ st.2.2 W_heightOf W_currentOf W_placeOf W_isPlaced W_wide W_high W_treeCount) H → va_D A (wX1 oW aW cI cJ cZ st.2.2 W_heightOf W_currentOf W_placeOf W_isPlaced W_wide W_high W_treeCount) → va_S A s.heap H locs → ∀ ls : Array Slot, lv_has ls 8 [(0, .ref oW), (1, .int x1), (2, .long st.1), (4, .int st.2.1)] → W p l e rX1_eliminate s m args below meth c H locs 0 0 (MQ below (dk_Qv (dC, dI) (dk_ty cI cJ cZ) (wX1 oW aW cI cJ cZ out.1 W_heightOf W_currentOf W_placeOf W_isPlaced W_wide W_high out.2) A) args s 0 0 A) (F0 m 5 ls []) :=
  dk_loopW (P := fun st => ∀ (H : Heap) (locs : List Loc), va_P (dC, dI) vwCl (wX1 oW aW cI cJ cZ st.2.2 W_heightOf W_currentOf W_placeOf W_isPlaced W_wide W_high W_treeCount) H → va_D A (wX1 oW aW cI cJ cZ st.2.2 W_heightOf W_currentOf W_placeOf W_isPlaced W_wide W_high W_treeCount) → va_S A s.heap H locs → ∀ ls : Array Slot, lv_has ls 8 [(0, .ref oW), (1, .int x1), (2, .long st.1), (4, .int st.2.1)] → W p l e rX1_eliminate s m args below meth c H locs 0 0 (MQ below (dk_Qv (dC, dI) (dk_ty cI cJ cZ) (wX1 oW aW cI cJ cZ out.1 W_heightOf W_currentOf W_placeOf W_isPlaced W_wide W_high out.2) A) args s 0 0 A) (F0 m 5 ls [])) (K := fun r => ∀ (H : Heap) (locs : List Loc), va_P (dC, dI) vwCl (wX1 oW aW cI cJ cZ r.2 W_heightOf W_currentOf W_placeOf W_isPlaced W_wide W_high W_treeCount) H → va_D A (wX1 oW aW cI cJ cZ r.2 W_heightOf W_currentOf W_placeOf W_isPlaced W_wide W_high W_treeCount) → va_S A s.heap H locs → ∀ ls : Array Slot, lv_has ls 8 [(0, .ref oW), (2, .long r.1)] → W p l e rX1_eliminate s m args below meth c H locs 0 0 (MQ below (dk_Qv (dC, dI) (dk_ty cI cJ cZ) (wX1 oW aW cI cJ cZ out.1 W_heightOf W_currentOf W_placeOf W_isPlaced W_wide W_high out.2) A) args s 0 0 A) (F0 m 67 ls [])) (fun st y hy k1 k2 => tX1_eliminate_5 C hK hA hy k1 k2) n st r h hE
end
set_option maxHeartbeats 4000000 in
set_option maxRecDepth 100000 in
theorem mX1_eliminate (l : Launch) (dC : Nat → ClassId) (dI : Nat → Nat → Nat) (cI cJ cZ : ClassId) {oW : Nat} {aW : Nat → Nat} {W_rows : Nat → Int64} {W_heightOf W_currentOf W_placeOf W_isPlaced : Nat → Int32} {W_wide W_high : Int32} {W_treeCount : Int64} {x1 : Int32} {out : (Nat → Int64) × Int64} (h : fX1_eliminate W_rows W_treeCount x1 = some out) (sz : Nat) : Met l yX1_eliminate vsX1_eliminate rX1_eliminate (va_Pc [.ref oW, .int x1] (dk_Pre (dC, dI) (dk_ty cI cJ cZ) (wX1 oW aW cI cJ cZ W_rows W_heightOf W_currentOf W_placeOf W_isPlaced W_wide W_high W_treeCount) sz)) (dk_Qv (dC, dI) (dk_ty cI cJ cZ) (wX1 oW aW cI cJ cZ out.1 W_heightOf W_currentOf W_placeOf W_isPlaced W_wide W_high out.2) (va_A (wX1 oW aW cI cJ cZ W_rows W_heightOf W_currentOf W_placeOf W_isPlaced W_wide W_high W_treeCount) sz)) 0 0 (va_A (wX1 oW aW cI cJ cZ W_rows W_heightOf W_currentOf W_placeOf W_isPlaced W_wide W_high W_treeCount) sz) := by
  refine dk_met (cc := cX1_eliminate) (maxL := 8) (ret := none) (Qc := fun A => dk_Qv (dC, dI) (dk_ty cI cJ cZ) (wX1 oW aW cI cJ cZ out.1 W_heightOf W_currentOf W_placeOf W_isPlaced W_wide W_high out.2) A) (by decide) rfl (Nat.le_of_ble_eq_true rfl) ?_
  intro p e s m below meth c A C hnm hA hK hP hD hS ls hl
  have C : dk_C p s m meth c _ cX1_eliminate none 8 RX1 vsX1_eliminate := C
  obtain ⟨hx, hb, hr, hml, hown, hts, hlocks⟩ := id C
  have hl : lv_has ls 8 [(0, .ref oW), (1, .int x1)] := hl
  unfold fX1_eliminate at h
  refine lv_lconst (v := 1) hx hb dX1_eliminate_0 (by decide) ?_
  refine lv_lstore_n (lv' := [(2, .long 1), (0, .ref oW), (1, .int x1)]) hx hb dX1_eliminate_1 rfl hl (by decide) rfl (fun ls hl => ?_)
  refine lv_iconst (v := 0) hx hb dX1_eliminate_2 (by decide) ?_
  refine lv_istore (lv' := [(4, .int 0), (2, .long 1), (0, .ref oW), (1, .int x1)]) hx hb dX1_eliminate_3 hl (by decide) rfl (fun ls hl => ?_)
  obtain ⟨r_1, hLr_1, h⟩ := dk_bnd_to h
  refine lX1_eliminate_5 C hK hA hLr_1 (fun H locs hP hD hS ls hl => ?_) _ _ hP hD hS ls (lv_sub hl [2, 3, 1, 0] rfl)
  refine lv_aload_n hx hb dX1_eliminate_67 rfl (lv_at hl 0 rfl) ?_
  refine lv_lload_n hx hb dX1_eliminate_68 rfl (lv_at hl 1 rfl) ?_
  refine va_put (D := (dC, dI)) (ci := 1) (v := .long r_1.1) (ty := .long) (C := RX1) (T := TX1) (N := 8) hx hb hts qX1_eliminate_X1 tyX1 tyX1_ok nmX1 hown hK hP hD hS 0 rfl rfl 7 (by decide) (hts _ qX1_eliminate_f36) (fun _ h9 => h9) rfl (by decide +kernel) rfl rfl (Nat.le_of_ble_eq_true rfl) dX1_eliminate_69 (fun H locs hP hD hS => ?_)
  have hP : va_P (dC, dI) vwCl (wX1 oW aW cI cJ cZ r_1.2 W_heightOf W_currentOf W_placeOf W_isPlaced W_wide W_high r_1.1) H := hP
  have hD : va_D A (wX1 oW aW cI cJ cZ r_1.2 W_heightOf W_currentOf W_placeOf W_isPlaced W_wide W_high r_1.1) := hD
  have e9 := Option.some.inj h
  subst e9
  exact dk_vret C hK hP hD hS dX1_eliminate_72
/-! ===== SquareTiler$Flow.placeAcross ===== -/
abbrev rX1_placeAcross : Room := { frames := 0, cells := 0, slots := 0, locals := 0 }
def ovX1_placeAcross : List Cond := [Cond.fieldLink RX1 25 "SquareTiler$Flow" "isPlaced" "[Z", Cond.fieldLink RX1 22 "SquareTiler$Flow" "placeOf" "[I"]
def vsX1_placeAcross : List Cond := .code yX1_placeAcross cX1_placeAcross 4 none :: (ovX1_placeAcross ++ (wsX10 ++ []))
theorem qX1_placeAcross_f25 : Cond.fieldLink RX1 25 "SquareTiler$Flow" "isPlaced" "[Z" ∈ vsX1_placeAcross := List.mem_cons_of_mem _ (List.mem_append_left _ (List.mem_of_getElem? (i := 0) rfl))
theorem qX1_placeAcross_f22 : Cond.fieldLink RX1 22 "SquareTiler$Flow" "placeOf" "[I" ∈ vsX1_placeAcross := List.mem_cons_of_mem _ (List.mem_append_left _ (List.mem_of_getElem? (i := 1) rfl))
theorem qX1_placeAcross_X1 : ∀ w ∈ u_ws RX1 TX1 8, w ∈ vsX1_placeAcross := fun w h => List.mem_cons_of_mem _ (List.mem_append_right _ (List.mem_append_left _ h))
theorem gd_vsX1_placeAcross : ∀ w ∈ vsX1_placeAcross, goodWord w = true := dk_cons rfl (dk_app (dk_all (by decide +kernel)) (dk_app gd_wsX10 dk_nil))
def jX1_placeAcross_42 (W_placeOf W_isPlaced : Nat → Int32) (x1 x2 x3 : Int32) : Option ((Nat → Int32) × (Nat → Int32)) := dk_gd (dk_in x2 44) (if (W_isPlaced x2.toNatClampNeg) = 0 then some (W_placeOf, W_isPlaced) else dk_gd (dk_in x1 44) (if (W_isPlaced x1.toNatClampNeg) = 0 then dk_let (upd W_placeOf x1.toNatClampNeg ((W_placeOf x2.toNatClampNeg) - x3)) (fun W_placeOf_11 => dk_let (upd W_isPlaced x1.toNatClampNeg (vp_nar .boolean 1)) (fun W_isPlaced_12 => some (W_placeOf_11, W_isPlaced_12))) else some (W_placeOf, W_isPlaced)))
def fX1_placeAcross (W_placeOf W_isPlaced : Nat → Int32) (x1 x2 x3 : Int32) : Option ((Nat → Int32) × (Nat → Int32)) := dk_gd (dk_in x1 44) (if (W_isPlaced x1.toNatClampNeg) = 0 then jX1_placeAcross_42 W_placeOf W_isPlaced x1 x2 x3 else dk_gd (dk_in x2 44) (if (W_isPlaced x2.toNatClampNeg) = 0 then dk_let (upd W_placeOf x2.toNatClampNeg ((W_placeOf x1.toNatClampNeg) + x3)) (fun W_placeOf_5 => dk_let (upd W_isPlaced x2.toNatClampNeg (vp_nar .boolean 1)) (fun W_isPlaced_6 => some (W_placeOf_5, W_isPlaced_6))) else jX1_placeAcross_42 W_placeOf W_isPlaced x1 x2 x3))
section
variable {p : Program} {l : Launch} {e : Env} {s : State} {m : MethodId} {args : Array Value} {below : List Frame} {meth : Method} {c : Code} {dC : Nat → ClassId} {dI : Nat → Nat → Nat} {cI cJ cZ : ClassId} {A : Nat → Prop} {oW : Nat} {aW : Nat → Nat} {W_rows : Nat → Int64} {W_heightOf W_currentOf W_placeOf W_isPlaced : Nat → Int32} {W_wide W_high : Int32} {W_treeCount : Int64}
set_option maxHeartbeats 4000000 in
set_option maxRecDepth 100000 in
theorem kX1_placeAcross_42 (C : dk_C p s m meth c args cX1_placeAcross none 4 RX1 vsX1_placeAcross) (hK : va_K (dC, dI) vwCl (dk_ty cI cJ cZ) s) (hA : ∀ q : Nat, s.heap.size ≤ q → A q) {out : (Nat → Int32) × (Nat → Int32)} {x1 x2 x3 : Int32} (h : jX1_placeAcross_42 W_placeOf W_isPlaced x1 x2 x3 = some out) : ∀ (H : Heap) (locs : List Loc), va_P (dC, dI) vwCl (wX1 oW aW cI cJ cZ W_rows W_heightOf W_currentOf W_placeOf W_isPlaced W_wide W_high W_treeCount) H → va_D A (wX1 oW aW cI cJ cZ W_rows W_heightOf W_currentOf W_placeOf W_isPlaced W_wide W_high W_treeCount) → va_S A s.heap H locs → ∀ ls : Array Slot, lv_has ls 4 [(0, .ref oW), (1, .int x1), (2, .int x2), (3, .int x3)] → W p l e rX1_placeAcross s m args below meth c H locs 0 0 (MQ below (dk_Qv (dC, dI) (dk_ty cI cJ cZ) (wX1 oW aW cI cJ cZ W_rows W_heightOf W_currentOf out.1 out.2 W_wide W_high W_treeCount) A) args s 0 0 A) (F0 m 42 ls []) := by
  obtain ⟨hx, hb, hr, hml, hown, hts, hlocks⟩ := id C
  intro H locs hP hD hS ls hl
  unfold jX1_placeAcross_42 at h
  refine lv_aload_n hx hb dX1_placeAcross_42 rfl (lv_at hl 0 rfl) ?_
  refine va_get (D := (dC, dI)) (ci := 1) (v := .ref (aW 4)) (C := RX1) (T := TX1) (N := 8) hx hb hts qX1_placeAcross_X1 hown hK hP 0 rfl rfl 4 (by decide) (hts _ qX1_placeAcross_f25) (fun _ h9 => h9) rfl dX1_placeAcross_43 ?_
  refine lv_iload_n hx hb dX1_placeAcross_46 rfl (lv_at hl 2 rfl) ?_
  obtain ⟨g_7, h⟩ := dk_gd_to h
  have g_7 := dk_in_to g_7
  refine va_zald hx hb hK hP 5 2 rfl rfl g_7 dX1_placeAcross_47 ?_
  refine lv_if_eq (tgt := 81) hx hb dX1_placeAcross_48 (by decide) (fun c_8 => ?_) (fun c_8 => ?_)
  · replace h := dk_it c_8 h
    have e9 := Option.some.inj h
    subst e9
    exact dk_vret C hK hP hD hS dX1_placeAcross_81
  · replace h := dk_ie c_8 h
    refine lv_aload_n hx hb dX1_placeAcross_51 rfl (lv_at hl 0 rfl) ?_
    refine va_get (D := (dC, dI)) (ci := 1) (v := .ref (aW 4)) (C := RX1) (T := TX1) (N := 8) hx hb hts qX1_placeAcross_X1 hown hK hP 0 rfl rfl 4 (by decide) (hts _ qX1_placeAcross_f25) (fun _ h9 => h9) rfl dX1_placeAcross_52 ?_
    refine lv_iload_n hx hb dX1_placeAcross_55 rfl (lv_at hl 1 rfl) ?_
    obtain ⟨g_9, h⟩ := dk_gd_to h
    have g_9 := dk_in_to g_9
    refine va_zald hx hb hK hP 5 2 rfl rfl g_9 dX1_placeAcross_56 ?_
    refine lv_if_ne (tgt := 81) hx hb dX1_placeAcross_57 (by decide) (fun c_10 => ?_) (fun c_10 => ?_)
    · replace h := dk_ie c_10 h
      have e9 := Option.some.inj h
      subst e9
      exact dk_vret C hK hP hD hS dX1_placeAcross_81
    · replace h := dk_it c_10 h
      refine lv_aload_n hx hb dX1_placeAcross_60 rfl (lv_at hl 0 rfl) ?_
      refine va_get (D := (dC, dI)) (ci := 1) (v := .ref (aW 3)) (C := RX1) (T := TX1) (N := 8) hx hb hts qX1_placeAcross_X1 hown hK hP 0 rfl rfl 3 (by decide) (hts _ qX1_placeAcross_f22) (fun _ h9 => h9) rfl dX1_placeAcross_61 ?_
      refine lv_iload_n hx hb dX1_placeAcross_64 rfl (lv_at hl 1 rfl) ?_
      refine lv_aload_n hx hb dX1_placeAcross_65 rfl (lv_at hl 0 rfl) ?_
      refine va_get (D := (dC, dI)) (ci := 1) (v := .ref (aW 3)) (C := RX1) (T := TX1) (N := 8) hx hb hts qX1_placeAcross_X1 hown hK hP 0 rfl rfl 3 (by decide) (hts _ qX1_placeAcross_f22) (fun _ h9 => h9) rfl dX1_placeAcross_66 ?_
      refine lv_iload_n hx hb dX1_placeAcross_69 rfl (lv_at hl 2 rfl) ?_
      refine va_iald hx hb hK hP 4 0 rfl rfl g_7 dX1_placeAcross_70 ?_
      refine lv_iload_n hx hb dX1_placeAcross_71 rfl (lv_at hl 3 rfl) ?_
      refine lv_isub hx hb dX1_placeAcross_72 ?_
      refine va_iast hx hb hK hP hD hS 4 0 rfl rfl g_9 dX1_placeAcross_73 (fun H locs hP hD hS => ?_)
      obtain ⟨W_placeOf_11, eW_placeOf_11⟩ : ∃ z : Nat → Int32, z = upd W_placeOf x1.toNatClampNeg ((W_placeOf x2.toNatClampNeg) - x3) := ⟨_, rfl⟩
      replace h := dk_let_to eW_placeOf_11 h
      have hP : va_P (dC, dI) vwCl (wX1 oW aW cI cJ cZ W_rows W_heightOf W_currentOf W_placeOf_11 W_isPlaced W_wide W_high W_treeCount) H := by rw [eW_placeOf_11]; exact hP
      have hD : va_D A (wX1 oW aW cI cJ cZ W_rows W_heightOf W_currentOf W_placeOf_11 W_isPlaced W_wide W_high W_treeCount) := by rw [eW_placeOf_11]; exact hD
      refine lv_aload_n hx hb dX1_placeAcross_74 rfl (lv_at hl 0 rfl) ?_
      refine va_get (D := (dC, dI)) (ci := 1) (v := .ref (aW 4)) (C := RX1) (T := TX1) (N := 8) hx hb hts qX1_placeAcross_X1 hown hK hP 0 rfl rfl 4 (by decide) (hts _ qX1_placeAcross_f25) (fun _ h9 => h9) rfl dX1_placeAcross_75 ?_
      refine lv_iload_n hx hb dX1_placeAcross_78 rfl (lv_at hl 1 rfl) ?_
      refine lv_iconst (v := 1) hx hb dX1_placeAcross_79 (by decide) ?_
      refine va_zast hx hb hK hP hD hS 5 2 rfl rfl g_9 dX1_placeAcross_80 (fun H locs hP hD hS => ?_)
      obtain ⟨W_isPlaced_12, eW_isPlaced_12⟩ : ∃ z : Nat → Int32, z = upd W_isPlaced x1.toNatClampNeg (vp_nar .boolean 1) := ⟨_, rfl⟩
      replace h := dk_let_to eW_isPlaced_12 h
      have hP : va_P (dC, dI) vwCl (wX1 oW aW cI cJ cZ W_rows W_heightOf W_currentOf W_placeOf_11 W_isPlaced_12 W_wide W_high W_treeCount) H := by rw [eW_isPlaced_12]; exact hP
      have hD : va_D A (wX1 oW aW cI cJ cZ W_rows W_heightOf W_currentOf W_placeOf_11 W_isPlaced_12 W_wide W_high W_treeCount) := by rw [eW_isPlaced_12]; exact hD
      have e9 := Option.some.inj h
      subst e9
      exact dk_vret C hK hP hD hS dX1_placeAcross_81
end
set_option maxHeartbeats 4000000 in
set_option maxRecDepth 100000 in
theorem mX1_placeAcross (l : Launch) (dC : Nat → ClassId) (dI : Nat → Nat → Nat) (cI cJ cZ : ClassId) {oW : Nat} {aW : Nat → Nat} {W_rows : Nat → Int64} {W_heightOf W_currentOf W_placeOf W_isPlaced : Nat → Int32} {W_wide W_high : Int32} {W_treeCount : Int64} {x1 x2 x3 : Int32} {out : (Nat → Int32) × (Nat → Int32)} (h : fX1_placeAcross W_placeOf W_isPlaced x1 x2 x3 = some out) (sz : Nat) : Met l yX1_placeAcross vsX1_placeAcross rX1_placeAcross (va_Pc [.ref oW, .int x1, .int x2, .int x3] (dk_Pre (dC, dI) (dk_ty cI cJ cZ) (wX1 oW aW cI cJ cZ W_rows W_heightOf W_currentOf W_placeOf W_isPlaced W_wide W_high W_treeCount) sz)) (dk_Qv (dC, dI) (dk_ty cI cJ cZ) (wX1 oW aW cI cJ cZ W_rows W_heightOf W_currentOf out.1 out.2 W_wide W_high W_treeCount) (va_A (wX1 oW aW cI cJ cZ W_rows W_heightOf W_currentOf W_placeOf W_isPlaced W_wide W_high W_treeCount) sz)) 0 0 (va_A (wX1 oW aW cI cJ cZ W_rows W_heightOf W_currentOf W_placeOf W_isPlaced W_wide W_high W_treeCount) sz) := by
  refine dk_met (cc := cX1_placeAcross) (maxL := 4) (ret := none) (Qc := fun A => dk_Qv (dC, dI) (dk_ty cI cJ cZ) (wX1 oW aW cI cJ cZ W_rows W_heightOf W_currentOf out.1 out.2 W_wide W_high W_treeCount) A) (by decide) rfl (Nat.le_of_ble_eq_true rfl) ?_
  intro p e s m below meth c A C hnm hA hK hP hD hS ls hl
  have C : dk_C p s m meth c _ cX1_placeAcross none 4 RX1 vsX1_placeAcross := C
  obtain ⟨hx, hb, hr, hml, hown, hts, hlocks⟩ := id C
  have hl : lv_has ls 4 [(0, .ref oW), (1, .int x1), (2, .int x2), (3, .int x3)] := hl
  unfold fX1_placeAcross at h
  refine lv_aload_n hx hb dX1_placeAcross_0 rfl (lv_at hl 0 rfl) ?_
  refine va_get (D := (dC, dI)) (ci := 1) (v := .ref (aW 4)) (C := RX1) (T := TX1) (N := 8) hx hb hts qX1_placeAcross_X1 hown hK hP 0 rfl rfl 4 (by decide) (hts _ qX1_placeAcross_f25) (fun _ h9 => h9) rfl dX1_placeAcross_1 ?_
  refine lv_iload_n hx hb dX1_placeAcross_4 rfl (lv_at hl 1 rfl) ?_
  obtain ⟨g_1, h⟩ := dk_gd_to h
  have g_1 := dk_in_to g_1
  refine va_zald hx hb hK hP 5 2 rfl rfl g_1 dX1_placeAcross_5 ?_
  refine lv_if_eq (tgt := 42) hx hb dX1_placeAcross_6 (by decide) (fun c_2 => ?_) (fun c_2 => ?_)
  · replace h := dk_it c_2 h
    exact kX1_placeAcross_42 C hK hA h _ _ hP hD hS ls (lv_sub hl [0, 1, 2, 3] rfl)
  · replace h := dk_ie c_2 h
    refine lv_aload_n hx hb dX1_placeAcross_9 rfl (lv_at hl 0 rfl) ?_
    refine va_get (D := (dC, dI)) (ci := 1) (v := .ref (aW 4)) (C := RX1) (T := TX1) (N := 8) hx hb hts qX1_placeAcross_X1 hown hK hP 0 rfl rfl 4 (by decide) (hts _ qX1_placeAcross_f25) (fun _ h9 => h9) rfl dX1_placeAcross_10 ?_
    refine lv_iload_n hx hb dX1_placeAcross_13 rfl (lv_at hl 2 rfl) ?_
    obtain ⟨g_3, h⟩ := dk_gd_to h
    have g_3 := dk_in_to g_3
    refine va_zald hx hb hK hP 5 2 rfl rfl g_3 dX1_placeAcross_14 ?_
    refine lv_if_ne (tgt := 42) hx hb dX1_placeAcross_15 (by decide) (fun c_4 => ?_) (fun c_4 => ?_)
    · replace h := dk_ie c_4 h
      exact kX1_placeAcross_42 C hK hA h _ _ hP hD hS ls (lv_sub hl [0, 1, 2, 3] rfl)
    · replace h := dk_it c_4 h
      refine lv_aload_n hx hb dX1_placeAcross_18 rfl (lv_at hl 0 rfl) ?_
      refine va_get (D := (dC, dI)) (ci := 1) (v := .ref (aW 3)) (C := RX1) (T := TX1) (N := 8) hx hb hts qX1_placeAcross_X1 hown hK hP 0 rfl rfl 3 (by decide) (hts _ qX1_placeAcross_f22) (fun _ h9 => h9) rfl dX1_placeAcross_19 ?_
      refine lv_iload_n hx hb dX1_placeAcross_22 rfl (lv_at hl 2 rfl) ?_
      refine lv_aload_n hx hb dX1_placeAcross_23 rfl (lv_at hl 0 rfl) ?_
      refine va_get (D := (dC, dI)) (ci := 1) (v := .ref (aW 3)) (C := RX1) (T := TX1) (N := 8) hx hb hts qX1_placeAcross_X1 hown hK hP 0 rfl rfl 3 (by decide) (hts _ qX1_placeAcross_f22) (fun _ h9 => h9) rfl dX1_placeAcross_24 ?_
      refine lv_iload_n hx hb dX1_placeAcross_27 rfl (lv_at hl 1 rfl) ?_
      refine va_iald hx hb hK hP 4 0 rfl rfl g_1 dX1_placeAcross_28 ?_
      refine lv_iload_n hx hb dX1_placeAcross_29 rfl (lv_at hl 3 rfl) ?_
      refine lv_iadd hx hb dX1_placeAcross_30 ?_
      refine va_iast hx hb hK hP hD hS 4 0 rfl rfl g_3 dX1_placeAcross_31 (fun H locs hP hD hS => ?_)
      obtain ⟨W_placeOf_5, eW_placeOf_5⟩ : ∃ z : Nat → Int32, z = upd W_placeOf x2.toNatClampNeg ((W_placeOf x1.toNatClampNeg) + x3) := ⟨_, rfl⟩
      replace h := dk_let_to eW_placeOf_5 h
      have hP : va_P (dC, dI) vwCl (wX1 oW aW cI cJ cZ W_rows W_heightOf W_currentOf W_placeOf_5 W_isPlaced W_wide W_high W_treeCount) H := by rw [eW_placeOf_5]; exact hP
      have hD : va_D A (wX1 oW aW cI cJ cZ W_rows W_heightOf W_currentOf W_placeOf_5 W_isPlaced W_wide W_high W_treeCount) := by rw [eW_placeOf_5]; exact hD
      refine lv_aload_n hx hb dX1_placeAcross_32 rfl (lv_at hl 0 rfl) ?_
      refine va_get (D := (dC, dI)) (ci := 1) (v := .ref (aW 4)) (C := RX1) (T := TX1) (N := 8) hx hb hts qX1_placeAcross_X1 hown hK hP 0 rfl rfl 4 (by decide) (hts _ qX1_placeAcross_f25) (fun _ h9 => h9) rfl dX1_placeAcross_33 ?_
      refine lv_iload_n hx hb dX1_placeAcross_36 rfl (lv_at hl 2 rfl) ?_
      refine lv_iconst (v := 1) hx hb dX1_placeAcross_37 (by decide) ?_
      refine va_zast hx hb hK hP hD hS 5 2 rfl rfl g_3 dX1_placeAcross_38 (fun H locs hP hD hS => ?_)
      obtain ⟨W_isPlaced_6, eW_isPlaced_6⟩ : ∃ z : Nat → Int32, z = upd W_isPlaced x2.toNatClampNeg (vp_nar .boolean 1) := ⟨_, rfl⟩
      replace h := dk_let_to eW_isPlaced_6 h
      have hP : va_P (dC, dI) vwCl (wX1 oW aW cI cJ cZ W_rows W_heightOf W_currentOf W_placeOf_5 W_isPlaced_6 W_wide W_high W_treeCount) H := by rw [eW_isPlaced_6]; exact hP
      have hD : va_D A (wX1 oW aW cI cJ cZ W_rows W_heightOf W_currentOf W_placeOf_5 W_isPlaced_6 W_wide W_high W_treeCount) := by rw [eW_isPlaced_6]; exact hD
      refine lv_goto (tgt := 81) hx hb dX1_placeAcross_39 (by decide) ?_
      have e9 := Option.some.inj h
      subst e9
      exact dk_vret C hK hP hD hS dX1_placeAcross_81
/-! ===== SquareTiler$Flow.placeFaces ===== -/
abbrev rX1_placeFaces : Room := { frames := 1, cells := 0, slots := 0, locals := 23 }
def ovX1_placeFaces : List Cond := [Cond.fieldLink RX1 22 "SquareTiler$Flow" "placeOf" "[I", Cond.fieldLink RX1 40 "SquareTiler$Net" "power" "I", Cond.fieldLink RX1 25 "SquareTiler$Flow" "isPlaced" "[Z", Cond.fieldLink RX1 94 "SquareTiler$FaceMap" "howMany" "I", Cond.fieldLink RX1 73 "SquareTiler$Net" "wires" "I", Cond.fieldLink RX1 19 "SquareTiler$Flow" "currentOf" "[I", Cond.methodLink RX1 99 yX0_leftOf, Cond.instanceMethod yX0_leftOf, Cond.selects RX0 yX0_leftOf yX0_leftOf, Cond.initialized RX0, Cond.methodLink RX1 103 yX0_rightOf, Cond.instanceMethod yX0_rightOf, Cond.selects RX0 yX0_rightOf yX0_rightOf, Cond.methodLink RX1 106 yX1_placeAcross, Cond.instanceMethod yX1_placeAcross, Cond.selects RX1 yX1_placeAcross yX1_placeAcross, Cond.initialized RX1]
def vsX1_placeFaces : List Cond := .code yX1_placeFaces cX1_placeFaces 5 none :: (ovX1_placeFaces ++ (wsX10 ++ (wsX40 ++ (wsX00 ++ (vsX0_leftOf ++ (vsX0_rightOf ++ (vsX1_placeAcross ++ [])))))))
theorem qX1_placeFaces_f22 : Cond.fieldLink RX1 22 "SquareTiler$Flow" "placeOf" "[I" ∈ vsX1_placeFaces := List.mem_cons_of_mem _ (List.mem_append_left _ (List.mem_of_getElem? (i := 0) rfl))
theorem qX1_placeFaces_f40 : Cond.fieldLink RX1 40 "SquareTiler$Net" "power" "I" ∈ vsX1_placeFaces := List.mem_cons_of_mem _ (List.mem_append_left _ (List.mem_of_getElem? (i := 1) rfl))
theorem qX1_placeFaces_f25 : Cond.fieldLink RX1 25 "SquareTiler$Flow" "isPlaced" "[Z" ∈ vsX1_placeFaces := List.mem_cons_of_mem _ (List.mem_append_left _ (List.mem_of_getElem? (i := 2) rfl))
theorem qX1_placeFaces_f94 : Cond.fieldLink RX1 94 "SquareTiler$FaceMap" "howMany" "I" ∈ vsX1_placeFaces := List.mem_cons_of_mem _ (List.mem_append_left _ (List.mem_of_getElem? (i := 3) rfl))
theorem qX1_placeFaces_f73 : Cond.fieldLink RX1 73 "SquareTiler$Net" "wires" "I" ∈ vsX1_placeFaces := List.mem_cons_of_mem _ (List.mem_append_left _ (List.mem_of_getElem? (i := 4) rfl))
theorem qX1_placeFaces_f19 : Cond.fieldLink RX1 19 "SquareTiler$Flow" "currentOf" "[I" ∈ vsX1_placeFaces := List.mem_cons_of_mem _ (List.mem_append_left _ (List.mem_of_getElem? (i := 5) rfl))
theorem qX1_placeFaces_w6 : Cond.methodLink RX1 99 yX0_leftOf ∈ vsX1_placeFaces := List.mem_cons_of_mem _ (List.mem_append_left _ (List.mem_of_getElem? (i := 6) rfl))
theorem qX1_placeFaces_w7 : Cond.instanceMethod yX0_leftOf ∈ vsX1_placeFaces := List.mem_cons_of_mem _ (List.mem_append_left _ (List.mem_of_getElem? (i := 7) rfl))
theorem qX1_placeFaces_w8 : Cond.selects RX0 yX0_leftOf yX0_leftOf ∈ vsX1_placeFaces := List.mem_cons_of_mem _ (List.mem_append_left _ (List.mem_of_getElem? (i := 8) rfl))
theorem qX1_placeFaces_w9 : Cond.initialized RX0 ∈ vsX1_placeFaces := List.mem_cons_of_mem _ (List.mem_append_left _ (List.mem_of_getElem? (i := 9) rfl))
theorem qX1_placeFaces_w10 : Cond.methodLink RX1 103 yX0_rightOf ∈ vsX1_placeFaces := List.mem_cons_of_mem _ (List.mem_append_left _ (List.mem_of_getElem? (i := 10) rfl))
theorem qX1_placeFaces_w11 : Cond.instanceMethod yX0_rightOf ∈ vsX1_placeFaces := List.mem_cons_of_mem _ (List.mem_append_left _ (List.mem_of_getElem? (i := 11) rfl))
theorem qX1_placeFaces_w12 : Cond.selects RX0 yX0_rightOf yX0_rightOf ∈ vsX1_placeFaces := List.mem_cons_of_mem _ (List.mem_append_left _ (List.mem_of_getElem? (i := 12) rfl))
theorem qX1_placeFaces_w13 : Cond.methodLink RX1 106 yX1_placeAcross ∈ vsX1_placeFaces := List.mem_cons_of_mem _ (List.mem_append_left _ (List.mem_of_getElem? (i := 13) rfl))
theorem qX1_placeFaces_w14 : Cond.instanceMethod yX1_placeAcross ∈ vsX1_placeFaces := List.mem_cons_of_mem _ (List.mem_append_left _ (List.mem_of_getElem? (i := 14) rfl))
theorem qX1_placeFaces_w15 : Cond.selects RX1 yX1_placeAcross yX1_placeAcross ∈ vsX1_placeFaces := List.mem_cons_of_mem _ (List.mem_append_left _ (List.mem_of_getElem? (i := 15) rfl))
theorem qX1_placeFaces_w16 : Cond.initialized RX1 ∈ vsX1_placeFaces := List.mem_cons_of_mem _ (List.mem_append_left _ (List.mem_of_getElem? (i := 16) rfl))
theorem qX1_placeFaces_X1 : ∀ w ∈ u_ws RX1 TX1 8, w ∈ vsX1_placeFaces := fun w h => List.mem_cons_of_mem _ (List.mem_append_right _ (List.mem_append_left _ h))
theorem qX1_placeFaces_X4 : ∀ w ∈ u_ws RX4 TX4 10, w ∈ vsX1_placeFaces := fun w h => List.mem_cons_of_mem _ (List.mem_append_right _ (List.mem_append_right _ (List.mem_append_left _ h)))
theorem qX1_placeFaces_X0 : ∀ w ∈ u_ws RX0 TX0 3, w ∈ vsX1_placeFaces := fun w h => List.mem_cons_of_mem _ (List.mem_append_right _ (List.mem_append_right _ (List.mem_append_right _ (List.mem_append_left _ h))))
theorem gd_vsX1_placeFaces : ∀ w ∈ vsX1_placeFaces, goodWord w = true := dk_cons rfl (dk_app (dk_all (by decide +kernel)) (dk_app gd_wsX10 (dk_app gd_wsX40 (dk_app gd_wsX00 (dk_app gd_vsX0_leftOf (dk_app gd_vsX0_rightOf (dk_app gd_vsX1_placeAcross dk_nil)))))))
theorem gvX1_placeFaces_X0_leftOf : GoodIn vsX1_placeFaces (wsV RX1 99 RX0 yX0_leftOf vsX0_leftOf) := goodIn_app (dk_g4 qX1_placeFaces_w6 qX1_placeFaces_w7 qX1_placeFaces_w8 qX1_placeFaces_w9 rfl) (dk_gIn (fun w h => List.mem_cons_of_mem _ (List.mem_append_right _ (List.mem_append_right _ (List.mem_append_right _ (List.mem_append_right _ (List.mem_append_left _ h)))))) gd_vsX0_leftOf)
theorem gvX1_placeFaces_X0_rightOf : GoodIn vsX1_placeFaces (wsV RX1 103 RX0 yX0_rightOf vsX0_rightOf) := goodIn_app (dk_g4 qX1_placeFaces_w10 qX1_placeFaces_w11 qX1_placeFaces_w12 qX1_placeFaces_w9 rfl) (dk_gIn (fun w h => List.mem_cons_of_mem _ (List.mem_append_right _ (List.mem_append_right _ (List.mem_append_right _ (List.mem_append_right _ (List.mem_append_right _ (List.mem_append_left _ h))))))) gd_vsX0_rightOf)
theorem gvX1_placeFaces_X1_placeAcross : GoodIn vsX1_placeFaces (wsV RX1 106 RX1 yX1_placeAcross vsX1_placeAcross) := goodIn_app (dk_g4 qX1_placeFaces_w13 qX1_placeFaces_w14 qX1_placeFaces_w15 qX1_placeFaces_w16 rfl) (dk_gIn (fun w h => List.mem_cons_of_mem _ (List.mem_append_right _ (List.mem_append_right _ (List.mem_append_right _ (List.mem_append_right _ (List.mem_append_right _ (List.mem_append_right _ (List.mem_append_left _ h)))))))) gd_vsX1_placeAcross)
def bX1_placeFaces_2 (W_currentOf W_placeOf : Nat → Int32) (N_wires N_power : Int32) (F_faceOf : Nat → Int32) (F_howMany : Int32) (st : Int32 × (Nat → Int32)) : Option (((Nat → Int32)) ⊕ (Int32 × (Nat → Int32))) := if F_howMany ≤ st.1 then some (.inl st.2) else dk_gd (dk_in st.1 44) (dk_let (upd st.2 st.1.toNatClampNeg (vp_nar .boolean 0)) (fun W_isPlaced_11 => dk_let (st.1 + 1) (fun x3_12 => some (.inr (x3_12, W_isPlaced_11)))))
def jX1_placeFaces_105 (W_currentOf W_placeOf W_isPlaced : Nat → Int32) (N_wires N_power : Int32) (F_faceOf : Nat → Int32) (F_howMany x3 x4 : Int32) : Option (((Nat → Int32) × (Nat → Int32)) ⊕ (Int32 × (Nat → Int32) × (Nat → Int32))) := dk_let (x4 + 1) (fun x4_22 => some (.inr (x4_22, W_placeOf, W_isPlaced)))
def bX1_placeFaces_64 (W_currentOf : Nat → Int32) (N_wires N_power : Int32) (F_faceOf : Nat → Int32) (F_howMany x3 : Int32) (st : Int32 × (Nat → Int32) × (Nat → Int32)) : Option (((Nat → Int32) × (Nat → Int32)) ⊕ (Int32 × (Nat → Int32) × (Nat → Int32))) := if N_wires ≤ st.1 then some (.inl (st.2.1, st.2.2)) else if st.1 = N_power then jX1_placeFaces_105 W_currentOf st.2.1 st.2.2 N_wires N_power F_faceOf F_howMany x3 st.1 else dk_bnd (fX0_rightOf F_faceOf st.1) (fun r_18 => dk_bnd (fX0_leftOf F_faceOf st.1) (fun r_19 => dk_gd (dk_in st.1 22) (dk_bnd (fX1_placeAcross st.2.1 st.2.2 r_18 r_19 (W_currentOf st.1.toNatClampNeg)) (fun r_21 => jX1_placeFaces_105 W_currentOf r_21.1 r_21.2 N_wires N_power F_faceOf F_howMany x3 st.1))))
def bX1_placeFaces_53 (W_currentOf : Nat → Int32) (N_wires N_power : Int32) (F_faceOf : Nat → Int32) (F_howMany : Int32) (st : Int32 × (Nat → Int32) × (Nat → Int32)) : Option (((Nat → Int32) × (Nat → Int32)) ⊕ (Int32 × (Nat → Int32) × (Nat → Int32))) := if F_howMany ≤ st.1 then some (.inl (st.2.1, st.2.2)) else dk_bnd (dk_loop (bX1_placeFaces_64 W_currentOf N_wires N_power F_faceOf F_howMany st.1) 1000 (0, st.2.1, st.2.2)) (fun r_14 => dk_let (st.1 + 1) (fun x3_15 => some (.inr (x3_15, r_14.1, r_14.2))))
def fX1_placeFaces (W_currentOf W_placeOf W_isPlaced : Nat → Int32) (N_wires N_power : Int32) (F_faceOf : Nat → Int32) (F_howMany : Int32) : Option ((Nat → Int32) × (Nat → Int32)) := dk_bnd (dk_loop (bX1_placeFaces_2 W_currentOf W_placeOf N_wires N_power F_faceOf F_howMany) 1000 (0, W_isPlaced)) (fun r_1 => dk_bnd (fX0_leftOf F_faceOf N_power) (fun r_2 => dk_gd (dk_in r_2 44) (dk_let (upd W_placeOf r_2.toNatClampNeg 0) (fun W_placeOf_4 => dk_bnd (fX0_leftOf F_faceOf N_power) (fun r_5 => dk_gd (dk_in r_5 44) (dk_let (upd r_1 r_5.toNatClampNeg (vp_nar .boolean 1)) (fun W_isPlaced_7 => dk_bnd (dk_loop (bX1_placeFaces_53 W_currentOf N_wires N_power F_faceOf F_howMany) 1000 (0, W_placeOf_4, W_isPlaced_7)) (fun r_8 => some (r_8.1, r_8.2)))))))))
section
variable {p : Program} {l : Launch} {e : Env} {s : State} {m : MethodId} {args : Array Value} {below : List Frame} {meth : Method} {c : Code} {dC : Nat → ClassId} {dI : Nat → Nat → Nat} {cI cJ cZ : ClassId} {A : Nat → Prop} {oW : Nat} {aW : Nat → Nat} {oN : Nat} {aN : Nat → Nat} {oF : Nat} {aF : Nat → Nat} {W_rows : Nat → Int64} {W_heightOf W_currentOf W_placeOf W_isPlaced : Nat → Int32} {W_wide W_high : Int32} {W_treeCount : Int64} {N_first N_second N_isCut N_wireClaim N_knotClaim N_turnSize N_turns : Nat → Int32} {N_knots N_wires N_power : Int32} {F_faceOf F_dartAhead : Nat → Int32} {F_howMany : Int32}
set_option maxHeartbeats 4000000 in
set_option maxRecDepth 100000 in
theorem tX1_placeFaces_2 (C : dk_C p s m meth c args cX1_placeFaces none 5 RX1 vsX1_placeFaces) (hK : va_K (dC, dI) vwCl (dk_ty cI cJ cZ) s) (hA : ∀ q : Nat, s.heap.size ≤ q → A q) {out : (Nat → Int32) × (Nat → Int32)} {st : Int32 × (Nat → Int32)} {y : ((Nat → Int32)) ⊕ (Int32 × (Nat → Int32))} (h : bX1_placeFaces_2 W_currentOf W_placeOf N_wires N_power F_faceOf F_howMany st = some y) (hE : ∀ z : (Nat → Int32), y = .inl z → ∀ (H : Heap) (locs : List Loc), va_P (dC, dI) vwCl (wX1 oW aW cI cJ cZ W_rows W_heightOf W_currentOf W_placeOf z W_wide W_high W_treeCount ++ (wX4 oN aN cI cJ cZ N_first N_second N_isCut N_wireClaim N_knotClaim N_turnSize N_turns N_knots N_wires N_power ++ (wX0 oF aF cI cJ cZ F_faceOf F_dartAhead F_howMany))) H → va_D A (wX1 oW aW cI cJ cZ W_rows W_heightOf W_currentOf W_placeOf z W_wide W_high W_treeCount ++ (wX4 oN aN cI cJ cZ N_first N_second N_isCut N_wireClaim N_knotClaim N_turnSize N_turns N_knots N_wires N_power ++ (wX0 oF aF cI cJ cZ F_faceOf F_dartAhead F_howMany))) → va_S A s.heap H locs → ∀ ls : Array Slot, lv_has ls 5 [(0, .ref oW), (1, .ref oN), (2, .ref oF)] → W p l e rX1_placeFaces s m args below meth c H locs 0 0 (MQ below (dk_Qv (dC, dI) (dk_ty cI cJ cZ) (wX1 oW aW cI cJ cZ W_rows W_heightOf W_currentOf out.1 out.2 W_wide W_high W_treeCount ++ (wX4 oN aN cI cJ cZ N_first N_second N_isCut N_wireClaim N_knotClaim N_turnSize N_turns N_knots N_wires N_power ++ (wX0 oF aF cI cJ cZ F_faceOf F_dartAhead F_howMany))) A) args s 0 0 A) (F0 m 23 ls [])) (hC : ∀ z : Int32 × (Nat → Int32), y = .inr z → ∀ (H : Heap) (locs : List Loc), va_P (dC, dI) vwCl (wX1 oW aW cI cJ cZ W_rows W_heightOf W_currentOf W_placeOf z.2 W_wide W_high W_treeCount ++ (wX4 oN aN cI cJ cZ N_first N_second N_isCut N_wireClaim N_knotClaim N_turnSize N_turns N_knots N_wires N_power ++ (wX0 oF aF cI cJ cZ F_faceOf F_dartAhead F_howMany))) H → va_D A (wX1 oW aW cI cJ cZ W_rows W_heightOf W_currentOf W_placeOf z.2 W_wide W_high W_treeCount ++ (wX4 oN aN cI cJ cZ N_first N_second N_isCut N_wireClaim N_knotClaim N_turnSize N_turns N_knots N_wires N_power ++ (wX0 oF aF cI cJ cZ F_faceOf F_dartAhead F_howMany))) → va_S A s.heap H locs → ∀ ls : Array Slot, lv_has ls 5 [(0, .ref oW), (1, .ref oN), (2, .ref oF), (3, .int z.1)] → W p l e rX1_placeFaces s m args below meth c H locs 0 0 (MQ below (dk_Qv (dC, dI) (dk_ty cI cJ cZ) (wX1 oW aW cI cJ cZ W_rows W_heightOf W_currentOf out.1 out.2 W_wide W_high W_treeCount ++ (wX4 oN aN cI cJ cZ N_first N_second N_isCut N_wireClaim N_knotClaim N_turnSize N_turns N_knots N_wires N_power ++ (wX0 oF aF cI cJ cZ F_faceOf F_dartAhead F_howMany))) A) args s 0 0 A) (F0 m 2 ls [])) : ∀ (H : Heap) (locs : List Loc), va_P (dC, dI) vwCl (wX1 oW aW cI cJ cZ W_rows W_heightOf W_currentOf W_placeOf st.2 W_wide W_high W_treeCount ++ (wX4 oN aN cI cJ cZ N_first N_second N_isCut N_wireClaim N_knotClaim N_turnSize N_turns N_knots N_wires N_power ++ (wX0 oF aF cI cJ cZ F_faceOf F_dartAhead F_howMany))) H → va_D A (wX1 oW aW cI cJ cZ W_rows W_heightOf W_currentOf W_placeOf st.2 W_wide W_high W_treeCount ++ (wX4 oN aN cI cJ cZ N_first N_second N_isCut N_wireClaim N_knotClaim N_turnSize N_turns N_knots N_wires N_power ++ (wX0 oF aF cI cJ cZ F_faceOf F_dartAhead F_howMany))) → va_S A s.heap H locs → ∀ ls : Array Slot, lv_has ls 5 [(0, .ref oW), (1, .ref oN), (2, .ref oF), (3, .int st.1)] → W p l e rX1_placeFaces s m args below meth c H locs 0 0 (MQ below (dk_Qv (dC, dI) (dk_ty cI cJ cZ) (wX1 oW aW cI cJ cZ W_rows W_heightOf W_currentOf out.1 out.2 W_wide W_high W_treeCount ++ (wX4 oN aN cI cJ cZ N_first N_second N_isCut N_wireClaim N_knotClaim N_turnSize N_turns N_knots N_wires N_power ++ (wX0 oF aF cI cJ cZ F_faceOf F_dartAhead F_howMany))) A) args s 0 0 A) (F0 m 2 ls []) := by
  obtain ⟨hx, hb, hr, hml, hown, hts, hlocks⟩ := id C
  intro H locs hP hD hS ls hl
  unfold bX1_placeFaces_2 at h
  refine lv_iload_n hx hb dX1_placeFaces_2 rfl (lv_at hl 3 rfl) ?_
  refine lv_aload_n hx hb dX1_placeFaces_3 rfl (lv_at hl 2 rfl) ?_
  refine va_get (D := (dC, dI)) (ci := 0) (v := .int F_howMany) (C := RX0) (T := TX0) (N := 3) hx hb hts qX1_placeFaces_X0 hown hK hP 14 rfl rfl 2 (by decide) (hts _ qX1_placeFaces_f94) (fun _ h9 => h9) rfl dX1_placeFaces_4 ?_
  refine lv_icmp_ge (tgt := 23) hx hb dX1_placeFaces_7 (by decide) (fun c_9 => ?_) (fun c_9 => ?_)
  · replace h := dk_it c_9 h
    exact hE _ (Option.some.inj h).symm _ _ hP hD hS ls (lv_sub hl [0, 1, 2] rfl)
  · replace h := dk_ie c_9 h
    refine lv_aload_n hx hb dX1_placeFaces_10 rfl (lv_at hl 0 rfl) ?_
    refine va_get (D := (dC, dI)) (ci := 1) (v := .ref (aW 4)) (C := RX1) (T := TX1) (N := 8) hx hb hts qX1_placeFaces_X1 hown hK hP 0 rfl rfl 4 (by decide) (hts _ qX1_placeFaces_f25) (fun _ h9 => h9) rfl dX1_placeFaces_11 ?_
    refine lv_iload_n hx hb dX1_placeFaces_14 rfl (lv_at hl 3 rfl) ?_
    refine lv_iconst (v := 0) hx hb dX1_placeFaces_15 (by decide) ?_
    obtain ⟨g_10, h⟩ := dk_gd_to h
    have g_10 := dk_in_to g_10
    refine va_zast hx hb hK hP hD hS 5 2 rfl rfl g_10 dX1_placeFaces_16 (fun H locs hP hD hS => ?_)
    obtain ⟨W_isPlaced_11, eW_isPlaced_11⟩ : ∃ z : Nat → Int32, z = upd st.2 st.1.toNatClampNeg (vp_nar .boolean 0) := ⟨_, rfl⟩
    replace h := dk_let_to eW_isPlaced_11 h
    have hP : va_P (dC, dI) vwCl (wX1 oW aW cI cJ cZ W_rows W_heightOf W_currentOf W_placeOf W_isPlaced_11 W_wide W_high W_treeCount ++ (wX4 oN aN cI cJ cZ N_first N_second N_isCut N_wireClaim N_knotClaim N_turnSize N_turns N_knots N_wires N_power ++ (wX0 oF aF cI cJ cZ F_faceOf F_dartAhead F_howMany))) H := by rw [eW_isPlaced_11]; exact hP
    have hD : va_D A (wX1 oW aW cI cJ cZ W_rows W_heightOf W_currentOf W_placeOf W_isPlaced_11 W_wide W_high W_treeCount ++ (wX4 oN aN cI cJ cZ N_first N_second N_isCut N_wireClaim N_knotClaim N_turnSize N_turns N_knots N_wires N_power ++ (wX0 oF aF cI cJ cZ F_faceOf F_dartAhead F_howMany))) := by rw [eW_isPlaced_11]; exact hD
    obtain ⟨x3_12, ex3_12⟩ : ∃ z : Int32, z = st.1 + 1 := ⟨_, rfl⟩
    replace h := dk_let_to ex3_12 h
    refine lv_iinc (v := x3_12) (lv' := [(3, .int x3_12), (0, .ref oW), (1, .ref oN), (2, .ref oF)]) hx hb dX1_placeFaces_17 hl (k := 3) rfl (by rw [ex3_12]; rfl) (by decide) rfl (fun ls hl => ?_)
    refine lv_goto (tgt := 2) hx hb dX1_placeFaces_20 (by decide) ?_
    exact hC _ (Option.some.inj h).symm _ _ hP hD hS ls (lv_sub hl [1, 2, 3, 0] rfl)
set_option maxHeartbeats 4000000 in
set_option maxRecDepth 100000 in
theorem lX1_placeFaces_2 (C : dk_C p s m meth c args cX1_placeFaces none 5 RX1 vsX1_placeFaces) (hK : va_K (dC, dI) vwCl (dk_ty cI cJ cZ) s) (hA : ∀ q : Nat, s.heap.size ≤ q → A q) {out : (Nat → Int32) × (Nat → Int32)} {n : Nat} {st : Int32 × (Nat → Int32)} {r : (Nat → Int32)} (h : dk_loop (bX1_placeFaces_2 W_currentOf W_placeOf N_wires N_power F_faceOf F_howMany) n st = some r) (hE : ∀ (H : Heap) (locs : List Loc), va_P (dC, dI) vwCl (wX1 oW aW cI cJ cZ W_rows W_heightOf W_currentOf W_placeOf r W_wide W_high W_treeCount ++ (wX4 oN aN cI cJ cZ N_first N_second N_isCut N_wireClaim N_knotClaim N_turnSize N_turns N_knots N_wires N_power ++ (wX0 oF aF cI cJ cZ F_faceOf F_dartAhead F_howMany))) H → va_D A (wX1 oW aW cI cJ cZ W_rows W_heightOf W_currentOf W_placeOf r W_wide W_high W_treeCount ++ (wX4 oN aN cI cJ cZ N_first N_second N_isCut N_wireClaim N_knotClaim N_turnSize N_turns N_knots N_wires N_power ++ (wX0 oF aF cI cJ cZ F_faceOf F_dartAhead F_howMany))) → va_S A s.heap H locs → ∀ ls : Array Slot, lv_has ls 5 [(0, .ref oW), (1, .ref oN), (2, .ref oF)] → W p l e rX1_placeFaces s m args below meth c H locs 0 0 (MQ below (dk_Qv (dC, dI) (dk_ty cI cJ cZ) (wX1 oW aW cI cJ cZ W_rows W_heightOf W_currentOf out.1 out.2 W_wide W_high W_treeCount ++ (wX4 oN aN cI cJ cZ N_first N_second N_isCut N_wireClaim N_knotClaim N_turnSize N_turns N_knots N_wires N_power ++ (wX0 oF aF cI cJ cZ F_faceOf F_dartAhead F_howMany))) A) args s 0 0 A) (F0 m 23 ls [])) : ∀ (H : Heap) (locs : List Loc), va_P (dC, dI) vwCl (wX1 oW aW cI cJ cZ W_rows W_heightOf W_currentOf W_placeOf st.2 W_wide W_high W_treeCount ++ (wX4 oN aN cI cJ cZ N_first N_second N_isCut N_wireClaim N_knotClaim N_turnSize N_turns N_knots N_wires N_power ++ (wX0 oF aF cI cJ cZ F_faceOf F_dartAhead F_howMany))) H → va_D A (wX1 oW aW cI cJ cZ W_rows W_heightOf W_currentOf W_placeOf st.2 W_wide W_high W_treeCount ++ (wX4 oN aN cI cJ cZ N_first N_second N_isCut N_wireClaim N_knotClaim N_turnSize N_turns N_knots N_wires N_power ++ (wX0 oF aF cI cJ cZ F_faceOf F_dartAhead F_howMany))) → va_S A s.heap H locs → ∀ ls : Array Slot, lv_has ls 5 [(0, .ref oW), (1, .ref oN), (2, .ref oF), (3, .int st.1)] → W p l e rX1_placeFaces s m args below meth c H locs 0 0 (MQ below (dk_Qv (dC, dI) (dk_ty cI cJ cZ) (wX1 oW aW cI cJ cZ W_rows W_heightOf W_currentOf out.1 out.2 W_wide W_high W_treeCount ++ (wX4 oN aN cI cJ cZ N_first N_second N_isCut N_wireClaim N_knotClaim N_turnSize N_turns N_knots N_wires N_power ++ (wX0 oF aF cI cJ cZ F_faceOf F_dartAhead F_howMany))) A) args s 0 0 A) (F0 m 2 ls []) :=
  dk_loopW (P := fun st => ∀ (H : Heap) (locs : List Loc), va_P (dC, dI) vwCl (wX1 oW aW cI cJ cZ W_rows W_heightOf W_currentOf W_placeOf st.2 W_wide W_high W_treeCount ++ (wX4 oN aN cI cJ cZ N_first N_second N_isCut N_wireClaim N_knotClaim N_turnSize N_turns N_knots N_wires N_power ++ (wX0 oF aF cI cJ cZ F_faceOf F_dartAhead F_howMany))) H → va_D A (wX1 oW aW cI cJ cZ W_rows W_heightOf W_currentOf W_placeOf st.2 W_wide W_high W_treeCount ++ (wX4 oN aN cI cJ cZ N_first N_second N_isCut N_wireClaim N_knotClaim N_turnSize N_turns N_knots N_wires N_power ++ (wX0 oF aF cI cJ cZ F_faceOf F_dartAhead F_howMany))) → va_S A s.heap H locs → ∀ ls : Array Slot, lv_has ls 5 [(0, .ref oW), (1, .ref oN), (2, .ref oF), (3, .int st.1)] → W p l e rX1_placeFaces s m args below meth c H locs 0 0 (MQ below (dk_Qv (dC, dI) (dk_ty cI cJ cZ) (wX1 oW aW cI cJ cZ W_rows W_heightOf W_currentOf out.1 out.2 W_wide W_high W_treeCount ++ (wX4 oN aN cI cJ cZ N_first N_second N_isCut N_wireClaim N_knotClaim N_turnSize N_turns N_knots N_wires N_power ++ (wX0 oF aF cI cJ cZ F_faceOf F_dartAhead F_howMany))) A) args s 0 0 A) (F0 m 2 ls [])) (K := fun r => ∀ (H : Heap) (locs : List Loc), va_P (dC, dI) vwCl (wX1 oW aW cI cJ cZ W_rows W_heightOf W_currentOf W_placeOf r W_wide W_high W_treeCount ++ (wX4 oN aN cI cJ cZ N_first N_second N_isCut N_wireClaim N_knotClaim N_turnSize N_turns N_knots N_wires N_power ++ (wX0 oF aF cI cJ cZ F_faceOf F_dartAhead F_howMany))) H → va_D A (wX1 oW aW cI cJ cZ W_rows W_heightOf W_currentOf W_placeOf r W_wide W_high W_treeCount ++ (wX4 oN aN cI cJ cZ N_first N_second N_isCut N_wireClaim N_knotClaim N_turnSize N_turns N_knots N_wires N_power ++ (wX0 oF aF cI cJ cZ F_faceOf F_dartAhead F_howMany))) → va_S A s.heap H locs → ∀ ls : Array Slot, lv_has ls 5 [(0, .ref oW), (1, .ref oN), (2, .ref oF)] → W p l e rX1_placeFaces s m args below meth c H locs 0 0 (MQ below (dk_Qv (dC, dI) (dk_ty cI cJ cZ) (wX1 oW aW cI cJ cZ W_rows W_heightOf W_currentOf out.1 out.2 W_wide W_high W_treeCount ++ (wX4 oN aN cI cJ cZ N_first N_second N_isCut N_wireClaim N_knotClaim N_turnSize N_turns N_knots N_wires N_power ++ (wX0 oF aF cI cJ cZ F_faceOf F_dartAhead F_howMany))) A) args s 0 0 A) (F0 m 23 ls [])) (fun st y hy k1 k2 => tX1_placeFaces_2 C hK hA hy k1 k2) n st r h hE
set_option maxHeartbeats 4000000 in
set_option maxRecDepth 100000 in
theorem kX1_placeFaces_105 (C : dk_C p s m meth c args cX1_placeFaces none 5 RX1 vsX1_placeFaces) (hK : va_K (dC, dI) vwCl (dk_ty cI cJ cZ) s) (hA : ∀ q : Nat, s.heap.size ≤ q → A q) {out : (Nat → Int32) × (Nat → Int32)} {x3 x4 : Int32} {y : ((Nat → Int32) × (Nat → Int32)) ⊕ (Int32 × (Nat → Int32) × (Nat → Int32))} (h : jX1_placeFaces_105 W_currentOf W_placeOf W_isPlaced N_wires N_power F_faceOf F_howMany x3 x4 = some y) (hE : ∀ z : (Nat → Int32) × (Nat → Int32), y = .inl z → ∀ (H : Heap) (locs : List Loc), va_P (dC, dI) vwCl (wX1 oW aW cI cJ cZ W_rows W_heightOf W_currentOf z.1 z.2 W_wide W_high W_treeCount ++ (wX4 oN aN cI cJ cZ N_first N_second N_isCut N_wireClaim N_knotClaim N_turnSize N_turns N_knots N_wires N_power ++ (wX0 oF aF cI cJ cZ F_faceOf F_dartAhead F_howMany))) H → va_D A (wX1 oW aW cI cJ cZ W_rows W_heightOf W_currentOf z.1 z.2 W_wide W_high W_treeCount ++ (wX4 oN aN cI cJ cZ N_first N_second N_isCut N_wireClaim N_knotClaim N_turnSize N_turns N_knots N_wires N_power ++ (wX0 oF aF cI cJ cZ F_faceOf F_dartAhead F_howMany))) → va_S A s.heap H locs → ∀ ls : Array Slot, lv_has ls 5 [(0, .ref oW), (1, .ref oN), (2, .ref oF), (3, .int x3)] → W p l e rX1_placeFaces s m args below meth c H locs 0 0 (MQ below (dk_Qv (dC, dI) (dk_ty cI cJ cZ) (wX1 oW aW cI cJ cZ W_rows W_heightOf W_currentOf out.1 out.2 W_wide W_high W_treeCount ++ (wX4 oN aN cI cJ cZ N_first N_second N_isCut N_wireClaim N_knotClaim N_turnSize N_turns N_knots N_wires N_power ++ (wX0 oF aF cI cJ cZ F_faceOf F_dartAhead F_howMany))) A) args s 0 0 A) (F0 m 111 ls [])) (hC : ∀ z : Int32 × (Nat → Int32) × (Nat → Int32), y = .inr z → ∀ (H : Heap) (locs : List Loc), va_P (dC, dI) vwCl (wX1 oW aW cI cJ cZ W_rows W_heightOf W_currentOf z.2.1 z.2.2 W_wide W_high W_treeCount ++ (wX4 oN aN cI cJ cZ N_first N_second N_isCut N_wireClaim N_knotClaim N_turnSize N_turns N_knots N_wires N_power ++ (wX0 oF aF cI cJ cZ F_faceOf F_dartAhead F_howMany))) H → va_D A (wX1 oW aW cI cJ cZ W_rows W_heightOf W_currentOf z.2.1 z.2.2 W_wide W_high W_treeCount ++ (wX4 oN aN cI cJ cZ N_first N_second N_isCut N_wireClaim N_knotClaim N_turnSize N_turns N_knots N_wires N_power ++ (wX0 oF aF cI cJ cZ F_faceOf F_dartAhead F_howMany))) → va_S A s.heap H locs → ∀ ls : Array Slot, lv_has ls 5 [(0, .ref oW), (1, .ref oN), (2, .ref oF), (3, .int x3), (4, .int z.1)] → W p l e rX1_placeFaces s m args below meth c H locs 0 0 (MQ below (dk_Qv (dC, dI) (dk_ty cI cJ cZ) (wX1 oW aW cI cJ cZ W_rows W_heightOf W_currentOf out.1 out.2 W_wide W_high W_treeCount ++ (wX4 oN aN cI cJ cZ N_first N_second N_isCut N_wireClaim N_knotClaim N_turnSize N_turns N_knots N_wires N_power ++ (wX0 oF aF cI cJ cZ F_faceOf F_dartAhead F_howMany))) A) args s 0 0 A) (F0 m 64 ls [])) : ∀ (H : Heap) (locs : List Loc), va_P (dC, dI) vwCl (wX1 oW aW cI cJ cZ W_rows W_heightOf W_currentOf W_placeOf W_isPlaced W_wide W_high W_treeCount ++ (wX4 oN aN cI cJ cZ N_first N_second N_isCut N_wireClaim N_knotClaim N_turnSize N_turns N_knots N_wires N_power ++ (wX0 oF aF cI cJ cZ F_faceOf F_dartAhead F_howMany))) H → va_D A (wX1 oW aW cI cJ cZ W_rows W_heightOf W_currentOf W_placeOf W_isPlaced W_wide W_high W_treeCount ++ (wX4 oN aN cI cJ cZ N_first N_second N_isCut N_wireClaim N_knotClaim N_turnSize N_turns N_knots N_wires N_power ++ (wX0 oF aF cI cJ cZ F_faceOf F_dartAhead F_howMany))) → va_S A s.heap H locs → ∀ ls : Array Slot, lv_has ls 5 [(0, .ref oW), (1, .ref oN), (2, .ref oF), (3, .int x3), (4, .int x4)] → W p l e rX1_placeFaces s m args below meth c H locs 0 0 (MQ below (dk_Qv (dC, dI) (dk_ty cI cJ cZ) (wX1 oW aW cI cJ cZ W_rows W_heightOf W_currentOf out.1 out.2 W_wide W_high W_treeCount ++ (wX4 oN aN cI cJ cZ N_first N_second N_isCut N_wireClaim N_knotClaim N_turnSize N_turns N_knots N_wires N_power ++ (wX0 oF aF cI cJ cZ F_faceOf F_dartAhead F_howMany))) A) args s 0 0 A) (F0 m 105 ls []) := by
  obtain ⟨hx, hb, hr, hml, hown, hts, hlocks⟩ := id C
  intro H locs hP hD hS ls hl
  unfold jX1_placeFaces_105 at h
  obtain ⟨x4_22, ex4_22⟩ : ∃ z : Int32, z = x4 + 1 := ⟨_, rfl⟩
  replace h := dk_let_to ex4_22 h
  refine lv_iinc (v := x4_22) (lv' := [(4, .int x4_22), (0, .ref oW), (1, .ref oN), (2, .ref oF), (3, .int x3)]) hx hb dX1_placeFaces_105 hl (k := 4) rfl (by rw [ex4_22]; rfl) (by decide) rfl (fun ls hl => ?_)
  refine lv_goto (tgt := 64) hx hb dX1_placeFaces_108 (by decide) ?_
  exact hC _ (Option.some.inj h).symm _ _ hP hD hS ls (lv_sub hl [1, 2, 3, 4, 0] rfl)
set_option maxHeartbeats 4000000 in
set_option maxRecDepth 100000 in
theorem tX1_placeFaces_64 (C : dk_C p s m meth c args cX1_placeFaces none 5 RX1 vsX1_placeFaces) (hK : va_K (dC, dI) vwCl (dk_ty cI cJ cZ) s) (hA : ∀ q : Nat, s.heap.size ≤ q → A q) {out : (Nat → Int32) × (Nat → Int32)} {x3 : Int32} {st : Int32 × (Nat → Int32) × (Nat → Int32)} {y : ((Nat → Int32) × (Nat → Int32)) ⊕ (Int32 × (Nat → Int32) × (Nat → Int32))} (h : bX1_placeFaces_64 W_currentOf N_wires N_power F_faceOf F_howMany x3 st = some y) (hE : ∀ z : (Nat → Int32) × (Nat → Int32), y = .inl z → ∀ (H : Heap) (locs : List Loc), va_P (dC, dI) vwCl (wX1 oW aW cI cJ cZ W_rows W_heightOf W_currentOf z.1 z.2 W_wide W_high W_treeCount ++ (wX4 oN aN cI cJ cZ N_first N_second N_isCut N_wireClaim N_knotClaim N_turnSize N_turns N_knots N_wires N_power ++ (wX0 oF aF cI cJ cZ F_faceOf F_dartAhead F_howMany))) H → va_D A (wX1 oW aW cI cJ cZ W_rows W_heightOf W_currentOf z.1 z.2 W_wide W_high W_treeCount ++ (wX4 oN aN cI cJ cZ N_first N_second N_isCut N_wireClaim N_knotClaim N_turnSize N_turns N_knots N_wires N_power ++ (wX0 oF aF cI cJ cZ F_faceOf F_dartAhead F_howMany))) → va_S A s.heap H locs → ∀ ls : Array Slot, lv_has ls 5 [(0, .ref oW), (1, .ref oN), (2, .ref oF), (3, .int x3)] → W p l e rX1_placeFaces s m args below meth c H locs 0 0 (MQ below (dk_Qv (dC, dI) (dk_ty cI cJ cZ) (wX1 oW aW cI cJ cZ W_rows W_heightOf W_currentOf out.1 out.2 W_wide W_high W_treeCount ++ (wX4 oN aN cI cJ cZ N_first N_second N_isCut N_wireClaim N_knotClaim N_turnSize N_turns N_knots N_wires N_power ++ (wX0 oF aF cI cJ cZ F_faceOf F_dartAhead F_howMany))) A) args s 0 0 A) (F0 m 111 ls [])) (hC : ∀ z : Int32 × (Nat → Int32) × (Nat → Int32), y = .inr z → ∀ (H : Heap) (locs : List Loc), va_P (dC, dI) vwCl (wX1 oW aW cI cJ cZ W_rows W_heightOf W_currentOf z.2.1 z.2.2 W_wide W_high W_treeCount ++ (wX4 oN aN cI cJ cZ N_first N_second N_isCut N_wireClaim N_knotClaim N_turnSize N_turns N_knots N_wires N_power ++ (wX0 oF aF cI cJ cZ F_faceOf F_dartAhead F_howMany))) H → va_D A (wX1 oW aW cI cJ cZ W_rows W_heightOf W_currentOf z.2.1 z.2.2 W_wide W_high W_treeCount ++ (wX4 oN aN cI cJ cZ N_first N_second N_isCut N_wireClaim N_knotClaim N_turnSize N_turns N_knots N_wires N_power ++ (wX0 oF aF cI cJ cZ F_faceOf F_dartAhead F_howMany))) → va_S A s.heap H locs → ∀ ls : Array Slot, lv_has ls 5 [(0, .ref oW), (1, .ref oN), (2, .ref oF), (3, .int x3), (4, .int z.1)] → W p l e rX1_placeFaces s m args below meth c H locs 0 0 (MQ below (dk_Qv (dC, dI) (dk_ty cI cJ cZ) (wX1 oW aW cI cJ cZ W_rows W_heightOf W_currentOf out.1 out.2 W_wide W_high W_treeCount ++ (wX4 oN aN cI cJ cZ N_first N_second N_isCut N_wireClaim N_knotClaim N_turnSize N_turns N_knots N_wires N_power ++ (wX0 oF aF cI cJ cZ F_faceOf F_dartAhead F_howMany))) A) args s 0 0 A) (F0 m 64 ls [])) : ∀ (H : Heap) (locs : List Loc), va_P (dC, dI) vwCl (wX1 oW aW cI cJ cZ W_rows W_heightOf W_currentOf st.2.1 st.2.2 W_wide W_high W_treeCount ++ (wX4 oN aN cI cJ cZ N_first N_second N_isCut N_wireClaim N_knotClaim N_turnSize N_turns N_knots N_wires N_power ++ (wX0 oF aF cI cJ cZ F_faceOf F_dartAhead F_howMany))) H → va_D A (wX1 oW aW cI cJ cZ W_rows W_heightOf W_currentOf st.2.1 st.2.2 W_wide W_high W_treeCount ++ (wX4 oN aN cI cJ cZ N_first N_second N_isCut N_wireClaim N_knotClaim N_turnSize N_turns N_knots N_wires N_power ++ (wX0 oF aF cI cJ cZ F_faceOf F_dartAhead F_howMany))) → va_S A s.heap H locs → ∀ ls : Array Slot, lv_has ls 5 [(0, .ref oW), (1, .ref oN), (2, .ref oF), (3, .int x3), (4, .int st.1)] → W p l e rX1_placeFaces s m args below meth c H locs 0 0 (MQ below (dk_Qv (dC, dI) (dk_ty cI cJ cZ) (wX1 oW aW cI cJ cZ W_rows W_heightOf W_currentOf out.1 out.2 W_wide W_high W_treeCount ++ (wX4 oN aN cI cJ cZ N_first N_second N_isCut N_wireClaim N_knotClaim N_turnSize N_turns N_knots N_wires N_power ++ (wX0 oF aF cI cJ cZ F_faceOf F_dartAhead F_howMany))) A) args s 0 0 A) (F0 m 64 ls []) := by
  obtain ⟨hx, hb, hr, hml, hown, hts, hlocks⟩ := id C
  intro H locs hP hD hS ls hl
  unfold bX1_placeFaces_64 at h
  refine lv_iload hx hb dX1_placeFaces_64 (lv_at hl 4 rfl) ?_
  refine lv_aload_n hx hb dX1_placeFaces_66 rfl (lv_at hl 1 rfl) ?_
  refine va_get (D := (dC, dI)) (ci := 4) (v := .int N_wires) (C := RX4) (T := TX4) (N := 10) hx hb hts qX1_placeFaces_X4 hown hK hP 6 rfl rfl 8 (by decide) (hts _ qX1_placeFaces_f73) (fun _ h9 => h9) rfl dX1_placeFaces_67 ?_
  refine lv_icmp_ge (tgt := 111) hx hb dX1_placeFaces_70 (by decide) (fun c_16 => ?_) (fun c_16 => ?_)
  · replace h := dk_it c_16 h
    exact hE _ (Option.some.inj h).symm _ _ hP hD hS ls (lv_sub hl [0, 1, 2, 3] rfl)
  · replace h := dk_ie c_16 h
    refine lv_iload hx hb dX1_placeFaces_73 (lv_at hl 4 rfl) ?_
    refine lv_aload_n hx hb dX1_placeFaces_75 rfl (lv_at hl 1 rfl) ?_
    refine va_get (D := (dC, dI)) (ci := 4) (v := .int N_power) (C := RX4) (T := TX4) (N := 10) hx hb hts qX1_placeFaces_X4 hown hK hP 6 rfl rfl 9 (by decide) (hts _ qX1_placeFaces_f40) (fun _ h9 => h9) rfl dX1_placeFaces_76 ?_
    refine lv_icmp_eq (tgt := 105) hx hb dX1_placeFaces_79 (by decide) (fun c_17 => ?_) (fun c_17 => ?_)
    · replace h := dk_it c_17 h
      exact kX1_placeFaces_105 C hK hA h hE hC _ _ hP hD hS ls (lv_sub hl [0, 1, 2, 3, 4] rfl)
    · replace h := dk_ie c_17 h
      refine lv_aload_n hx hb dX1_placeFaces_82 rfl (lv_at hl 0 rfl) ?_
      refine lv_aload_n hx hb dX1_placeFaces_83 rfl (lv_at hl 2 rfl) ?_
      refine lv_iload hx hb dX1_placeFaces_84 (lv_at hl 4 rfl) ?_
      obtain ⟨r_18, hcr_18, h⟩ := dk_bnd_to h
      refine dk_rVi (b := oF) (As := [.int st.1]) (rest := [.ref oW]) (wc := (wX0 oF aF cI cJ cZ F_faceOf F_dartAhead F_howMany)) C hK hP hD hS hA (mX0_rightOf l dC dI cI cJ cZ hcr_18 _) (cwV 1 hts gvX1_placeFaces_X0_rightOf rfl rfl rfl (by decide +kernel) ⟨Nat.le_of_ble_eq_true rfl, Nat.le_of_ble_eq_true rfl⟩) [14, 15, 16] rfl (by decide) 0 0 rfl rfl rfl hl.1 rfl (Nat.le_of_ble_eq_true rfl) ⟨Nat.le_of_ble_eq_true rfl, Nat.le_of_ble_eq_true rfl⟩ dX1_placeFaces_86 (fun H locs hP hD hS => ?_)
      refine lv_aload_n hx hb dX1_placeFaces_89 rfl (lv_at hl 2 rfl) ?_
      refine lv_iload hx hb dX1_placeFaces_90 (lv_at hl 4 rfl) ?_
      obtain ⟨r_19, hcr_19, h⟩ := dk_bnd_to h
      refine dk_rVi (b := oF) (As := [.int st.1]) (rest := [.int r_18, .ref oW]) (wc := (wX0 oF aF cI cJ cZ F_faceOf F_dartAhead F_howMany)) C hK hP hD hS hA (mX0_leftOf l dC dI cI cJ cZ hcr_19 _) (cwV 1 hts gvX1_placeFaces_X0_leftOf rfl rfl rfl (by decide +kernel) ⟨Nat.le_of_ble_eq_true rfl, Nat.le_of_ble_eq_true rfl⟩) [14, 15, 16] rfl (by decide) 0 0 rfl rfl rfl hl.1 rfl (Nat.le_of_ble_eq_true rfl) ⟨Nat.le_of_ble_eq_true rfl, Nat.le_of_ble_eq_true rfl⟩ dX1_placeFaces_92 (fun H locs hP hD hS => ?_)
      refine lv_aload_n hx hb dX1_placeFaces_95 rfl (lv_at hl 0 rfl) ?_
      refine va_get (D := (dC, dI)) (ci := 1) (v := .ref (aW 2)) (C := RX1) (T := TX1) (N := 8) hx hb hts qX1_placeFaces_X1 hown hK hP 0 rfl rfl 2 (by decide) (hts _ qX1_placeFaces_f19) (fun _ h9 => h9) rfl dX1_placeFaces_96 ?_
      refine lv_iload hx hb dX1_placeFaces_99 (lv_at hl 4 rfl) ?_
      obtain ⟨g_20, h⟩ := dk_gd_to h
      have g_20 := dk_in_to g_20
      refine va_iald hx hb hK hP 3 0 rfl rfl g_20 dX1_placeFaces_101 ?_
      obtain ⟨r_21, hcr_21, h⟩ := dk_bnd_to h
      refine dk_cVv (b := oW) (As := [.int r_18, .int r_19, .int (W_currentOf st.1.toNatClampNeg)]) (rest := []) (wc := (wX1 oW aW cI cJ cZ W_rows W_heightOf W_currentOf st.2.1 st.2.2 W_wide W_high W_treeCount)) (wc' := (wX1 oW aW cI cJ cZ W_rows W_heightOf W_currentOf r_21.1 r_21.2 W_wide W_high W_treeCount)) (wr := (wX4 oN aN cI cJ cZ N_first N_second N_isCut N_wireClaim N_knotClaim N_turnSize N_turns N_knots N_wires N_power ++ (wX0 oF aF cI cJ cZ F_faceOf F_dartAhead F_howMany))) (ws' := (wX1 oW aW cI cJ cZ W_rows W_heightOf W_currentOf r_21.1 r_21.2 W_wide W_high W_treeCount ++ (wX4 oN aN cI cJ cZ N_first N_second N_isCut N_wireClaim N_knotClaim N_turnSize N_turns N_knots N_wires N_power ++ (wX0 oF aF cI cJ cZ F_faceOf F_dartAhead F_howMany)))) C hK hP hD hS hA (mX1_placeAcross l dC dI cI cJ cZ hcr_21 _) (cwV 3 hts gvX1_placeFaces_X1_placeAcross rfl rfl rfl (by decide +kernel) ⟨Nat.le_of_ble_eq_true rfl, Nat.le_of_ble_eq_true rfl⟩) [0, 1, 2, 3, 4, 5] [6, 7, 8, 9, 10, 11, 12, 13, 14, 15, 16] [11, 12, 13, 14, 15, 16, 0, 1, 2, 3, 4, 5, 6, 7, 8, 9, 10] rfl (by decide) rfl (by decide) (by decide) rfl (by decide) 0 1 rfl rfl rfl hl.1 rfl (Nat.le_of_ble_eq_true rfl) ⟨Nat.le_of_ble_eq_true rfl, Nat.le_of_ble_eq_true rfl⟩ dX1_placeFaces_102 (fun H locs hP hD hS => ?_)
      exact kX1_placeFaces_105 C hK hA h hE hC _ _ hP hD hS ls (lv_sub hl [0, 1, 2, 3, 4] rfl)
set_option maxHeartbeats 4000000 in
set_option maxRecDepth 100000 in
theorem lX1_placeFaces_64 (C : dk_C p s m meth c args cX1_placeFaces none 5 RX1 vsX1_placeFaces) (hK : va_K (dC, dI) vwCl (dk_ty cI cJ cZ) s) (hA : ∀ q : Nat, s.heap.size ≤ q → A q) {out : (Nat → Int32) × (Nat → Int32)} {x3 : Int32} {n : Nat} {st : Int32 × (Nat → Int32) × (Nat → Int32)} {r : (Nat → Int32) × (Nat → Int32)} (h : dk_loop (bX1_placeFaces_64 W_currentOf N_wires N_power F_faceOf F_howMany x3) n st = some r) (hE : ∀ (H : Heap) (locs : List Loc), va_P (dC, dI) vwCl (wX1 oW aW cI cJ cZ W_rows W_heightOf W_currentOf r.1 r.2 W_wide W_high W_treeCount ++ (wX4 oN aN cI cJ cZ N_first N_second N_isCut N_wireClaim N_knotClaim N_turnSize N_turns N_knots N_wires N_power ++ (wX0 oF aF cI cJ cZ F_faceOf F_dartAhead F_howMany))) H → va_D A (wX1 oW aW cI cJ cZ W_rows W_heightOf W_currentOf r.1 r.2 W_wide W_high W_treeCount ++ (wX4 oN aN cI cJ cZ N_first N_second N_isCut N_wireClaim N_knotClaim N_turnSize N_turns N_knots N_wires N_power ++ (wX0 oF aF cI cJ cZ F_faceOf F_dartAhead F_howMany))) → va_S A s.heap H locs → ∀ ls : Array Slot, lv_has ls 5 [(0, .ref oW), (1, .ref oN), (2, .ref oF), (3, .int x3)] → W p l e rX1_placeFaces s m args below meth c H locs 0 0 (MQ below (dk_Qv (dC, dI) (dk_ty cI cJ cZ) (wX1 oW aW cI cJ cZ W_rows W_heightOf W_currentOf out.1 out.2 W_wide W_high W_treeCount ++ (wX4 oN aN cI cJ cZ N_first N_second N_isCut N_wireClaim N_knotClaim N_turnSize N_turns N_knots N_wires N_power ++ (wX0 oF aF cI cJ cZ F_faceOf F_dartAhead F_howMany))) A) args s 0 0 A) (F0 m 111 ls [])) : ∀ (H : Heap) (locs : List Loc), va_P (dC, dI) vwCl (wX1 oW aW cI cJ cZ W_rows W_heightOf W_currentOf st.2.1 st.2.2 W_wide W_high W_treeCount ++ (wX4 oN aN cI cJ cZ N_first N_second N_isCut N_wireClaim N_knotClaim N_turnSize N_turns N_knots N_wires N_power ++ (wX0 oF aF cI cJ cZ F_faceOf F_dartAhead F_howMany))) H → va_D A (wX1 oW aW cI cJ cZ W_rows W_heightOf W_currentOf st.2.1 st.2.2 W_wide W_high W_treeCount ++ (wX4 oN aN cI cJ cZ N_first N_second N_isCut N_wireClaim N_knotClaim N_turnSize N_turns N_knots N_wires N_power ++ (wX0 oF aF cI cJ cZ F_faceOf F_dartAhead F_howMany))) → va_S A s.heap H locs → ∀ ls : Array Slot, lv_has ls 5 [(0, .ref oW), (1, .ref oN), (2, .ref oF), (3, .int x3), (4, .int st.1)] → W p l e rX1_placeFaces s m args below meth c H locs 0 0 (MQ below (dk_Qv (dC, dI) (dk_ty cI cJ cZ) (wX1 oW aW cI cJ cZ W_rows W_heightOf W_currentOf out.1 out.2 W_wide W_high W_treeCount ++ (wX4 oN aN cI cJ cZ N_first N_second N_isCut N_wireClaim N_knotClaim N_turnSize N_turns N_knots N_wires N_power ++ (wX0 oF aF cI cJ cZ F_faceOf F_dartAhead F_howMany))) A) args s 0 0 A) (F0 m 64 ls []) :=
  dk_loopW (P := fun st => ∀ (H : Heap) (locs : List Loc), va_P (dC, dI) vwCl (wX1 oW aW cI cJ cZ W_rows W_heightOf W_currentOf st.2.1 st.2.2 W_wide W_high W_treeCount ++ (wX4 oN aN cI cJ cZ N_first N_second N_isCut N_wireClaim N_knotClaim N_turnSize N_turns N_knots N_wires N_power ++ (wX0 oF aF cI cJ cZ F_faceOf F_dartAhead F_howMany))) H → va_D A (wX1 oW aW cI cJ cZ W_rows W_heightOf W_currentOf st.2.1 st.2.2 W_wide W_high W_treeCount ++ (wX4 oN aN cI cJ cZ N_first N_second N_isCut N_wireClaim N_knotClaim N_turnSize N_turns N_knots N_wires N_power ++ (wX0 oF aF cI cJ cZ F_faceOf F_dartAhead F_howMany))) → va_S A s.heap H locs → ∀ ls : Array Slot, lv_has ls 5 [(0, .ref oW), (1, .ref oN), (2, .ref oF), (3, .int x3), (4, .int st.1)] → W p l e rX1_placeFaces s m args below meth c H locs 0 0 (MQ below (dk_Qv (dC, dI) (dk_ty cI cJ cZ) (wX1 oW aW cI cJ cZ W_rows W_heightOf W_currentOf out.1 out.2 W_wide W_high W_treeCount ++ (wX4 oN aN cI cJ cZ N_first N_second N_isCut N_wireClaim N_knotClaim N_turnSize N_turns N_knots N_wires N_power ++ (wX0 oF aF cI cJ cZ F_faceOf F_dartAhead F_howMany))) A) args s 0 0 A) (F0 m 64 ls [])) (K := fun r => ∀ (H : Heap) (locs : List Loc), va_P (dC, dI) vwCl (wX1 oW aW cI cJ cZ W_rows W_heightOf W_currentOf r.1 r.2 W_wide W_high W_treeCount ++ (wX4 oN aN cI cJ cZ N_first N_second N_isCut N_wireClaim N_knotClaim N_turnSize N_turns N_knots N_wires N_power ++ (wX0 oF aF cI cJ cZ F_faceOf F_dartAhead F_howMany))) H → va_D A (wX1 oW aW cI cJ cZ W_rows W_heightOf W_currentOf r.1 r.2 W_wide W_high W_treeCount ++ (wX4 oN aN cI cJ cZ N_first N_second N_isCut N_wireClaim N_knotClaim N_turnSize N_turns N_knots N_wires N_power ++ (wX0 oF aF cI cJ cZ F_faceOf F_dartAhead F_howMany))) → va_S A s.heap H locs → ∀ ls : Array Slot, lv_has ls 5 [(0, .ref oW), (1, .ref oN), (2, .ref oF), (3, .int x3)] → W p l e rX1_placeFaces s m args below meth c H locs 0 0 (MQ below (dk_Qv (dC, dI) (dk_ty cI cJ cZ) (wX1 oW aW cI cJ cZ W_rows W_heightOf W_currentOf out.1 out.2 W_wide W_high W_treeCount ++ (wX4 oN aN cI cJ cZ N_first N_second N_isCut N_wireClaim N_knotClaim N_turnSize N_turns N_knots N_wires N_power ++ (wX0 oF aF cI cJ cZ F_faceOf F_dartAhead F_howMany))) A) args s 0 0 A) (F0 m 111 ls [])) (fun st y hy k1 k2 => tX1_placeFaces_64 C hK hA hy k1 k2) n st r h hE
set_option maxHeartbeats 4000000 in
set_option maxRecDepth 100000 in
theorem tX1_placeFaces_53 (C : dk_C p s m meth c args cX1_placeFaces none 5 RX1 vsX1_placeFaces) (hK : va_K (dC, dI) vwCl (dk_ty cI cJ cZ) s) (hA : ∀ q : Nat, s.heap.size ≤ q → A q) {out : (Nat → Int32) × (Nat → Int32)} {st : Int32 × (Nat → Int32) × (Nat → Int32)} {y : ((Nat → Int32) × (Nat → Int32)) ⊕ (Int32 × (Nat → Int32) × (Nat → Int32))} (h : bX1_placeFaces_53 W_currentOf N_wires N_power F_faceOf F_howMany st = some y) (hE : ∀ z : (Nat → Int32) × (Nat → Int32), y = .inl z → ∀ (H : Heap) (locs : List Loc), va_P (dC, dI) vwCl (wX1 oW aW cI cJ cZ W_rows W_heightOf W_currentOf z.1 z.2 W_wide W_high W_treeCount ++ (wX4 oN aN cI cJ cZ N_first N_second N_isCut N_wireClaim N_knotClaim N_turnSize N_turns N_knots N_wires N_power ++ (wX0 oF aF cI cJ cZ F_faceOf F_dartAhead F_howMany))) H → va_D A (wX1 oW aW cI cJ cZ W_rows W_heightOf W_currentOf z.1 z.2 W_wide W_high W_treeCount ++ (wX4 oN aN cI cJ cZ N_first N_second N_isCut N_wireClaim N_knotClaim N_turnSize N_turns N_knots N_wires N_power ++ (wX0 oF aF cI cJ cZ F_faceOf F_dartAhead F_howMany))) → va_S A s.heap H locs → ∀ ls : Array Slot, lv_has ls 5 [(0, .ref oW), (1, .ref oN), (2, .ref oF)] → W p l e rX1_placeFaces s m args below meth c H locs 0 0 (MQ below (dk_Qv (dC, dI) (dk_ty cI cJ cZ) (wX1 oW aW cI cJ cZ W_rows W_heightOf W_currentOf out.1 out.2 W_wide W_high W_treeCount ++ (wX4 oN aN cI cJ cZ N_first N_second N_isCut N_wireClaim N_knotClaim N_turnSize N_turns N_knots N_wires N_power ++ (wX0 oF aF cI cJ cZ F_faceOf F_dartAhead F_howMany))) A) args s 0 0 A) (F0 m 117 ls [])) (hC : ∀ z : Int32 × (Nat → Int32) × (Nat → Int32), y = .inr z → ∀ (H : Heap) (locs : List Loc), va_P (dC, dI) vwCl (wX1 oW aW cI cJ cZ W_rows W_heightOf W_currentOf z.2.1 z.2.2 W_wide W_high W_treeCount ++ (wX4 oN aN cI cJ cZ N_first N_second N_isCut N_wireClaim N_knotClaim N_turnSize N_turns N_knots N_wires N_power ++ (wX0 oF aF cI cJ cZ F_faceOf F_dartAhead F_howMany))) H → va_D A (wX1 oW aW cI cJ cZ W_rows W_heightOf W_currentOf z.2.1 z.2.2 W_wide W_high W_treeCount ++ (wX4 oN aN cI cJ cZ N_first N_second N_isCut N_wireClaim N_knotClaim N_turnSize N_turns N_knots N_wires N_power ++ (wX0 oF aF cI cJ cZ F_faceOf F_dartAhead F_howMany))) → va_S A s.heap H locs → ∀ ls : Array Slot, lv_has ls 5 [(0, .ref oW), (1, .ref oN), (2, .ref oF), (3, .int z.1)] → W p l e rX1_placeFaces s m args below meth c H locs 0 0 (MQ below (dk_Qv (dC, dI) (dk_ty cI cJ cZ) (wX1 oW aW cI cJ cZ W_rows W_heightOf W_currentOf out.1 out.2 W_wide W_high W_treeCount ++ (wX4 oN aN cI cJ cZ N_first N_second N_isCut N_wireClaim N_knotClaim N_turnSize N_turns N_knots N_wires N_power ++ (wX0 oF aF cI cJ cZ F_faceOf F_dartAhead F_howMany))) A) args s 0 0 A) (F0 m 53 ls [])) : ∀ (H : Heap) (locs : List Loc), va_P (dC, dI) vwCl (wX1 oW aW cI cJ cZ W_rows W_heightOf W_currentOf st.2.1 st.2.2 W_wide W_high W_treeCount ++ (wX4 oN aN cI cJ cZ N_first N_second N_isCut N_wireClaim N_knotClaim N_turnSize N_turns N_knots N_wires N_power ++ (wX0 oF aF cI cJ cZ F_faceOf F_dartAhead F_howMany))) H → va_D A (wX1 oW aW cI cJ cZ W_rows W_heightOf W_currentOf st.2.1 st.2.2 W_wide W_high W_treeCount ++ (wX4 oN aN cI cJ cZ N_first N_second N_isCut N_wireClaim N_knotClaim N_turnSize N_turns N_knots N_wires N_power ++ (wX0 oF aF cI cJ cZ F_faceOf F_dartAhead F_howMany))) → va_S A s.heap H locs → ∀ ls : Array Slot, lv_has ls 5 [(0, .ref oW), (1, .ref oN), (2, .ref oF), (3, .int st.1)] → W p l e rX1_placeFaces s m args below meth c H locs 0 0 (MQ below (dk_Qv (dC, dI) (dk_ty cI cJ cZ) (wX1 oW aW cI cJ cZ W_rows W_heightOf W_currentOf out.1 out.2 W_wide W_high W_treeCount ++ (wX4 oN aN cI cJ cZ N_first N_second N_isCut N_wireClaim N_knotClaim N_turnSize N_turns N_knots N_wires N_power ++ (wX0 oF aF cI cJ cZ F_faceOf F_dartAhead F_howMany))) A) args s 0 0 A) (F0 m 53 ls []) := by
  obtain ⟨hx, hb, hr, hml, hown, hts, hlocks⟩ := id C
  intro H locs hP hD hS ls hl
  unfold bX1_placeFaces_53 at h
  refine lv_iload_n hx hb dX1_placeFaces_53 rfl (lv_at hl 3 rfl) ?_
  refine lv_aload_n hx hb dX1_placeFaces_54 rfl (lv_at hl 2 rfl) ?_
  refine va_get (D := (dC, dI)) (ci := 0) (v := .int F_howMany) (C := RX0) (T := TX0) (N := 3) hx hb hts qX1_placeFaces_X0 hown hK hP 14 rfl rfl 2 (by decide) (hts _ qX1_placeFaces_f94) (fun _ h9 => h9) rfl dX1_placeFaces_55 ?_
  refine lv_icmp_ge (tgt := 117) hx hb dX1_placeFaces_58 (by decide) (fun c_13 => ?_) (fun c_13 => ?_)
  · replace h := dk_it c_13 h
    exact hE _ (Option.some.inj h).symm _ _ hP hD hS ls (lv_sub hl [0, 1, 2] rfl)
  · replace h := dk_ie c_13 h
    refine lv_iconst (v := 0) hx hb dX1_placeFaces_61 (by decide) ?_
    refine lv_istore (lv' := [(4, .int 0), (0, .ref oW), (1, .ref oN), (2, .ref oF), (3, .int st.1)]) hx hb dX1_placeFaces_62 hl (by decide) rfl (fun ls hl => ?_)
    obtain ⟨r_14, hLr_14, h⟩ := dk_bnd_to h
    refine lX1_placeFaces_64 C hK hA hLr_14 (fun H locs hP hD hS ls hl => ?_) _ _ hP hD hS ls (lv_sub hl [1, 2, 3, 4, 0] rfl)
    obtain ⟨x3_15, ex3_15⟩ : ∃ z : Int32, z = st.1 + 1 := ⟨_, rfl⟩
    replace h := dk_let_to ex3_15 h
    refine lv_iinc (v := x3_15) (lv' := [(3, .int x3_15), (0, .ref oW), (1, .ref oN), (2, .ref oF)]) hx hb dX1_placeFaces_111 hl (k := 3) rfl (by rw [ex3_15]; rfl) (by decide) rfl (fun ls hl => ?_)
    refine lv_goto (tgt := 53) hx hb dX1_placeFaces_114 (by decide) ?_
    exact hC _ (Option.some.inj h).symm _ _ hP hD hS ls (lv_sub hl [1, 2, 3, 0] rfl)
set_option maxHeartbeats 4000000 in
set_option maxRecDepth 100000 in
theorem lX1_placeFaces_53 (C : dk_C p s m meth c args cX1_placeFaces none 5 RX1 vsX1_placeFaces) (hK : va_K (dC, dI) vwCl (dk_ty cI cJ cZ) s) (hA : ∀ q : Nat, s.heap.size ≤ q → A q) {out : (Nat → Int32) × (Nat → Int32)} {n : Nat} {st : Int32 × (Nat → Int32) × (Nat → Int32)} {r : (Nat → Int32) × (Nat → Int32)} (h : dk_loop (bX1_placeFaces_53 W_currentOf N_wires N_power F_faceOf F_howMany) n st = some r) (hE : ∀ (H : Heap) (locs : List Loc), va_P (dC, dI) vwCl (wX1 oW aW cI cJ cZ W_rows W_heightOf W_currentOf r.1 r.2 W_wide W_high W_treeCount ++ (wX4 oN aN cI cJ cZ N_first N_second N_isCut N_wireClaim N_knotClaim N_turnSize N_turns N_knots N_wires N_power ++ (wX0 oF aF cI cJ cZ F_faceOf F_dartAhead F_howMany))) H → va_D A (wX1 oW aW cI cJ cZ W_rows W_heightOf W_currentOf r.1 r.2 W_wide W_high W_treeCount ++ (wX4 oN aN cI cJ cZ N_first N_second N_isCut N_wireClaim N_knotClaim N_turnSize N_turns N_knots N_wires N_power ++ (wX0 oF aF cI cJ cZ F_faceOf F_dartAhead F_howMany))) → va_S A s.heap H locs → ∀ ls : Array Slot, lv_has ls 5 [(0, .ref oW), (1, .ref oN), (2, .ref oF)] → W p l e rX1_placeFaces s m args below meth c H locs 0 0 (MQ below (dk_Qv (dC, dI) (dk_ty cI cJ cZ) (wX1 oW aW cI cJ cZ W_rows W_heightOf W_currentOf out.1 out.2 W_wide W_high W_treeCount ++ (wX4 oN aN cI cJ cZ N_first N_second N_isCut N_wireClaim N_knotClaim N_turnSize N_turns N_knots N_wires N_power ++ (wX0 oF aF cI cJ cZ F_faceOf F_dartAhead F_howMany))) A) args s 0 0 A) (F0 m 117 ls [])) : ∀ (H : Heap) (locs : List Loc), va_P (dC, dI) vwCl (wX1 oW aW cI cJ cZ W_rows W_heightOf W_currentOf st.2.1 st.2.2 W_wide W_high W_treeCount ++ (wX4 oN aN cI cJ cZ N_first N_second N_isCut N_wireClaim N_knotClaim N_turnSize N_turns N_knots N_wires N_power ++ (wX0 oF aF cI cJ cZ F_faceOf F_dartAhead F_howMany))) H → va_D A (wX1 oW aW cI cJ cZ W_rows W_heightOf W_currentOf st.2.1 st.2.2 W_wide W_high W_treeCount ++ (wX4 oN aN cI cJ cZ N_first N_second N_isCut N_wireClaim N_knotClaim N_turnSize N_turns N_knots N_wires N_power ++ (wX0 oF aF cI cJ cZ F_faceOf F_dartAhead F_howMany))) → va_S A s.heap H locs → ∀ ls : Array Slot, lv_has ls 5 [(0, .ref oW), (1, .ref oN), (2, .ref oF), (3, .int st.1)] → W p l e rX1_placeFaces s m args below meth c H locs 0 0 (MQ below (dk_Qv (dC, dI) (dk_ty cI cJ cZ) (wX1 oW aW cI cJ cZ W_rows W_heightOf W_currentOf out.1 out.2 W_wide W_high W_treeCount ++ (wX4 oN aN cI cJ cZ N_first N_second N_isCut N_wireClaim N_knotClaim N_turnSize N_turns N_knots N_wires N_power ++ (wX0 oF aF cI cJ cZ F_faceOf F_dartAhead F_howMany))) A) args s 0 0 A) (F0 m 53 ls []) :=
  dk_loopW (P := fun st => ∀ (H : Heap) (locs : List Loc), va_P (dC, dI) vwCl (wX1 oW aW cI cJ cZ W_rows W_heightOf W_currentOf st.2.1 st.2.2 W_wide W_high W_treeCount ++ (wX4 oN aN cI cJ cZ N_first N_second N_isCut N_wireClaim N_knotClaim N_turnSize N_turns N_knots N_wires N_power ++ (wX0 oF aF cI cJ cZ F_faceOf F_dartAhead F_howMany))) H → va_D A (wX1 oW aW cI cJ cZ W_rows W_heightOf W_currentOf st.2.1 st.2.2 W_wide W_high W_treeCount ++ (wX4 oN aN cI cJ cZ N_first N_second N_isCut N_wireClaim N_knotClaim N_turnSize N_turns N_knots N_wires N_power ++ (wX0 oF aF cI cJ cZ F_faceOf F_dartAhead F_howMany))) → va_S A s.heap H locs → ∀ ls : Array Slot, lv_has ls 5 [(0, .ref oW), (1, .ref oN), (2, .ref oF), (3, .int st.1)] → W p l e rX1_placeFaces s m args below meth c H locs 0 0 (MQ below (dk_Qv (dC, dI) (dk_ty cI cJ cZ) (wX1 oW aW cI cJ cZ W_rows W_heightOf W_currentOf out.1 out.2 W_wide W_high W_treeCount ++ (wX4 oN aN cI cJ cZ N_first N_second N_isCut N_wireClaim N_knotClaim N_turnSize N_turns N_knots N_wires N_power ++ (wX0 oF aF cI cJ cZ F_faceOf F_dartAhead F_howMany))) A) args s 0 0 A) (F0 m 53 ls [])) (K := fun r => ∀ (H : Heap) (locs : List Loc), va_P (dC, dI) vwCl (wX1 oW aW cI cJ cZ W_rows W_heightOf W_currentOf r.1 r.2 W_wide W_high W_treeCount ++ (wX4 oN aN cI cJ cZ N_first N_second N_isCut N_wireClaim N_knotClaim N_turnSize N_turns N_knots N_wires N_power ++ (wX0 oF aF cI cJ cZ F_faceOf F_dartAhead F_howMany))) H → va_D A (wX1 oW aW cI cJ cZ W_rows W_heightOf W_currentOf r.1 r.2 W_wide W_high W_treeCount ++ (wX4 oN aN cI cJ cZ N_first N_second N_isCut N_wireClaim N_knotClaim N_turnSize N_turns N_knots N_wires N_power ++ (wX0 oF aF cI cJ cZ F_faceOf F_dartAhead F_howMany))) → va_S A s.heap H locs → ∀ ls : Array Slot, lv_has ls 5 [(0, .ref oW), (1, .ref oN), (2, .ref oF)] → W p l e rX1_placeFaces s m args below meth c H locs 0 0 (MQ below (dk_Qv (dC, dI) (dk_ty cI cJ cZ) (wX1 oW aW cI cJ cZ W_rows W_heightOf W_currentOf out.1 out.2 W_wide W_high W_treeCount ++ (wX4 oN aN cI cJ cZ N_first N_second N_isCut N_wireClaim N_knotClaim N_turnSize N_turns N_knots N_wires N_power ++ (wX0 oF aF cI cJ cZ F_faceOf F_dartAhead F_howMany))) A) args s 0 0 A) (F0 m 117 ls [])) (fun st y hy k1 k2 => tX1_placeFaces_53 C hK hA hy k1 k2) n st r h hE
end
set_option maxHeartbeats 4000000 in
set_option maxRecDepth 100000 in
theorem mX1_placeFaces (l : Launch) (dC : Nat → ClassId) (dI : Nat → Nat → Nat) (cI cJ cZ : ClassId) {oW : Nat} {aW : Nat → Nat} {oN : Nat} {aN : Nat → Nat} {oF : Nat} {aF : Nat → Nat} {W_rows : Nat → Int64} {W_heightOf W_currentOf W_placeOf W_isPlaced : Nat → Int32} {W_wide W_high : Int32} {W_treeCount : Int64} {N_first N_second N_isCut N_wireClaim N_knotClaim N_turnSize N_turns : Nat → Int32} {N_knots N_wires N_power : Int32} {F_faceOf F_dartAhead : Nat → Int32} {F_howMany : Int32} {out : (Nat → Int32) × (Nat → Int32)} (h : fX1_placeFaces W_currentOf W_placeOf W_isPlaced N_wires N_power F_faceOf F_howMany = some out) (sz : Nat) : Met l yX1_placeFaces vsX1_placeFaces rX1_placeFaces (va_Pc [.ref oW, .ref oN, .ref oF] (dk_Pre (dC, dI) (dk_ty cI cJ cZ) (wX1 oW aW cI cJ cZ W_rows W_heightOf W_currentOf W_placeOf W_isPlaced W_wide W_high W_treeCount ++ (wX4 oN aN cI cJ cZ N_first N_second N_isCut N_wireClaim N_knotClaim N_turnSize N_turns N_knots N_wires N_power ++ (wX0 oF aF cI cJ cZ F_faceOf F_dartAhead F_howMany))) sz)) (dk_Qv (dC, dI) (dk_ty cI cJ cZ) (wX1 oW aW cI cJ cZ W_rows W_heightOf W_currentOf out.1 out.2 W_wide W_high W_treeCount ++ (wX4 oN aN cI cJ cZ N_first N_second N_isCut N_wireClaim N_knotClaim N_turnSize N_turns N_knots N_wires N_power ++ (wX0 oF aF cI cJ cZ F_faceOf F_dartAhead F_howMany))) (va_A (wX1 oW aW cI cJ cZ W_rows W_heightOf W_currentOf W_placeOf W_isPlaced W_wide W_high W_treeCount ++ (wX4 oN aN cI cJ cZ N_first N_second N_isCut N_wireClaim N_knotClaim N_turnSize N_turns N_knots N_wires N_power ++ (wX0 oF aF cI cJ cZ F_faceOf F_dartAhead F_howMany))) sz)) 0 0 (va_A (wX1 oW aW cI cJ cZ W_rows W_heightOf W_currentOf W_placeOf W_isPlaced W_wide W_high W_treeCount ++ (wX4 oN aN cI cJ cZ N_first N_second N_isCut N_wireClaim N_knotClaim N_turnSize N_turns N_knots N_wires N_power ++ (wX0 oF aF cI cJ cZ F_faceOf F_dartAhead F_howMany))) sz) := by
  refine dk_met (cc := cX1_placeFaces) (maxL := 5) (ret := none) (Qc := fun A => dk_Qv (dC, dI) (dk_ty cI cJ cZ) (wX1 oW aW cI cJ cZ W_rows W_heightOf W_currentOf out.1 out.2 W_wide W_high W_treeCount ++ (wX4 oN aN cI cJ cZ N_first N_second N_isCut N_wireClaim N_knotClaim N_turnSize N_turns N_knots N_wires N_power ++ (wX0 oF aF cI cJ cZ F_faceOf F_dartAhead F_howMany))) A) (by decide) rfl (Nat.le_of_ble_eq_true rfl) ?_
  intro p e s m below meth c A C hnm hA hK hP hD hS ls hl
  have C : dk_C p s m meth c _ cX1_placeFaces none 5 RX1 vsX1_placeFaces := C
  obtain ⟨hx, hb, hr, hml, hown, hts, hlocks⟩ := id C
  have hl : lv_has ls 5 [(0, .ref oW), (1, .ref oN), (2, .ref oF)] := hl
  unfold fX1_placeFaces at h
  refine lv_iconst (v := 0) hx hb dX1_placeFaces_0 (by decide) ?_
  refine lv_istore_n (lv' := [(3, .int 0), (0, .ref oW), (1, .ref oN), (2, .ref oF)]) hx hb dX1_placeFaces_1 rfl hl (by decide) rfl (fun ls hl => ?_)
  obtain ⟨r_1, hLr_1, h⟩ := dk_bnd_to h
  refine lX1_placeFaces_2 C hK hA hLr_1 (fun H locs hP hD hS ls hl => ?_) _ _ hP hD hS ls (lv_sub hl [1, 2, 3, 0] rfl)
  refine lv_aload_n hx hb dX1_placeFaces_23 rfl (lv_at hl 0 rfl) ?_
  refine va_get (D := (dC, dI)) (ci := 1) (v := .ref (aW 3)) (C := RX1) (T := TX1) (N := 8) hx hb hts qX1_placeFaces_X1 hown hK hP 0 rfl rfl 3 (by decide) (hts _ qX1_placeFaces_f22) (fun _ h9 => h9) rfl dX1_placeFaces_24 ?_
  refine lv_aload_n hx hb dX1_placeFaces_27 rfl (lv_at hl 2 rfl) ?_
  refine lv_aload_n hx hb dX1_placeFaces_28 rfl (lv_at hl 1 rfl) ?_
  refine va_get (D := (dC, dI)) (ci := 4) (v := .int N_power) (C := RX4) (T := TX4) (N := 10) hx hb hts qX1_placeFaces_X4 hown hK hP 6 rfl rfl 9 (by decide) (hts _ qX1_placeFaces_f40) (fun _ h9 => h9) rfl dX1_placeFaces_29 ?_
  obtain ⟨r_2, hcr_2, h⟩ := dk_bnd_to h
  refine dk_rVi (b := oF) (As := [.int N_power]) (rest := [.ref (aW 3)]) (wc := (wX0 oF aF cI cJ cZ F_faceOf F_dartAhead F_howMany)) C hK hP hD hS hA (mX0_leftOf l dC dI cI cJ cZ hcr_2 _) (cwV 1 hts gvX1_placeFaces_X0_leftOf rfl rfl rfl (by decide +kernel) ⟨Nat.le_of_ble_eq_true rfl, Nat.le_of_ble_eq_true rfl⟩) [14, 15, 16] rfl (by decide) 0 0 rfl rfl rfl hl.1 rfl (Nat.le_of_ble_eq_true rfl) ⟨Nat.le_of_ble_eq_true rfl, Nat.le_of_ble_eq_true rfl⟩ dX1_placeFaces_32 (fun H locs hP hD hS => ?_)
  refine lv_iconst (v := 0) hx hb dX1_placeFaces_35 (by decide) ?_
  obtain ⟨g_3, h⟩ := dk_gd_to h
  have g_3 := dk_in_to g_3
  refine va_iast hx hb hK hP hD hS 4 0 rfl rfl g_3 dX1_placeFaces_36 (fun H locs hP hD hS => ?_)
  obtain ⟨W_placeOf_4, eW_placeOf_4⟩ : ∃ z : Nat → Int32, z = upd W_placeOf r_2.toNatClampNeg 0 := ⟨_, rfl⟩
  replace h := dk_let_to eW_placeOf_4 h
  have hP : va_P (dC, dI) vwCl (wX1 oW aW cI cJ cZ W_rows W_heightOf W_currentOf W_placeOf_4 r_1 W_wide W_high W_treeCount ++ (wX4 oN aN cI cJ cZ N_first N_second N_isCut N_wireClaim N_knotClaim N_turnSize N_turns N_knots N_wires N_power ++ (wX0 oF aF cI cJ cZ F_faceOf F_dartAhead F_howMany))) H := by rw [eW_placeOf_4]; exact hP
  have hD : va_D A (wX1 oW aW cI cJ cZ W_rows W_heightOf W_currentOf W_placeOf_4 r_1 W_wide W_high W_treeCount ++ (wX4 oN aN cI cJ cZ N_first N_second N_isCut N_wireClaim N_knotClaim N_turnSize N_turns N_knots N_wires N_power ++ (wX0 oF aF cI cJ cZ F_faceOf F_dartAhead F_howMany))) := by rw [eW_placeOf_4]; exact hD
  refine lv_aload_n hx hb dX1_placeFaces_37 rfl (lv_at hl 0 rfl) ?_
  refine va_get (D := (dC, dI)) (ci := 1) (v := .ref (aW 4)) (C := RX1) (T := TX1) (N := 8) hx hb hts qX1_placeFaces_X1 hown hK hP 0 rfl rfl 4 (by decide) (hts _ qX1_placeFaces_f25) (fun _ h9 => h9) rfl dX1_placeFaces_38 ?_
  refine lv_aload_n hx hb dX1_placeFaces_41 rfl (lv_at hl 2 rfl) ?_
  refine lv_aload_n hx hb dX1_placeFaces_42 rfl (lv_at hl 1 rfl) ?_
  refine va_get (D := (dC, dI)) (ci := 4) (v := .int N_power) (C := RX4) (T := TX4) (N := 10) hx hb hts qX1_placeFaces_X4 hown hK hP 6 rfl rfl 9 (by decide) (hts _ qX1_placeFaces_f40) (fun _ h9 => h9) rfl dX1_placeFaces_43 ?_
  obtain ⟨r_5, hcr_5, h⟩ := dk_bnd_to h
  refine dk_rVi (b := oF) (As := [.int N_power]) (rest := [.ref (aW 4)]) (wc := (wX0 oF aF cI cJ cZ F_faceOf F_dartAhead F_howMany)) C hK hP hD hS hA (mX0_leftOf l dC dI cI cJ cZ hcr_5 _) (cwV 1 hts gvX1_placeFaces_X0_leftOf rfl rfl rfl (by decide +kernel) ⟨Nat.le_of_ble_eq_true rfl, Nat.le_of_ble_eq_true rfl⟩) [14, 15, 16] rfl (by decide) 0 0 rfl rfl rfl hl.1 rfl (Nat.le_of_ble_eq_true rfl) ⟨Nat.le_of_ble_eq_true rfl, Nat.le_of_ble_eq_true rfl⟩ dX1_placeFaces_46 (fun H locs hP hD hS => ?_)
  refine lv_iconst (v := 1) hx hb dX1_placeFaces_49 (by decide) ?_
  obtain ⟨g_6, h⟩ := dk_gd_to h
  have g_6 := dk_in_to g_6
  refine va_zast hx hb hK hP hD hS 5 2 rfl rfl g_6 dX1_placeFaces_50 (fun H locs hP hD hS => ?_)
  obtain ⟨W_isPlaced_7, eW_isPlaced_7⟩ : ∃ z : Nat → Int32, z = upd r_1 r_5.toNatClampNeg (vp_nar .boolean 1) := ⟨_, rfl⟩
  replace h := dk_let_to eW_isPlaced_7 h
  have hP : va_P (dC, dI) vwCl (wX1 oW aW cI cJ cZ W_rows W_heightOf W_currentOf W_placeOf_4 W_isPlaced_7 W_wide W_high W_treeCount ++ (wX4 oN aN cI cJ cZ N_first N_second N_isCut N_wireClaim N_knotClaim N_turnSize N_turns N_knots N_wires N_power ++ (wX0 oF aF cI cJ cZ F_faceOf F_dartAhead F_howMany))) H := by rw [eW_isPlaced_7]; exact hP
  have hD : va_D A (wX1 oW aW cI cJ cZ W_rows W_heightOf W_currentOf W_placeOf_4 W_isPlaced_7 W_wide W_high W_treeCount ++ (wX4 oN aN cI cJ cZ N_first N_second N_isCut N_wireClaim N_knotClaim N_turnSize N_turns N_knots N_wires N_power ++ (wX0 oF aF cI cJ cZ F_faceOf F_dartAhead F_howMany))) := by rw [eW_isPlaced_7]; exact hD
  refine lv_iconst (v := 0) hx hb dX1_placeFaces_51 (by decide) ?_
  refine lv_istore_n (lv' := [(3, .int 0), (0, .ref oW), (1, .ref oN), (2, .ref oF)]) hx hb dX1_placeFaces_52 rfl hl (by decide) rfl (fun ls hl => ?_)
  obtain ⟨r_8, hLr_8, h⟩ := dk_bnd_to h
  refine lX1_placeFaces_53 C hK hA hLr_8 (fun H locs hP hD hS ls hl => ?_) _ _ hP hD hS ls (lv_sub hl [1, 2, 3, 0] rfl)
  have e9 := Option.some.inj h
  subst e9
  exact dk_vret C hK hP hD hS dX1_placeFaces_117
/-! ===== SquareTiler$Flow.takeCurrents ===== -/
abbrev rX1_takeCurrents : Room := { frames := 1, cells := 0, slots := 0, locals := 21 }
def ovX1_takeCurrents : List Cond := [Cond.fieldLink RX1 66 "SquareTiler$Net" "first" "[I", Cond.fieldLink RX1 40 "SquareTiler$Net" "power" "I", Cond.fieldLink RX1 29 "SquareTiler$Flow" "wide" "I", Cond.fieldLink RX1 73 "SquareTiler$Net" "wires" "I", Cond.fieldLink RX1 79 "SquareTiler$Net" "second" "[I", Cond.fieldLink RX1 19 "SquareTiler$Flow" "currentOf" "[I", Cond.fieldLink RX1 15 "SquareTiler$Flow" "heightOf" "[I", Cond.methodLink RX1 76 yX4_isPlain, Cond.instanceMethod yX4_isPlain, Cond.selects RX4 yX4_isPlain yX4_isPlain, Cond.initialized RX4]
def vsX1_takeCurrents : List Cond := .code yX1_takeCurrents cX1_takeCurrents 6 none :: (ovX1_takeCurrents ++ (wsX40 ++ (wsX10 ++ (vsX4_isPlain ++ []))))
theorem qX1_takeCurrents_f66 : Cond.fieldLink RX1 66 "SquareTiler$Net" "first" "[I" ∈ vsX1_takeCurrents := List.mem_cons_of_mem _ (List.mem_append_left _ (List.mem_of_getElem? (i := 0) rfl))
theorem qX1_takeCurrents_f40 : Cond.fieldLink RX1 40 "SquareTiler$Net" "power" "I" ∈ vsX1_takeCurrents := List.mem_cons_of_mem _ (List.mem_append_left _ (List.mem_of_getElem? (i := 1) rfl))
theorem qX1_takeCurrents_f29 : Cond.fieldLink RX1 29 "SquareTiler$Flow" "wide" "I" ∈ vsX1_takeCurrents := List.mem_cons_of_mem _ (List.mem_append_left _ (List.mem_of_getElem? (i := 2) rfl))
theorem qX1_takeCurrents_f73 : Cond.fieldLink RX1 73 "SquareTiler$Net" "wires" "I" ∈ vsX1_takeCurrents := List.mem_cons_of_mem _ (List.mem_append_left _ (List.mem_of_getElem? (i := 3) rfl))
theorem qX1_takeCurrents_f79 : Cond.fieldLink RX1 79 "SquareTiler$Net" "second" "[I" ∈ vsX1_takeCurrents := List.mem_cons_of_mem _ (List.mem_append_left _ (List.mem_of_getElem? (i := 4) rfl))
theorem qX1_takeCurrents_f19 : Cond.fieldLink RX1 19 "SquareTiler$Flow" "currentOf" "[I" ∈ vsX1_takeCurrents := List.mem_cons_of_mem _ (List.mem_append_left _ (List.mem_of_getElem? (i := 5) rfl))
theorem qX1_takeCurrents_f15 : Cond.fieldLink RX1 15 "SquareTiler$Flow" "heightOf" "[I" ∈ vsX1_takeCurrents := List.mem_cons_of_mem _ (List.mem_append_left _ (List.mem_of_getElem? (i := 6) rfl))
theorem qX1_takeCurrents_w7 : Cond.methodLink RX1 76 yX4_isPlain ∈ vsX1_takeCurrents := List.mem_cons_of_mem _ (List.mem_append_left _ (List.mem_of_getElem? (i := 7) rfl))
theorem qX1_takeCurrents_w8 : Cond.instanceMethod yX4_isPlain ∈ vsX1_takeCurrents := List.mem_cons_of_mem _ (List.mem_append_left _ (List.mem_of_getElem? (i := 8) rfl))
theorem qX1_takeCurrents_w9 : Cond.selects RX4 yX4_isPlain yX4_isPlain ∈ vsX1_takeCurrents := List.mem_cons_of_mem _ (List.mem_append_left _ (List.mem_of_getElem? (i := 9) rfl))
theorem qX1_takeCurrents_w10 : Cond.initialized RX4 ∈ vsX1_takeCurrents := List.mem_cons_of_mem _ (List.mem_append_left _ (List.mem_of_getElem? (i := 10) rfl))
theorem qX1_takeCurrents_X4 : ∀ w ∈ u_ws RX4 TX4 10, w ∈ vsX1_takeCurrents := fun w h => List.mem_cons_of_mem _ (List.mem_append_right _ (List.mem_append_left _ h))
theorem qX1_takeCurrents_X1 : ∀ w ∈ u_ws RX1 TX1 8, w ∈ vsX1_takeCurrents := fun w h => List.mem_cons_of_mem _ (List.mem_append_right _ (List.mem_append_right _ (List.mem_append_left _ h)))
theorem gd_vsX1_takeCurrents : ∀ w ∈ vsX1_takeCurrents, goodWord w = true := dk_cons rfl (dk_app (dk_all (by decide +kernel)) (dk_app gd_wsX40 (dk_app gd_wsX10 (dk_app gd_vsX4_isPlain dk_nil))))
theorem gvX1_takeCurrents_X4_isPlain : GoodIn vsX1_takeCurrents (wsV RX1 76 RX4 yX4_isPlain vsX4_isPlain) := goodIn_app (dk_g4 qX1_takeCurrents_w7 qX1_takeCurrents_w8 qX1_takeCurrents_w9 qX1_takeCurrents_w10 rfl) (dk_gIn (fun w h => List.mem_cons_of_mem _ (List.mem_append_right _ (List.mem_append_right _ (List.mem_append_right _ (List.mem_append_left _ h))))) gd_vsX4_isPlain)
def jX1_takeCurrents_119 (W_heightOf W_currentOf : Nat → Int32) (W_wide : Int32) (N_first N_second N_isCut : Nat → Int32) (N_wires N_power x2 x3 : Int32) : Option (((Nat → Int32) × Int32) ⊕ (Int32 × (Nat → Int32) × Int32)) := dk_let (x3 + 1) (fun x3_20 => some (.inr (x3_20, W_currentOf, W_wide)))
def jX1_takeCurrents_73 (W_heightOf W_currentOf : Nat → Int32) (W_wide : Int32) (N_first N_second N_isCut : Nat → Int32) (N_wires N_power x2 x3 x4 x5 s1 s2 : Int32) : Option (((Nat → Int32) × Int32) ⊕ (Int32 × (Nat → Int32) × Int32)) := dk_gd (dk_in s1 22) (dk_let (upd W_currentOf s1.toNatClampNeg s2) (fun W_currentOf_13 => if x4 = x2 then dk_gd (dk_in x3 22) (dk_let ((W_wide + (W_currentOf_13 x3.toNatClampNeg))) (fun W_wide_19 => jX1_takeCurrents_119 W_heightOf W_currentOf_13 W_wide_19 N_first N_second N_isCut N_wires N_power x2 x3)) else if x5 = x2 then dk_gd (dk_in x3 22) (dk_let ((W_wide - (W_currentOf_13 x3.toNatClampNeg))) (fun W_wide_17 => jX1_takeCurrents_119 W_heightOf W_currentOf_13 W_wide_17 N_first N_second N_isCut N_wires N_power x2 x3)) else jX1_takeCurrents_119 W_heightOf W_currentOf_13 W_wide N_first N_second N_isCut N_wires N_power x2 x3))
def bX1_takeCurrents_17 (W_heightOf N_first N_second N_isCut : Nat → Int32) (N_wires N_power x2 : Int32) (st : Int32 × (Nat → Int32) × Int32) : Option (((Nat → Int32) × Int32) ⊕ (Int32 × (Nat → Int32) × Int32)) := if N_wires ≤ st.1 then some (.inl (st.2.1, st.2.2)) else dk_gd (dk_in st.1 22) (dk_let ((N_first st.1.toNatClampNeg)) (fun x4_6 => dk_let ((N_second st.1.toNatClampNeg)) (fun x5_7 => dk_bnd (fX4_isPlain N_isCut N_power st.1) (fun r_8 => if r_8 = 0 then jX1_takeCurrents_73 W_heightOf st.2.1 st.2.2 N_first N_second N_isCut N_wires N_power x2 st.1 x4_6 x5_7 st.1 0 else dk_gd (dk_in x4_6 12) (dk_gd (dk_in x5_7 12) (jX1_takeCurrents_73 W_heightOf st.2.1 st.2.2 N_first N_second N_isCut N_wires N_power x2 st.1 x4_6 x5_7 st.1 ((W_heightOf x4_6.toNatClampNeg) - (W_heightOf x5_7.toNatClampNeg))))))))
def fX1_takeCurrents (W_heightOf W_currentOf : Nat → Int32) (W_wide : Int32) (N_first N_second N_isCut : Nat → Int32) (N_wires N_power : Int32) : Option ((Nat → Int32) × Int32) := dk_gd (dk_in N_power 22) (dk_let ((N_first N_power.toNatClampNeg)) (fun x2_2 => dk_bnd (dk_loop (bX1_takeCurrents_17 W_heightOf N_first N_second N_isCut N_wires N_power x2_2) 1000 (0, W_currentOf, 0)) (fun r_3 => some (r_3.1, r_3.2))))
section
variable {p : Program} {l : Launch} {e : Env} {s : State} {m : MethodId} {args : Array Value} {below : List Frame} {meth : Method} {c : Code} {dC : Nat → ClassId} {dI : Nat → Nat → Nat} {cI cJ cZ : ClassId} {A : Nat → Prop} {oW : Nat} {aW : Nat → Nat} {oN : Nat} {aN : Nat → Nat} {W_rows : Nat → Int64} {W_heightOf W_currentOf W_placeOf W_isPlaced : Nat → Int32} {W_wide W_high : Int32} {W_treeCount : Int64} {N_first N_second N_isCut N_wireClaim N_knotClaim N_turnSize N_turns : Nat → Int32} {N_knots N_wires N_power : Int32}
set_option maxHeartbeats 4000000 in
set_option maxRecDepth 100000 in
theorem kX1_takeCurrents_119 (C : dk_C p s m meth c args cX1_takeCurrents none 6 RX1 vsX1_takeCurrents) (hK : va_K (dC, dI) vwCl (dk_ty cI cJ cZ) s) (hA : ∀ q : Nat, s.heap.size ≤ q → A q) {out : (Nat → Int32) × Int32} {x2 x3 : Int32} {y : ((Nat → Int32) × Int32) ⊕ (Int32 × (Nat → Int32) × Int32)} (h : jX1_takeCurrents_119 W_heightOf W_currentOf W_wide N_first N_second N_isCut N_wires N_power x2 x3 = some y) (hE : ∀ z : (Nat → Int32) × Int32, y = .inl z → ∀ (H : Heap) (locs : List Loc), va_P (dC, dI) vwCl (wX1 oW aW cI cJ cZ W_rows W_heightOf z.1 W_placeOf W_isPlaced z.2 W_high W_treeCount ++ (wX4 oN aN cI cJ cZ N_first N_second N_isCut N_wireClaim N_knotClaim N_turnSize N_turns N_knots N_wires N_power)) H → va_D A (wX1 oW aW cI cJ cZ W_rows W_heightOf z.1 W_placeOf W_isPlaced z.2 W_high W_treeCount ++ (wX4 oN aN cI cJ cZ N_first N_second N_isCut N_wireClaim N_knotClaim N_turnSize N_turns N_knots N_wires N_power)) → va_S A s.heap H locs → ∀ ls : Array Slot, lv_has ls 6 [(0, .ref oW), (1, .ref oN)] → W p l e rX1_takeCurrents s m args below meth c H locs 0 0 (MQ below (dk_Qv (dC, dI) (dk_ty cI cJ cZ) (wX1 oW aW cI cJ cZ W_rows W_heightOf out.1 W_placeOf W_isPlaced out.2 W_high W_treeCount ++ (wX4 oN aN cI cJ cZ N_first N_second N_isCut N_wireClaim N_knotClaim N_turnSize N_turns N_knots N_wires N_power)) A) args s 0 0 A) (F0 m 125 ls [])) (hC : ∀ z : Int32 × (Nat → Int32) × Int32, y = .inr z → ∀ (H : Heap) (locs : List Loc), va_P (dC, dI) vwCl (wX1 oW aW cI cJ cZ W_rows W_heightOf z.2.1 W_placeOf W_isPlaced z.2.2 W_high W_treeCount ++ (wX4 oN aN cI cJ cZ N_first N_second N_isCut N_wireClaim N_knotClaim N_turnSize N_turns N_knots N_wires N_power)) H → va_D A (wX1 oW aW cI cJ cZ W_rows W_heightOf z.2.1 W_placeOf W_isPlaced z.2.2 W_high W_treeCount ++ (wX4 oN aN cI cJ cZ N_first N_second N_isCut N_wireClaim N_knotClaim N_turnSize N_turns N_knots N_wires N_power)) → va_S A s.heap H locs → ∀ ls : Array Slot, lv_has ls 6 [(0, .ref oW), (1, .ref oN), (2, .int x2), (3, .int z.1)] → W p l e rX1_takeCurrents s m args below meth c H locs 0 0 (MQ below (dk_Qv (dC, dI) (dk_ty cI cJ cZ) (wX1 oW aW cI cJ cZ W_rows W_heightOf out.1 W_placeOf W_isPlaced out.2 W_high W_treeCount ++ (wX4 oN aN cI cJ cZ N_first N_second N_isCut N_wireClaim N_knotClaim N_turnSize N_turns N_knots N_wires N_power)) A) args s 0 0 A) (F0 m 17 ls [])) : ∀ (H : Heap) (locs : List Loc), va_P (dC, dI) vwCl (wX1 oW aW cI cJ cZ W_rows W_heightOf W_currentOf W_placeOf W_isPlaced W_wide W_high W_treeCount ++ (wX4 oN aN cI cJ cZ N_first N_second N_isCut N_wireClaim N_knotClaim N_turnSize N_turns N_knots N_wires N_power)) H → va_D A (wX1 oW aW cI cJ cZ W_rows W_heightOf W_currentOf W_placeOf W_isPlaced W_wide W_high W_treeCount ++ (wX4 oN aN cI cJ cZ N_first N_second N_isCut N_wireClaim N_knotClaim N_turnSize N_turns N_knots N_wires N_power)) → va_S A s.heap H locs → ∀ ls : Array Slot, lv_has ls 6 [(0, .ref oW), (1, .ref oN), (2, .int x2), (3, .int x3)] → W p l e rX1_takeCurrents s m args below meth c H locs 0 0 (MQ below (dk_Qv (dC, dI) (dk_ty cI cJ cZ) (wX1 oW aW cI cJ cZ W_rows W_heightOf out.1 W_placeOf W_isPlaced out.2 W_high W_treeCount ++ (wX4 oN aN cI cJ cZ N_first N_second N_isCut N_wireClaim N_knotClaim N_turnSize N_turns N_knots N_wires N_power)) A) args s 0 0 A) (F0 m 119 ls []) := by
  obtain ⟨hx, hb, hr, hml, hown, hts, hlocks⟩ := id C
  intro H locs hP hD hS ls hl
  unfold jX1_takeCurrents_119 at h
  obtain ⟨x3_20, ex3_20⟩ : ∃ z : Int32, z = x3 + 1 := ⟨_, rfl⟩
  replace h := dk_let_to ex3_20 h
  refine lv_iinc (v := x3_20) (lv' := [(3, .int x3_20), (0, .ref oW), (1, .ref oN), (2, .int x2)]) hx hb dX1_takeCurrents_119 hl (k := 3) rfl (by rw [ex3_20]; rfl) (by decide) rfl (fun ls hl => ?_)
  refine lv_goto (tgt := 17) hx hb dX1_takeCurrents_122 (by decide) ?_
  exact hC _ (Option.some.inj h).symm _ _ hP hD hS ls (lv_sub hl [1, 2, 3, 0] rfl)
set_option maxHeartbeats 4000000 in
set_option maxRecDepth 100000 in
theorem kX1_takeCurrents_73 (C : dk_C p s m meth c args cX1_takeCurrents none 6 RX1 vsX1_takeCurrents) (hK : va_K (dC, dI) vwCl (dk_ty cI cJ cZ) s) (hA : ∀ q : Nat, s.heap.size ≤ q → A q) {out : (Nat → Int32) × Int32} {x2 x3 x4 x5 s1 s2 : Int32} {y : ((Nat → Int32) × Int32) ⊕ (Int32 × (Nat → Int32) × Int32)} (h : jX1_takeCurrents_73 W_heightOf W_currentOf W_wide N_first N_second N_isCut N_wires N_power x2 x3 x4 x5 s1 s2 = some y) (hE : ∀ z : (Nat → Int32) × Int32, y = .inl z → ∀ (H : Heap) (locs : List Loc), va_P (dC, dI) vwCl (wX1 oW aW cI cJ cZ W_rows W_heightOf z.1 W_placeOf W_isPlaced z.2 W_high W_treeCount ++ (wX4 oN aN cI cJ cZ N_first N_second N_isCut N_wireClaim N_knotClaim N_turnSize N_turns N_knots N_wires N_power)) H → va_D A (wX1 oW aW cI cJ cZ W_rows W_heightOf z.1 W_placeOf W_isPlaced z.2 W_high W_treeCount ++ (wX4 oN aN cI cJ cZ N_first N_second N_isCut N_wireClaim N_knotClaim N_turnSize N_turns N_knots N_wires N_power)) → va_S A s.heap H locs → ∀ ls : Array Slot, lv_has ls 6 [(0, .ref oW), (1, .ref oN)] → W p l e rX1_takeCurrents s m args below meth c H locs 0 0 (MQ below (dk_Qv (dC, dI) (dk_ty cI cJ cZ) (wX1 oW aW cI cJ cZ W_rows W_heightOf out.1 W_placeOf W_isPlaced out.2 W_high W_treeCount ++ (wX4 oN aN cI cJ cZ N_first N_second N_isCut N_wireClaim N_knotClaim N_turnSize N_turns N_knots N_wires N_power)) A) args s 0 0 A) (F0 m 125 ls [])) (hC : ∀ z : Int32 × (Nat → Int32) × Int32, y = .inr z → ∀ (H : Heap) (locs : List Loc), va_P (dC, dI) vwCl (wX1 oW aW cI cJ cZ W_rows W_heightOf z.2.1 W_placeOf W_isPlaced z.2.2 W_high W_treeCount ++ (wX4 oN aN cI cJ cZ N_first N_second N_isCut N_wireClaim N_knotClaim N_turnSize N_turns N_knots N_wires N_power)) H → va_D A (wX1 oW aW cI cJ cZ W_rows W_heightOf z.2.1 W_placeOf W_isPlaced z.2.2 W_high W_treeCount ++ (wX4 oN aN cI cJ cZ N_first N_second N_isCut N_wireClaim N_knotClaim N_turnSize N_turns N_knots N_wires N_power)) → va_S A s.heap H locs → ∀ ls : Array Slot, lv_has ls 6 [(0, .ref oW), (1, .ref oN), (2, .int x2), (3, .int z.1)] → W p l e rX1_takeCurrents s m args below meth c H locs 0 0 (MQ below (dk_Qv (dC, dI) (dk_ty cI cJ cZ) (wX1 oW aW cI cJ cZ W_rows W_heightOf out.1 W_placeOf W_isPlaced out.2 W_high W_treeCount ++ (wX4 oN aN cI cJ cZ N_first N_second N_isCut N_wireClaim N_knotClaim N_turnSize N_turns N_knots N_wires N_power)) A) args s 0 0 A) (F0 m 17 ls [])) : ∀ (H : Heap) (locs : List Loc), va_P (dC, dI) vwCl (wX1 oW aW cI cJ cZ W_rows W_heightOf W_currentOf W_placeOf W_isPlaced W_wide W_high W_treeCount ++ (wX4 oN aN cI cJ cZ N_first N_second N_isCut N_wireClaim N_knotClaim N_turnSize N_turns N_knots N_wires N_power)) H → va_D A (wX1 oW aW cI cJ cZ W_rows W_heightOf W_currentOf W_placeOf W_isPlaced W_wide W_high W_treeCount ++ (wX4 oN aN cI cJ cZ N_first N_second N_isCut N_wireClaim N_knotClaim N_turnSize N_turns N_knots N_wires N_power)) → va_S A s.heap H locs → ∀ ls : Array Slot, lv_has ls 6 [(0, .ref oW), (1, .ref oN), (2, .int x2), (3, .int x3), (4, .int x4), (5, .int x5)] → W p l e rX1_takeCurrents s m args below meth c H locs 0 0 (MQ below (dk_Qv (dC, dI) (dk_ty cI cJ cZ) (wX1 oW aW cI cJ cZ W_rows W_heightOf out.1 W_placeOf W_isPlaced out.2 W_high W_treeCount ++ (wX4 oN aN cI cJ cZ N_first N_second N_isCut N_wireClaim N_knotClaim N_turnSize N_turns N_knots N_wires N_power)) A) args s 0 0 A) (F0 m 73 ls [.int s2, .int s1, .ref (aW 2)]) := by
  obtain ⟨hx, hb, hr, hml, hown, hts, hlocks⟩ := id C
  intro H locs hP hD hS ls hl
  unfold jX1_takeCurrents_73 at h
  obtain ⟨g_12, h⟩ := dk_gd_to h
  have g_12 := dk_in_to g_12
  refine va_iast hx hb hK hP hD hS 3 0 rfl rfl g_12 dX1_takeCurrents_73 (fun H locs hP hD hS => ?_)
  obtain ⟨W_currentOf_13, eW_currentOf_13⟩ : ∃ z : Nat → Int32, z = upd W_currentOf s1.toNatClampNeg s2 := ⟨_, rfl⟩
  replace h := dk_let_to eW_currentOf_13 h
  have hP : va_P (dC, dI) vwCl (wX1 oW aW cI cJ cZ W_rows W_heightOf W_currentOf_13 W_placeOf W_isPlaced W_wide W_high W_treeCount ++ (wX4 oN aN cI cJ cZ N_first N_second N_isCut N_wireClaim N_knotClaim N_turnSize N_turns N_knots N_wires N_power)) H := by rw [eW_currentOf_13]; exact hP
  have hD : va_D A (wX1 oW aW cI cJ cZ W_rows W_heightOf W_currentOf_13 W_placeOf W_isPlaced W_wide W_high W_treeCount ++ (wX4 oN aN cI cJ cZ N_first N_second N_isCut N_wireClaim N_knotClaim N_turnSize N_turns N_knots N_wires N_power)) := by rw [eW_currentOf_13]; exact hD
  refine lv_iload hx hb dX1_takeCurrents_74 (lv_at hl 4 rfl) ?_
  refine lv_iload_n hx hb dX1_takeCurrents_76 rfl (lv_at hl 2 rfl) ?_
  refine lv_icmp_ne (tgt := 98) hx hb dX1_takeCurrents_77 (by decide) (fun c_14 => ?_) (fun c_14 => ?_)
  · replace h := dk_ie c_14 h
    refine lv_iload hx hb dX1_takeCurrents_98 (lv_at hl 5 rfl) ?_
    refine lv_iload_n hx hb dX1_takeCurrents_100 rfl (lv_at hl 2 rfl) ?_
    refine lv_icmp_ne (tgt := 119) hx hb dX1_takeCurrents_101 (by decide) (fun c_15 => ?_) (fun c_15 => ?_)
    · replace h := dk_ie c_15 h
      exact kX1_takeCurrents_119 C hK hA h hE hC _ _ hP hD hS ls (lv_sub hl [0, 1, 2, 3] rfl)
    · replace h := dk_it c_15 h
      refine lv_aload_n hx hb dX1_takeCurrents_104 rfl (lv_at hl 0 rfl) ?_
      refine lv_dup hx hb dX1_takeCurrents_105 rfl ?_
      refine va_get (D := (dC, dI)) (ci := 1) (v := .int W_wide) (C := RX1) (T := TX1) (N := 8) hx hb hts qX1_takeCurrents_X1 hown hK hP 0 rfl rfl 5 (by decide) (hts _ qX1_takeCurrents_f29) (fun _ h9 => h9) rfl dX1_takeCurrents_106 ?_
      refine lv_aload_n hx hb dX1_takeCurrents_109 rfl (lv_at hl 0 rfl) ?_
      refine va_get (D := (dC, dI)) (ci := 1) (v := .ref (aW 2)) (C := RX1) (T := TX1) (N := 8) hx hb hts qX1_takeCurrents_X1 hown hK hP 0 rfl rfl 2 (by decide) (hts _ qX1_takeCurrents_f19) (fun _ h9 => h9) rfl dX1_takeCurrents_110 ?_
      refine lv_iload_n hx hb dX1_takeCurrents_113 rfl (lv_at hl 3 rfl) ?_
      obtain ⟨g_16, h⟩ := dk_gd_to h
      have g_16 := dk_in_to g_16
      refine va_iald hx hb hK hP 3 0 rfl rfl g_16 dX1_takeCurrents_114 ?_
      refine lv_isub hx hb dX1_takeCurrents_115 ?_
      refine va_put (D := (dC, dI)) (ci := 1) (v := .int (W_wide - (W_currentOf_13 x3.toNatClampNeg))) (ty := .int) (C := RX1) (T := TX1) (N := 8) hx hb hts qX1_takeCurrents_X1 tyX1 tyX1_ok nmX1 hown hK hP hD hS 0 rfl rfl 5 (by decide) (hts _ qX1_takeCurrents_f29) (fun _ h9 => h9) rfl (by decide +kernel) rfl rfl (Nat.le_of_ble_eq_true rfl) dX1_takeCurrents_116 (fun H locs hP hD hS => ?_)
      obtain ⟨W_wide_17, eW_wide_17⟩ : ∃ z : Int32, z = (W_wide - (W_currentOf_13 x3.toNatClampNeg)) := ⟨_, rfl⟩
      replace h := dk_let_to eW_wide_17 h
      have hP : va_P (dC, dI) vwCl (wX1 oW aW cI cJ cZ W_rows W_heightOf W_currentOf_13 W_placeOf W_isPlaced W_wide_17 W_high W_treeCount ++ (wX4 oN aN cI cJ cZ N_first N_second N_isCut N_wireClaim N_knotClaim N_turnSize N_turns N_knots N_wires N_power)) H := by rw [eW_wide_17]; exact hP
      have hD : va_D A (wX1 oW aW cI cJ cZ W_rows W_heightOf W_currentOf_13 W_placeOf W_isPlaced W_wide_17 W_high W_treeCount ++ (wX4 oN aN cI cJ cZ N_first N_second N_isCut N_wireClaim N_knotClaim N_turnSize N_turns N_knots N_wires N_power)) := by rw [eW_wide_17]; exact hD
      exact kX1_takeCurrents_119 C hK hA h hE hC _ _ hP hD hS ls (lv_sub hl [0, 1, 2, 3] rfl)
  · replace h := dk_it c_14 h
    refine lv_aload_n hx hb dX1_takeCurrents_80 rfl (lv_at hl 0 rfl) ?_
    refine lv_dup hx hb dX1_takeCurrents_81 rfl ?_
    refine va_get (D := (dC, dI)) (ci := 1) (v := .int W_wide) (C := RX1) (T := TX1) (N := 8) hx hb hts qX1_takeCurrents_X1 hown hK hP 0 rfl rfl 5 (by decide) (hts _ qX1_takeCurrents_f29) (fun _ h9 => h9) rfl dX1_takeCurrents_82 ?_
    refine lv_aload_n hx hb dX1_takeCurrents_85 rfl (lv_at hl 0 rfl) ?_
    refine va_get (D := (dC, dI)) (ci := 1) (v := .ref (aW 2)) (C := RX1) (T := TX1) (N := 8) hx hb hts qX1_takeCurrents_X1 hown hK hP 0 rfl rfl 2 (by decide) (hts _ qX1_takeCurrents_f19) (fun _ h9 => h9) rfl dX1_takeCurrents_86 ?_
    refine lv_iload_n hx hb dX1_takeCurrents_89 rfl (lv_at hl 3 rfl) ?_
    obtain ⟨g_18, h⟩ := dk_gd_to h
    have g_18 := dk_in_to g_18
    refine va_iald hx hb hK hP 3 0 rfl rfl g_18 dX1_takeCurrents_90 ?_
    refine lv_iadd hx hb dX1_takeCurrents_91 ?_
    refine va_put (D := (dC, dI)) (ci := 1) (v := .int (W_wide + (W_currentOf_13 x3.toNatClampNeg))) (ty := .int) (C := RX1) (T := TX1) (N := 8) hx hb hts qX1_takeCurrents_X1 tyX1 tyX1_ok nmX1 hown hK hP hD hS 0 rfl rfl 5 (by decide) (hts _ qX1_takeCurrents_f29) (fun _ h9 => h9) rfl (by decide +kernel) rfl rfl (Nat.le_of_ble_eq_true rfl) dX1_takeCurrents_92 (fun H locs hP hD hS => ?_)
    obtain ⟨W_wide_19, eW_wide_19⟩ : ∃ z : Int32, z = (W_wide + (W_currentOf_13 x3.toNatClampNeg)) := ⟨_, rfl⟩
    replace h := dk_let_to eW_wide_19 h
    have hP : va_P (dC, dI) vwCl (wX1 oW aW cI cJ cZ W_rows W_heightOf W_currentOf_13 W_placeOf W_isPlaced W_wide_19 W_high W_treeCount ++ (wX4 oN aN cI cJ cZ N_first N_second N_isCut N_wireClaim N_knotClaim N_turnSize N_turns N_knots N_wires N_power)) H := by rw [eW_wide_19]; exact hP
    have hD : va_D A (wX1 oW aW cI cJ cZ W_rows W_heightOf W_currentOf_13 W_placeOf W_isPlaced W_wide_19 W_high W_treeCount ++ (wX4 oN aN cI cJ cZ N_first N_second N_isCut N_wireClaim N_knotClaim N_turnSize N_turns N_knots N_wires N_power)) := by rw [eW_wide_19]; exact hD
    refine lv_goto (tgt := 119) hx hb dX1_takeCurrents_95 (by decide) ?_
    exact kX1_takeCurrents_119 C hK hA h hE hC _ _ hP hD hS ls (lv_sub hl [0, 1, 2, 3] rfl)
set_option maxHeartbeats 4000000 in
set_option maxRecDepth 100000 in
theorem tX1_takeCurrents_17 (C : dk_C p s m meth c args cX1_takeCurrents none 6 RX1 vsX1_takeCurrents) (hK : va_K (dC, dI) vwCl (dk_ty cI cJ cZ) s) (hA : ∀ q : Nat, s.heap.size ≤ q → A q) {out : (Nat → Int32) × Int32} {x2 : Int32} {st : Int32 × (Nat → Int32) × Int32} {y : ((Nat → Int32) × Int32) ⊕ (Int32 × (Nat → Int32) × Int32)} (h : bX1_takeCurrents_17 W_heightOf N_first N_second N_isCut N_wires N_power x2 st = some y) (hE : ∀ z : (Nat → Int32) × Int32, y = .inl z → ∀ (H : Heap) (locs : List Loc), va_P (dC, dI) vwCl (wX1 oW aW cI cJ cZ W_rows W_heightOf z.1 W_placeOf W_isPlaced z.2 W_high W_treeCount ++ (wX4 oN aN cI cJ cZ N_first N_second N_isCut N_wireClaim N_knotClaim N_turnSize N_turns N_knots N_wires N_power)) H → va_D A (wX1 oW aW cI cJ cZ W_rows W_heightOf z.1 W_placeOf W_isPlaced z.2 W_high W_treeCount ++ (wX4 oN aN cI cJ cZ N_first N_second N_isCut N_wireClaim N_knotClaim N_turnSize N_turns N_knots N_wires N_power)) → va_S A s.heap H locs → ∀ ls : Array Slot, lv_has ls 6 [(0, .ref oW), (1, .ref oN)] → W p l e rX1_takeCurrents s m args below meth c H locs 0 0 (MQ below (dk_Qv (dC, dI) (dk_ty cI cJ cZ) (wX1 oW aW cI cJ cZ W_rows W_heightOf out.1 W_placeOf W_isPlaced out.2 W_high W_treeCount ++ (wX4 oN aN cI cJ cZ N_first N_second N_isCut N_wireClaim N_knotClaim N_turnSize N_turns N_knots N_wires N_power)) A) args s 0 0 A) (F0 m 125 ls [])) (hC : ∀ z : Int32 × (Nat → Int32) × Int32, y = .inr z → ∀ (H : Heap) (locs : List Loc), va_P (dC, dI) vwCl (wX1 oW aW cI cJ cZ W_rows W_heightOf z.2.1 W_placeOf W_isPlaced z.2.2 W_high W_treeCount ++ (wX4 oN aN cI cJ cZ N_first N_second N_isCut N_wireClaim N_knotClaim N_turnSize N_turns N_knots N_wires N_power)) H → va_D A (wX1 oW aW cI cJ cZ W_rows W_heightOf z.2.1 W_placeOf W_isPlaced z.2.2 W_high W_treeCount ++ (wX4 oN aN cI cJ cZ N_first N_second N_isCut N_wireClaim N_knotClaim N_turnSize N_turns N_knots N_wires N_power)) → va_S A s.heap H locs → ∀ ls : Array Slot, lv_has ls 6 [(0, .ref oW), (1, .ref oN), (2, .int x2), (3, .int z.1)] → W p l e rX1_takeCurrents s m args below meth c H locs 0 0 (MQ below (dk_Qv (dC, dI) (dk_ty cI cJ cZ) (wX1 oW aW cI cJ cZ W_rows W_heightOf out.1 W_placeOf W_isPlaced out.2 W_high W_treeCount ++ (wX4 oN aN cI cJ cZ N_first N_second N_isCut N_wireClaim N_knotClaim N_turnSize N_turns N_knots N_wires N_power)) A) args s 0 0 A) (F0 m 17 ls [])) : ∀ (H : Heap) (locs : List Loc), va_P (dC, dI) vwCl (wX1 oW aW cI cJ cZ W_rows W_heightOf st.2.1 W_placeOf W_isPlaced st.2.2 W_high W_treeCount ++ (wX4 oN aN cI cJ cZ N_first N_second N_isCut N_wireClaim N_knotClaim N_turnSize N_turns N_knots N_wires N_power)) H → va_D A (wX1 oW aW cI cJ cZ W_rows W_heightOf st.2.1 W_placeOf W_isPlaced st.2.2 W_high W_treeCount ++ (wX4 oN aN cI cJ cZ N_first N_second N_isCut N_wireClaim N_knotClaim N_turnSize N_turns N_knots N_wires N_power)) → va_S A s.heap H locs → ∀ ls : Array Slot, lv_has ls 6 [(0, .ref oW), (1, .ref oN), (2, .int x2), (3, .int st.1)] → W p l e rX1_takeCurrents s m args below meth c H locs 0 0 (MQ below (dk_Qv (dC, dI) (dk_ty cI cJ cZ) (wX1 oW aW cI cJ cZ W_rows W_heightOf out.1 W_placeOf W_isPlaced out.2 W_high W_treeCount ++ (wX4 oN aN cI cJ cZ N_first N_second N_isCut N_wireClaim N_knotClaim N_turnSize N_turns N_knots N_wires N_power)) A) args s 0 0 A) (F0 m 17 ls []) := by
  obtain ⟨hx, hb, hr, hml, hown, hts, hlocks⟩ := id C
  intro H locs hP hD hS ls hl
  unfold bX1_takeCurrents_17 at h
  refine lv_iload_n hx hb dX1_takeCurrents_17 rfl (lv_at hl 3 rfl) ?_
  refine lv_aload_n hx hb dX1_takeCurrents_18 rfl (lv_at hl 1 rfl) ?_
  refine va_get (D := (dC, dI)) (ci := 4) (v := .int N_wires) (C := RX4) (T := TX4) (N := 10) hx hb hts qX1_takeCurrents_X4 hown hK hP 6 rfl rfl 8 (by decide) (hts _ qX1_takeCurrents_f73) (fun _ h9 => h9) rfl dX1_takeCurrents_19 ?_
  refine lv_icmp_ge (tgt := 125) hx hb dX1_takeCurrents_22 (by decide) (fun c_4 => ?_) (fun c_4 => ?_)
  · replace h := dk_it c_4 h
    exact hE _ (Option.some.inj h).symm _ _ hP hD hS ls (lv_sub hl [0, 1] rfl)
  · replace h := dk_ie c_4 h
    refine lv_aload_n hx hb dX1_takeCurrents_25 rfl (lv_at hl 1 rfl) ?_
    refine va_get (D := (dC, dI)) (ci := 4) (v := .ref (aN 0)) (C := RX4) (T := TX4) (N := 10) hx hb hts qX1_takeCurrents_X4 hown hK hP 6 rfl rfl 0 (by decide) (hts _ qX1_takeCurrents_f66) (fun _ h9 => h9) rfl dX1_takeCurrents_26 ?_
    refine lv_iload_n hx hb dX1_takeCurrents_29 rfl (lv_at hl 3 rfl) ?_
    obtain ⟨g_5, h⟩ := dk_gd_to h
    have g_5 := dk_in_to g_5
    refine va_iald hx hb hK hP 7 0 rfl rfl g_5 dX1_takeCurrents_30 ?_
    refine lv_topi (fun x4_6 ex4_6 => ?_)
    replace h := dk_let_to ex4_6 h
    refine lv_istore (lv' := [(4, .int x4_6), (0, .ref oW), (1, .ref oN), (2, .int x2), (3, .int st.1)]) hx hb dX1_takeCurrents_31 hl (by decide) rfl (fun ls hl => ?_)
    refine lv_aload_n hx hb dX1_takeCurrents_33 rfl (lv_at hl 2 rfl) ?_
    refine va_get (D := (dC, dI)) (ci := 4) (v := .ref (aN 1)) (C := RX4) (T := TX4) (N := 10) hx hb hts qX1_takeCurrents_X4 hown hK hP 6 rfl rfl 1 (by decide) (hts _ qX1_takeCurrents_f79) (fun _ h9 => h9) rfl dX1_takeCurrents_34 ?_
    refine lv_iload_n hx hb dX1_takeCurrents_37 rfl (lv_at hl 4 rfl) ?_
    refine va_iald hx hb hK hP 8 0 rfl rfl g_5 dX1_takeCurrents_38 ?_
    refine lv_topi (fun x5_7 ex5_7 => ?_)
    replace h := dk_let_to ex5_7 h
    refine lv_istore (lv' := [(5, .int x5_7), (4, .int x4_6), (0, .ref oW), (1, .ref oN), (2, .int x2), (3, .int st.1)]) hx hb dX1_takeCurrents_39 hl (by decide) rfl (fun ls hl => ?_)
    refine lv_aload_n hx hb dX1_takeCurrents_41 rfl (lv_at hl 2 rfl) ?_
    refine va_get (D := (dC, dI)) (ci := 1) (v := .ref (aW 2)) (C := RX1) (T := TX1) (N := 8) hx hb hts qX1_takeCurrents_X1 hown hK hP 0 rfl rfl 2 (by decide) (hts _ qX1_takeCurrents_f19) (fun _ h9 => h9) rfl dX1_takeCurrents_42 ?_
    refine lv_iload_n hx hb dX1_takeCurrents_45 rfl (lv_at hl 5 rfl) ?_
    refine lv_aload_n hx hb dX1_takeCurrents_46 rfl (lv_at hl 3 rfl) ?_
    refine lv_iload_n hx hb dX1_takeCurrents_47 rfl (lv_at hl 5 rfl) ?_
    obtain ⟨r_8, hcr_8, h⟩ := dk_bnd_to h
    refine dk_rVi (b := oN) (As := [.int st.1]) (rest := [.int st.1, .ref (aW 2)]) (wc := (wX4 oN aN cI cJ cZ N_first N_second N_isCut N_wireClaim N_knotClaim N_turnSize N_turns N_knots N_wires N_power)) C hK hP hD hS hA (mX4_isPlain l dC dI cI cJ cZ hcr_8 _) (cwV 1 hts gvX1_takeCurrents_X4_isPlain rfl rfl rfl (by decide +kernel) ⟨Nat.le_of_ble_eq_true rfl, Nat.le_of_ble_eq_true rfl⟩) [6, 7, 8, 9, 10, 11, 12, 13] rfl (by decide) 0 4 rfl rfl rfl hl.1 rfl (Nat.le_of_ble_eq_true rfl) ⟨Nat.le_of_ble_eq_true rfl, Nat.le_of_ble_eq_true rfl⟩ dX1_takeCurrents_48 (fun H locs hP hD hS => ?_)
    refine lv_if_eq (tgt := 72) hx hb dX1_takeCurrents_51 (by decide) (fun c_9 => ?_) (fun c_9 => ?_)
    · replace h := dk_it c_9 h
      refine lv_iconst (v := 0) hx hb dX1_takeCurrents_72 (by decide) ?_
      exact kX1_takeCurrents_73 C hK hA h hE hC _ _ hP hD hS ls (lv_sub hl [2, 3, 4, 5, 1, 0] rfl)
    · replace h := dk_ie c_9 h
      refine lv_aload_n hx hb dX1_takeCurrents_54 rfl (lv_at hl 2 rfl) ?_
      refine va_get (D := (dC, dI)) (ci := 1) (v := .ref (aW 1)) (C := RX1) (T := TX1) (N := 8) hx hb hts qX1_takeCurrents_X1 hown hK hP 0 rfl rfl 1 (by decide) (hts _ qX1_takeCurrents_f15) (fun _ h9 => h9) rfl dX1_takeCurrents_55 ?_
      refine lv_iload hx hb dX1_takeCurrents_58 (lv_at hl 1 rfl) ?_
      obtain ⟨g_10, h⟩ := dk_gd_to h
      have g_10 := dk_in_to g_10
      refine va_iald hx hb hK hP 2 0 rfl rfl g_10 dX1_takeCurrents_60 ?_
      refine lv_aload_n hx hb dX1_takeCurrents_61 rfl (lv_at hl 2 rfl) ?_
      refine va_get (D := (dC, dI)) (ci := 1) (v := .ref (aW 1)) (C := RX1) (T := TX1) (N := 8) hx hb hts qX1_takeCurrents_X1 hown hK hP 0 rfl rfl 1 (by decide) (hts _ qX1_takeCurrents_f15) (fun _ h9 => h9) rfl dX1_takeCurrents_62 ?_
      refine lv_iload hx hb dX1_takeCurrents_65 (lv_at hl 0 rfl) ?_
      obtain ⟨g_11, h⟩ := dk_gd_to h
      have g_11 := dk_in_to g_11
      refine va_iald hx hb hK hP 2 0 rfl rfl g_11 dX1_takeCurrents_67 ?_
      refine lv_isub hx hb dX1_takeCurrents_68 ?_
      refine lv_goto (tgt := 73) hx hb dX1_takeCurrents_69 (by decide) ?_
      exact kX1_takeCurrents_73 C hK hA h hE hC _ _ hP hD hS ls (lv_sub hl [2, 3, 4, 5, 1, 0] rfl)
set_option maxHeartbeats 4000000 in
set_option maxRecDepth 100000 in
theorem lX1_takeCurrents_17 (C : dk_C p s m meth c args cX1_takeCurrents none 6 RX1 vsX1_takeCurrents) (hK : va_K (dC, dI) vwCl (dk_ty cI cJ cZ) s) (hA : ∀ q : Nat, s.heap.size ≤ q → A q) {out : (Nat → Int32) × Int32} {x2 : Int32} {n : Nat} {st : Int32 × (Nat → Int32) × Int32} {r : (Nat → Int32) × Int32} (h : dk_loop (bX1_takeCurrents_17 W_heightOf N_first N_second N_isCut N_wires N_power x2) n st = some r) (hE : ∀ (H : Heap) (locs : List Loc), va_P (dC, dI) vwCl (wX1 oW aW cI cJ cZ W_rows W_heightOf r.1 W_placeOf W_isPlaced r.2 W_high W_treeCount ++ (wX4 oN aN cI cJ cZ N_first N_second N_isCut N_wireClaim N_knotClaim N_turnSize N_turns N_knots N_wires N_power)) H → va_D A (wX1 oW aW cI cJ cZ W_rows W_heightOf r.1 W_placeOf W_isPlaced r.2 W_high W_treeCount ++ (wX4 oN aN cI cJ cZ N_first N_second N_isCut N_wireClaim N_knotClaim N_turnSize N_turns N_knots N_wires N_power)) → va_S A s.heap H locs → ∀ ls : Array Slot, lv_has ls 6 [(0, .ref oW), (1, .ref oN)] → W p l e rX1_takeCurrents s m args below meth c H locs 0 0 (MQ below (dk_Qv (dC, dI) (dk_ty cI cJ cZ) (wX1 oW aW cI cJ cZ W_rows W_heightOf out.1 W_placeOf W_isPlaced out.2 W_high W_treeCount ++ (wX4 oN aN cI cJ cZ N_first N_second N_isCut N_wireClaim N_knotClaim N_turnSize N_turns N_knots N_wires N_power)) A) args s 0 0 A) (F0 m 125 ls [])) : ∀ (H : Heap) (locs : List Loc), va_P (dC, dI) vwCl (wX1 oW aW cI cJ cZ W_rows W_heightOf st.2.1 W_placeOf W_isPlaced st.2.2 W_high W_treeCount ++ (wX4 oN aN cI cJ cZ N_first N_second N_isCut N_wireClaim N_knotClaim N_turnSize N_turns N_knots N_wires N_power)) H → va_D A (wX1 oW aW cI cJ cZ W_rows W_heightOf st.2.1 W_placeOf W_isPlaced st.2.2 W_high W_treeCount ++ (wX4 oN aN cI cJ cZ N_first N_second N_isCut N_wireClaim N_knotClaim N_turnSize N_turns N_knots N_wires N_power)) → va_S A s.heap H locs → ∀ ls : Array Slot, lv_has ls 6 [(0, .ref oW), (1, .ref oN), (2, .int x2), (3, .int st.1)] → W p l e rX1_takeCurrents s m args below meth c H locs 0 0 (MQ below (dk_Qv (dC, dI) (dk_ty cI cJ cZ) (wX1 oW aW cI cJ cZ W_rows W_heightOf out.1 W_placeOf W_isPlaced out.2 W_high W_treeCount ++ (wX4 oN aN cI cJ cZ N_first N_second N_isCut N_wireClaim N_knotClaim N_turnSize N_turns N_knots N_wires N_power)) A) args s 0 0 A) (F0 m 17 ls []) :=
  dk_loopW (P := fun st => ∀ (H : Heap) (locs : List Loc), va_P (dC, dI) vwCl (wX1 oW aW cI cJ cZ W_rows W_heightOf st.2.1 W_placeOf W_isPlaced st.2.2 W_high W_treeCount ++ (wX4 oN aN cI cJ cZ N_first N_second N_isCut N_wireClaim N_knotClaim N_turnSize N_turns N_knots N_wires N_power)) H → va_D A (wX1 oW aW cI cJ cZ W_rows W_heightOf st.2.1 W_placeOf W_isPlaced st.2.2 W_high W_treeCount ++ (wX4 oN aN cI cJ cZ N_first N_second N_isCut N_wireClaim N_knotClaim N_turnSize N_turns N_knots N_wires N_power)) → va_S A s.heap H locs → ∀ ls : Array Slot, lv_has ls 6 [(0, .ref oW), (1, .ref oN), (2, .int x2), (3, .int st.1)] → W p l e rX1_takeCurrents s m args below meth c H locs 0 0 (MQ below (dk_Qv (dC, dI) (dk_ty cI cJ cZ) (wX1 oW aW cI cJ cZ W_rows W_heightOf out.1 W_placeOf W_isPlaced out.2 W_high W_treeCount ++ (wX4 oN aN cI cJ cZ N_first N_second N_isCut N_wireClaim N_knotClaim N_turnSize N_turns N_knots N_wires N_power)) A) args s 0 0 A) (F0 m 17 ls [])) (K := fun r => ∀ (H : Heap) (locs : List Loc), va_P (dC, dI) vwCl (wX1 oW aW cI cJ cZ W_rows W_heightOf r.1 W_placeOf W_isPlaced r.2 W_high W_treeCount ++ (wX4 oN aN cI cJ cZ N_first N_second N_isCut N_wireClaim N_knotClaim N_turnSize N_turns N_knots N_wires N_power)) H → va_D A (wX1 oW aW cI cJ cZ W_rows W_heightOf r.1 W_placeOf W_isPlaced r.2 W_high W_treeCount ++ (wX4 oN aN cI cJ cZ N_first N_second N_isCut N_wireClaim N_knotClaim N_turnSize N_turns N_knots N_wires N_power)) → va_S A s.heap H locs → ∀ ls : Array Slot, lv_has ls 6 [(0, .ref oW), (1, .ref oN)] → W p l e rX1_takeCurrents s m args below meth c H locs 0 0 (MQ below (dk_Qv (dC, dI) (dk_ty cI cJ cZ) (wX1 oW aW cI cJ cZ W_rows W_heightOf out.1 W_placeOf W_isPlaced out.2 W_high W_treeCount ++ (wX4 oN aN cI cJ cZ N_first N_second N_isCut N_wireClaim N_knotClaim N_turnSize N_turns N_knots N_wires N_power)) A) args s 0 0 A) (F0 m 125 ls [])) (fun st y hy k1 k2 => tX1_takeCurrents_17 C hK hA hy k1 k2) n st r h hE
end
set_option maxHeartbeats 4000000 in
set_option maxRecDepth 100000 in
theorem mX1_takeCurrents (l : Launch) (dC : Nat → ClassId) (dI : Nat → Nat → Nat) (cI cJ cZ : ClassId) {oW : Nat} {aW : Nat → Nat} {oN : Nat} {aN : Nat → Nat} {W_rows : Nat → Int64} {W_heightOf W_currentOf W_placeOf W_isPlaced : Nat → Int32} {W_wide W_high : Int32} {W_treeCount : Int64} {N_first N_second N_isCut N_wireClaim N_knotClaim N_turnSize N_turns : Nat → Int32} {N_knots N_wires N_power : Int32} {out : (Nat → Int32) × Int32} (h : fX1_takeCurrents W_heightOf W_currentOf W_wide N_first N_second N_isCut N_wires N_power = some out) (sz : Nat) : Met l yX1_takeCurrents vsX1_takeCurrents rX1_takeCurrents (va_Pc [.ref oW, .ref oN] (dk_Pre (dC, dI) (dk_ty cI cJ cZ) (wX1 oW aW cI cJ cZ W_rows W_heightOf W_currentOf W_placeOf W_isPlaced W_wide W_high W_treeCount ++ (wX4 oN aN cI cJ cZ N_first N_second N_isCut N_wireClaim N_knotClaim N_turnSize N_turns N_knots N_wires N_power)) sz)) (dk_Qv (dC, dI) (dk_ty cI cJ cZ) (wX1 oW aW cI cJ cZ W_rows W_heightOf out.1 W_placeOf W_isPlaced out.2 W_high W_treeCount ++ (wX4 oN aN cI cJ cZ N_first N_second N_isCut N_wireClaim N_knotClaim N_turnSize N_turns N_knots N_wires N_power)) (va_A (wX1 oW aW cI cJ cZ W_rows W_heightOf W_currentOf W_placeOf W_isPlaced W_wide W_high W_treeCount ++ (wX4 oN aN cI cJ cZ N_first N_second N_isCut N_wireClaim N_knotClaim N_turnSize N_turns N_knots N_wires N_power)) sz)) 0 0 (va_A (wX1 oW aW cI cJ cZ W_rows W_heightOf W_currentOf W_placeOf W_isPlaced W_wide W_high W_treeCount ++ (wX4 oN aN cI cJ cZ N_first N_second N_isCut N_wireClaim N_knotClaim N_turnSize N_turns N_knots N_wires N_power)) sz) := by
  refine dk_met (cc := cX1_takeCurrents) (maxL := 6) (ret := none) (Qc := fun A => dk_Qv (dC, dI) (dk_ty cI cJ cZ) (wX1 oW aW cI cJ cZ W_rows W_heightOf out.1 W_placeOf W_isPlaced out.2 W_high W_treeCount ++ (wX4 oN aN cI cJ cZ N_first N_second N_isCut N_wireClaim N_knotClaim N_turnSize N_turns N_knots N_wires N_power)) A) (by decide) rfl (Nat.le_of_ble_eq_true rfl) ?_
  intro p e s m below meth c A C hnm hA hK hP hD hS ls hl
  have C : dk_C p s m meth c _ cX1_takeCurrents none 6 RX1 vsX1_takeCurrents := C
  obtain ⟨hx, hb, hr, hml, hown, hts, hlocks⟩ := id C
  have hl : lv_has ls 6 [(0, .ref oW), (1, .ref oN)] := hl
  unfold fX1_takeCurrents at h
  refine lv_aload_n hx hb dX1_takeCurrents_0 rfl (lv_at hl 1 rfl) ?_
  refine va_get (D := (dC, dI)) (ci := 4) (v := .ref (aN 0)) (C := RX4) (T := TX4) (N := 10) hx hb hts qX1_takeCurrents_X4 hown hK hP 6 rfl rfl 0 (by decide) (hts _ qX1_takeCurrents_f66) (fun _ h9 => h9) rfl dX1_takeCurrents_1 ?_
  refine lv_aload_n hx hb dX1_takeCurrents_4 rfl (lv_at hl 1 rfl) ?_
  refine va_get (D := (dC, dI)) (ci := 4) (v := .int N_power) (C := RX4) (T := TX4) (N := 10) hx hb hts qX1_takeCurrents_X4 hown hK hP 6 rfl rfl 9 (by decide) (hts _ qX1_takeCurrents_f40) (fun _ h9 => h9) rfl dX1_takeCurrents_5 ?_
  obtain ⟨g_1, h⟩ := dk_gd_to h
  have g_1 := dk_in_to g_1
  refine va_iald hx hb hK hP 7 0 rfl rfl g_1 dX1_takeCurrents_8 ?_
  refine lv_topi (fun x2_2 ex2_2 => ?_)
  replace h := dk_let_to ex2_2 h
  refine lv_istore_n (lv' := [(2, .int x2_2), (0, .ref oW), (1, .ref oN)]) hx hb dX1_takeCurrents_9 rfl hl (by decide) rfl (fun ls hl => ?_)
  refine lv_aload_n hx hb dX1_takeCurrents_10 rfl (lv_at hl 1 rfl) ?_
  refine lv_iconst (v := 0) hx hb dX1_takeCurrents_11 (by decide) ?_
  refine va_put (D := (dC, dI)) (ci := 1) (v := .int 0) (ty := .int) (C := RX1) (T := TX1) (N := 8) hx hb hts qX1_takeCurrents_X1 tyX1 tyX1_ok nmX1 hown hK hP hD hS 0 rfl rfl 5 (by decide) (hts _ qX1_takeCurrents_f29) (fun _ h9 => h9) rfl (by decide +kernel) rfl rfl (Nat.le_of_ble_eq_true rfl) dX1_takeCurrents_12 (fun H locs hP hD hS => ?_)
  have hP : va_P (dC, dI) vwCl (wX1 oW aW cI cJ cZ W_rows W_heightOf W_currentOf W_placeOf W_isPlaced 0 W_high W_treeCount ++ (wX4 oN aN cI cJ cZ N_first N_second N_isCut N_wireClaim N_knotClaim N_turnSize N_turns N_knots N_wires N_power)) H := hP
  have hD : va_D A (wX1 oW aW cI cJ cZ W_rows W_heightOf W_currentOf W_placeOf W_isPlaced 0 W_high W_treeCount ++ (wX4 oN aN cI cJ cZ N_first N_second N_isCut N_wireClaim N_knotClaim N_turnSize N_turns N_knots N_wires N_power)) := hD
  refine lv_iconst (v := 0) hx hb dX1_takeCurrents_15 (by decide) ?_
  refine lv_istore_n (lv' := [(3, .int 0), (2, .int x2_2), (0, .ref oW), (1, .ref oN)]) hx hb dX1_takeCurrents_16 rfl hl (by decide) rfl (fun ls hl => ?_)
  obtain ⟨r_3, hLr_3, h⟩ := dk_bnd_to h
  refine lX1_takeCurrents_17 C hK hA hLr_3 (fun H locs hP hD hS ls hl => ?_) _ _ hP hD hS ls (lv_sub hl [2, 3, 1, 0] rfl)
  have e9 := Option.some.inj h
  subst e9
  exact dk_vret C hK hP hD hS dX1_takeCurrents_125

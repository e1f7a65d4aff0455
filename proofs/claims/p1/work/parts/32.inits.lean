/-! ===== SquareTiler$FaceMap() ===== -/
abbrev rX0_init : Room := { frames := 1, cells := 2, slots := 88, locals := 20 }
def ovX0_init : List Cond := [Cond.methodLink RX0 3 objectInit, Cond.instanceMethod objectInit, Cond.code objectInit ⟨#[0xb1]⟩ 1 none, Cond.arrayClass .int, Cond.fieldLink RX0 9 "SquareTiler$FaceMap" "faceOf" "[I", Cond.fieldLink RX0 15 "SquareTiler$FaceMap" "dartAhead" "[I", Cond.fieldLink RX0 18 "SquareTiler$FaceMap" "howMany" "I"]
def vsX0_init : List Cond := .code yX0_init cX0_init 1 none :: (ovX0_init ++ (wsX00 ++ []))
theorem qX0_init_o1 : Cond.methodLink RX0 3 objectInit ∈ vsX0_init := List.mem_cons_of_mem _ (List.mem_append_left _ (List.mem_of_getElem? (i := 0) rfl))
theorem qX0_init_o2 : Cond.instanceMethod objectInit ∈ vsX0_init := List.mem_cons_of_mem _ (List.mem_append_left _ (List.mem_of_getElem? (i := 1) rfl))
theorem qX0_init_o3 : Cond.code objectInit ⟨#[0xb1]⟩ 1 none ∈ vsX0_init := List.mem_cons_of_mem _ (List.mem_append_left _ (List.mem_of_getElem? (i := 2) rfl))
theorem qX0_init_aI : Cond.arrayClass .int ∈ vsX0_init := List.mem_cons_of_mem _ (List.mem_append_left _ (List.mem_of_getElem? (i := 3) rfl))
theorem qX0_init_f9 : Cond.fieldLink RX0 9 "SquareTiler$FaceMap" "faceOf" "[I" ∈ vsX0_init := List.mem_cons_of_mem _ (List.mem_append_left _ (List.mem_of_getElem? (i := 4) rfl))
theorem qX0_init_f15 : Cond.fieldLink RX0 15 "SquareTiler$FaceMap" "dartAhead" "[I" ∈ vsX0_init := List.mem_cons_of_mem _ (List.mem_append_left _ (List.mem_of_getElem? (i := 5) rfl))
theorem qX0_init_f18 : Cond.fieldLink RX0 18 "SquareTiler$FaceMap" "howMany" "I" ∈ vsX0_init := List.mem_cons_of_mem _ (List.mem_append_left _ (List.mem_of_getElem? (i := 6) rfl))
theorem qX0_init_iX0 : ∀ w ∈ u_ws RX0 TX0 3, w ∈ vsX0_init := fun w h => List.mem_cons_of_mem _ (List.mem_append_right _ (List.mem_append_left _ h))
theorem gd_vsX0_init : ∀ w ∈ vsX0_init, goodWord w = true := dk_cons rfl (dk_app (dk_all (by decide +kernel)) (dk_app gd_wsX00 dk_nil))
set_option maxHeartbeats 4000000 in
set_option maxRecDepth 100000 in
theorem mX0_init (l : Launch) (dC : Nat → ClassId) (dI : Nat → Nat → Nat) (cI cJ cZ : ClassId) {o : Nat} (sz : Nat) : Met l yX0_init vsX0_init rX0_init (va_Pc [.ref o] (dk_PreN (dC, dI) (dk_ty cI cJ cZ) [(o, .inr (0, [.null, .null, .int 0]))] sz)) (dk_Qu (dC, dI) (dk_ty cI cJ cZ) (fun u : (Nat → Nat) => wX0 o u cI cJ cZ (fun _ => 0) (fun _ => 0) 0) (va_A [(o, .inr (0, [.null, .null, .int 0]))] sz)) 2 88 (va_A [(o, .inr (0, [.null, .null, .int 0]))] sz) := by
  refine dk_metN (cc := cX0_init) (maxL := 1) (ret := none) (Qc := fun A => dk_Qu (dC, dI) (dk_ty cI cJ cZ) (fun u : (Nat → Nat) => wX0 o u cI cJ cZ (fun _ => 0) (fun _ => 0) 0) A) (by decide) rfl (Nat.le_of_ble_eq_true rfl) ?_
  intro p e s m below meth c A C hnm hN hA hK hP hD hS ls hl
  have C : dk_C p s m meth c _ cX0_init none 1 RX0 vsX0_init := C
  obtain ⟨hx, hb, hr, hml, hown, hts, hlocks⟩ := id C
  have hin : meth.name = "<init>" := hnm
  have hl : lv_has ls 1 [(0, .ref o)] := hl
  refine lv_aload_n hx hb dX0_init_0 rfl (lv_at hl 0 rfl) ?_
  refine W.objInit hx hb hown (hts (.methodLink RX0 3 objectInit) qX0_init_o1) (hts (.instanceMethod objectInit) qX0_init_o2) (hts _ qX0_init_o3) rfl (by rw [hml]; exact hl.1) rfl dX0_init_1 (Nat.le_of_ble_eq_true rfl) (Nat.le_of_ble_eq_true rfl) ?_
  refine W.eq (g2 := F0 m 4 ls []) rfl ?_
  refine lv_aload_n hx hb dX0_init_4 rfl (lv_at hl 0 rfl) ?_
  refine lv_bipush (v := 44) hx hb dX0_init_5 (by decide) ?_
  refine dk_newI (N' := 44) hx hb (hts (.arrayClass .int) qX0_init_aI) hK hP hD hS hA (by decide) (by decide) (by decide) (Nat.le_of_ble_eq_true rfl) (Nat.le_of_ble_eq_true rfl) dX0_init_7 (fun q1 H hP hD hS => ?_)
  have hP : va_P (dC, dI) vwCl ([(o, .inr (0, [.null, .null, .int 0]))] ++ ([(q1, .inl (cI, 44, .inl (fun _ => 0)))])) H := hP
  have hD : va_D A ([(o, .inr (0, [.null, .null, .int 0]))] ++ ([(q1, .inl (cI, 44, .inl (fun _ => 0)))])) := hD
  refine W.widen (k := 1) (n := 44) (by decide) (by decide) ?_
  refine va_putF (D := (dC, dI)) (ci := 0) (v := .ref q1) (ty := .array .int) (C := RX0) (T := TX0) (N := 3) hx hb hts qX0_init_iX0 tyX0 tyX0_ok nmX0 hown hK hP hD hS 0 rfl rfl 0 (by decide) (hts _ qX0_init_f9) (fun _ h9 => h9) rfl hin rfl (by decide +kernel) rfl rfl (Nat.le_of_ble_eq_true rfl) dX0_init_9 (fun H locs hP hD hS => ?_)
  have hP : va_P (dC, dI) vwCl ([(o, .inr (0, [.ref q1, .null, .int 0]))] ++ ([(q1, .inl (cI, 44, .inl (fun _ => 0)))])) H := hP
  have hD : va_D A ([(o, .inr (0, [.ref q1, .null, .int 0]))] ++ ([(q1, .inl (cI, 44, .inl (fun _ => 0)))])) := hD
  refine lv_aload_n hx hb dX0_init_12 rfl (lv_at hl 0 rfl) ?_
  refine lv_bipush (v := 44) hx hb dX0_init_13 (by decide) ?_
  refine dk_newI (N' := 44) hx hb (hts (.arrayClass .int) qX0_init_aI) hK hP hD hS hA (by decide) (by decide) (by decide) (Nat.le_of_ble_eq_true rfl) (Nat.le_of_ble_eq_true rfl) dX0_init_15 (fun q2 H hP hD hS => ?_)
  have hP : va_P (dC, dI) vwCl ([(o, .inr (0, [.ref q1, .null, .int 0]))] ++ ([(q1, .inl (cI, 44, .inl (fun _ => 0)))] ++ ([(q2, .inl (cI, 44, .inl (fun _ => 0)))]))) H := hP
  have hD : va_D A ([(o, .inr (0, [.ref q1, .null, .int 0]))] ++ ([(q1, .inl (cI, 44, .inl (fun _ => 0)))] ++ ([(q2, .inl (cI, 44, .inl (fun _ => 0)))]))) := hD
  refine W.widen (k := 2) (n := 88) (by decide) (by decide) ?_
  refine va_putF (D := (dC, dI)) (ci := 0) (v := .ref q2) (ty := .array .int) (C := RX0) (T := TX0) (N := 3) hx hb hts qX0_init_iX0 tyX0 tyX0_ok nmX0 hown hK hP hD hS 0 rfl rfl 1 (by decide) (hts _ qX0_init_f15) (fun _ h9 => h9) rfl hin rfl (by decide +kernel) rfl rfl (Nat.le_of_ble_eq_true rfl) dX0_init_17 (fun H locs hP hD hS => ?_)
  have hP : va_P (dC, dI) vwCl ([(o, .inr (0, [.ref q1, .ref q2, .int 0]))] ++ ([(q1, .inl (cI, 44, .inl (fun _ => 0)))] ++ ([(q2, .inl (cI, 44, .inl (fun _ => 0)))]))) H := hP
  have hD : va_D A ([(o, .inr (0, [.ref q1, .ref q2, .int 0]))] ++ ([(q1, .inl (cI, 44, .inl (fun _ => 0)))] ++ ([(q2, .inl (cI, 44, .inl (fun _ => 0)))]))) := hD
  refine lv_aload_n hx hb dX0_init_20 rfl (lv_at hl 0 rfl) ?_
  refine lv_iconst (v := 0) hx hb dX0_init_21 (by decide) ?_
  refine va_put (D := (dC, dI)) (ci := 0) (v := .int 0) (ty := .int) (C := RX0) (T := TX0) (N := 3) hx hb hts qX0_init_iX0 tyX0 tyX0_ok nmX0 hown hK hP hD hS 0 rfl rfl 2 (by decide) (hts _ qX0_init_f18) (fun _ h9 => h9) rfl (by decide +kernel) rfl rfl (Nat.le_of_ble_eq_true rfl) dX0_init_22 (fun H locs hP hD hS => ?_)
  have hP : va_P (dC, dI) vwCl ([(o, .inr (0, [.ref q1, .ref q2, .int 0]))] ++ ([(q1, .inl (cI, 44, .inl (fun _ => 0)))] ++ ([(q2, .inl (cI, 44, .inl (fun _ => 0)))]))) H := hP
  have hD : va_D A ([(o, .inr (0, [.ref q1, .ref q2, .int 0]))] ++ ([(q1, .inl (cI, 44, .inl (fun _ => 0)))] ++ ([(q2, .inl (cI, 44, .inl (fun _ => 0)))]))) := hD
  have hP9 : va_P (dC, dI) vwCl (wX0 o (dk_ad [q1, q2, 0]) cI cJ cZ (fun _ => 0) (fun _ => 0) 0) H := hP.sub [0, 1, 2] rfl
  have hD9 : va_D A (wX0 o (dk_ad [q1, q2, 0]) cI cJ cZ (fun _ => 0) (fun _ => 0) 0) := hD.sub [0, 1, 2] (by decide) rfl
  exact dk_uret (wn := fun u : (Nat → Nat) => wX0 o u cI cJ cZ (fun _ => 0) (fun _ => 0) 0) (dk_ad [q1, q2, 0]) C hK hP9 hD9 hS dX0_init_25
/-! ===== SquareTiler$Flow() ===== -/
abbrev rX1_init : Room := { frames := 1, cells := 5, slots := 278, locals := 20 }
def ovX1_init : List Cond := [Cond.methodLink RX1 3 objectInit, Cond.instanceMethod objectInit, Cond.code objectInit ⟨#[0xb1]⟩ 1 none, Cond.arrayClass .long, Cond.fieldLink RX1 11 "SquareTiler$Flow" "rows" "[J", Cond.arrayClass .int, Cond.fieldLink RX1 15 "SquareTiler$Flow" "heightOf" "[I", Cond.fieldLink RX1 19 "SquareTiler$Flow" "currentOf" "[I", Cond.fieldLink RX1 22 "SquareTiler$Flow" "placeOf" "[I", Cond.arrayClass .boolean, Cond.fieldLink RX1 25 "SquareTiler$Flow" "isPlaced" "[Z", Cond.fieldLink RX1 29 "SquareTiler$Flow" "wide" "I", Cond.fieldLink RX1 33 "SquareTiler$Flow" "high" "I", Cond.fieldLink RX1 36 "SquareTiler$Flow" "treeCount" "J"]
def vsX1_init : List Cond := .code yX1_init cX1_init 1 none :: (ovX1_init ++ (wsX10 ++ []))
theorem qX1_init_o1 : Cond.methodLink RX1 3 objectInit ∈ vsX1_init := List.mem_cons_of_mem _ (List.mem_append_left _ (List.mem_of_getElem? (i := 0) rfl))
theorem qX1_init_o2 : Cond.instanceMethod objectInit ∈ vsX1_init := List.mem_cons_of_mem _ (List.mem_append_left _ (List.mem_of_getElem? (i := 1) rfl))
theorem qX1_init_o3 : Cond.code objectInit ⟨#[0xb1]⟩ 1 none ∈ vsX1_init := List.mem_cons_of_mem _ (List.mem_append_left _ (List.mem_of_getElem? (i := 2) rfl))
theorem qX1_init_aJ : Cond.arrayClass .long ∈ vsX1_init := List.mem_cons_of_mem _ (List.mem_append_left _ (List.mem_of_getElem? (i := 3) rfl))
theorem qX1_init_f11 : Cond.fieldLink RX1 11 "SquareTiler$Flow" "rows" "[J" ∈ vsX1_init := List.mem_cons_of_mem _ (List.mem_append_left _ (List.mem_of_getElem? (i := 4) rfl))
theorem qX1_init_aI : Cond.arrayClass .int ∈ vsX1_init := List.mem_cons_of_mem _ (List.mem_append_left _ (List.mem_of_getElem? (i := 5) rfl))
theorem qX1_init_f15 : Cond.fieldLink RX1 15 "SquareTiler$Flow" "heightOf" "[I" ∈ vsX1_init := List.mem_cons_of_mem _ (List.mem_append_left _ (List.mem_of_getElem? (i := 6) rfl))
theorem qX1_init_f19 : Cond.fieldLink RX1 19 "SquareTiler$Flow" "currentOf" "[I" ∈ vsX1_init := List.mem_cons_of_mem _ (List.mem_append_left _ (List.mem_of_getElem? (i := 7) rfl))
theorem qX1_init_f22 : Cond.fieldLink RX1 22 "SquareTiler$Flow" "placeOf" "[I" ∈ vsX1_init := List.mem_cons_of_mem _ (List.mem_append_left _ (List.mem_of_getElem? (i := 8) rfl))
theorem qX1_init_aZ : Cond.arrayClass .boolean ∈ vsX1_init := List.mem_cons_of_mem _ (List.mem_append_left _ (List.mem_of_getElem? (i := 9) rfl))
theorem qX1_init_f25 : Cond.fieldLink RX1 25 "SquareTiler$Flow" "isPlaced" "[Z" ∈ vsX1_init := List.mem_cons_of_mem _ (List.mem_append_left _ (List.mem_of_getElem? (i := 10) rfl))
theorem qX1_init_f29 : Cond.fieldLink RX1 29 "SquareTiler$Flow" "wide" "I" ∈ vsX1_init := List.mem_cons_of_mem _ (List.mem_append_left _ (List.mem_of_getElem? (i := 11) rfl))
theorem qX1_init_f33 : Cond.fieldLink RX1 33 "SquareTiler$Flow" "high" "I" ∈ vsX1_init := List.mem_cons_of_mem _ (List.mem_append_left _ (List.mem_of_getElem? (i := 12) rfl))
theorem qX1_init_f36 : Cond.fieldLink RX1 36 "SquareTiler$Flow" "treeCount" "J" ∈ vsX1_init := List.mem_cons_of_mem _ (List.mem_append_left _ (List.mem_of_getElem? (i := 13) rfl))
theorem qX1_init_iX1 : ∀ w ∈ u_ws RX1 TX1 8, w ∈ vsX1_init := fun w h => List.mem_cons_of_mem _ (List.mem_append_right _ (List.mem_append_left _ h))
theorem gd_vsX1_init : ∀ w ∈ vsX1_init, goodWord w = true := dk_cons rfl (dk_app (dk_all (by decide +kernel)) (dk_app gd_wsX10 dk_nil))
set_option maxHeartbeats 4000000 in
set_option maxRecDepth 100000 in
theorem mX1_init (l : Launch) (dC : Nat → ClassId) (dI : Nat → Nat → Nat) (cI cJ cZ : ClassId) {o : Nat} (sz : Nat) : Met l yX1_init vsX1_init rX1_init (va_Pc [.ref o] (dk_PreN (dC, dI) (dk_ty cI cJ cZ) [(o, .inr (1, [.null, .null, .null, .null, .null, .int 0, .int 0, .long 0]))] sz)) (dk_Qu (dC, dI) (dk_ty cI cJ cZ) (fun u : (Nat → Nat) => wX1 o u cI cJ cZ (fun _ => 0) (fun _ => 0) (fun _ => 0) (fun _ => 0) (fun _ => 0) 0 0 0) (va_A [(o, .inr (1, [.null, .null, .null, .null, .null, .int 0, .int 0, .long 0]))] sz)) 5 278 (va_A [(o, .inr (1, [.null, .null, .null, .null, .null, .int 0, .int 0, .long 0]))] sz) := by
  refine dk_metN (cc := cX1_init) (maxL := 1) (ret := none) (Qc := fun A => dk_Qu (dC, dI) (dk_ty cI cJ cZ) (fun u : (Nat → Nat) => wX1 o u cI cJ cZ (fun _ => 0) (fun _ => 0) (fun _ => 0) (fun _ => 0) (fun _ => 0) 0 0 0) A) (by decide) rfl (Nat.le_of_ble_eq_true rfl) ?_
  intro p e s m below meth c A C hnm hN hA hK hP hD hS ls hl
  have C : dk_C p s m meth c _ cX1_init none 1 RX1 vsX1_init := C
  obtain ⟨hx, hb, hr, hml, hown, hts, hlocks⟩ := id C
  have hin : meth.name = "<init>" := hnm
  have hl : lv_has ls 1 [(0, .ref o)] := hl
  refine lv_aload_n hx hb dX1_init_0 rfl (lv_at hl 0 rfl) ?_
  refine W.objInit hx hb hown (hts (.methodLink RX1 3 objectInit) qX1_init_o1) (hts (.instanceMethod objectInit) qX1_init_o2) (hts _ qX1_init_o3) rfl (by rw [hml]; exact hl.1) rfl dX1_init_1 (Nat.le_of_ble_eq_true rfl) (Nat.le_of_ble_eq_true rfl) ?_
  refine W.eq (g2 := F0 m 4 ls []) rfl ?_
  refine lv_aload_n hx hb dX1_init_4 rfl (lv_at hl 0 rfl) ?_
  refine lv_sipush (v := 156) hx hb dX1_init_5 (by decide) ?_
  refine dk_newJ (N' := 156) hx hb (hts (.arrayClass .long) qX1_init_aJ) hK hP hD hS hA (by decide) (by decide) (by decide) (Nat.le_of_ble_eq_true rfl) (Nat.le_of_ble_eq_true rfl) dX1_init_8 (fun q1 H hP hD hS => ?_)
  have hP : va_P (dC, dI) vwCl ([(o, .inr (1, [.null, .null, .null, .null, .null, .int 0, .int 0, .long 0]))] ++ ([(q1, .inl (cJ, 156, .inr (.inl (fun _ => 0))))])) H := hP
  have hD : va_D A ([(o, .inr (1, [.null, .null, .null, .null, .null, .int 0, .int 0, .long 0]))] ++ ([(q1, .inl (cJ, 156, .inr (.inl (fun _ => 0))))])) := hD
  refine W.widen (k := 1) (n := 156) (by decide) (by decide) ?_
  refine va_putF (D := (dC, dI)) (ci := 1) (v := .ref q1) (ty := .array .long) (C := RX1) (T := TX1) (N := 8) hx hb hts qX1_init_iX1 tyX1 tyX1_ok nmX1 hown hK hP hD hS 0 rfl rfl 0 (by decide) (hts _ qX1_init_f11) (fun _ h9 => h9) rfl hin rfl (by decide +kernel) rfl rfl (Nat.le_of_ble_eq_true rfl) dX1_init_10 (fun H locs hP hD hS => ?_)
  have hP : va_P (dC, dI) vwCl ([(o, .inr (1, [.ref q1, .null, .null, .null, .null, .int 0, .int 0, .long 0]))] ++ ([(q1, .inl (cJ, 156, .inr (.inl (fun _ => 0))))])) H := hP
  have hD : va_D A ([(o, .inr (1, [.ref q1, .null, .null, .null, .null, .int 0, .int 0, .long 0]))] ++ ([(q1, .inl (cJ, 156, .inr (.inl (fun _ => 0))))])) := hD
  refine lv_aload_n hx hb dX1_init_13 rfl (lv_at hl 0 rfl) ?_
  refine lv_bipush (v := 12) hx hb dX1_init_14 (by decide) ?_
  refine dk_newI (N' := 12) hx hb (hts (.arrayClass .int) qX1_init_aI) hK hP hD hS hA (by decide) (by decide) (by decide) (Nat.le_of_ble_eq_true rfl) (Nat.le_of_ble_eq_true rfl) dX1_init_16 (fun q2 H hP hD hS => ?_)
  have hP : va_P (dC, dI) vwCl ([(o, .inr (1, [.ref q1, .null, .null, .null, .null, .int 0, .int 0, .long 0]))] ++ ([(q1, .inl (cJ, 156, .inr (.inl (fun _ => 0))))] ++ ([(q2, .inl (cI, 12, .inl (fun _ => 0)))]))) H := hP
  have hD : va_D A ([(o, .inr (1, [.ref q1, .null, .null, .null, .null, .int 0, .int 0, .long 0]))] ++ ([(q1, .inl (cJ, 156, .inr (.inl (fun _ => 0))))] ++ ([(q2, .inl (cI, 12, .inl (fun _ => 0)))]))) := hD
  refine W.widen (k := 2) (n := 168) (by decide) (by decide) ?_
  refine va_putF (D := (dC, dI)) (ci := 1) (v := .ref q2) (ty := .array .int) (C := RX1) (T := TX1) (N := 8) hx hb hts qX1_init_iX1 tyX1 tyX1_ok nmX1 hown hK hP hD hS 0 rfl rfl 1 (by decide) (hts _ qX1_init_f15) (fun _ h9 => h9) rfl hin rfl (by decide +kernel) rfl rfl (Nat.le_of_ble_eq_true rfl) dX1_init_18 (fun H locs hP hD hS => ?_)
  have hP : va_P (dC, dI) vwCl ([(o, .inr (1, [.ref q1, .ref q2, .null, .null, .null, .int 0, .int 0, .long 0]))] ++ ([(q1, .inl (cJ, 156, .inr (.inl (fun _ => 0))))] ++ ([(q2, .inl (cI, 12, .inl (fun _ => 0)))]))) H := hP
  have hD : va_D A ([(o, .inr (1, [.ref q1, .ref q2, .null, .null, .null, .int 0, .int 0, .long 0]))] ++ ([(q1, .inl (cJ, 156, .inr (.inl (fun _ => 0))))] ++ ([(q2, .inl (cI, 12, .inl (fun _ => 0)))]))) := hD
  refine lv_aload_n hx hb dX1_init_21 rfl (lv_at hl 0 rfl) ?_
  refine lv_bipush (v := 22) hx hb dX1_init_22 (by decide) ?_
  refine dk_newI (N' := 22) hx hb (hts (.arrayClass .int) qX1_init_aI) hK hP hD hS hA (by decide) (by decide) (by decide) (Nat.le_of_ble_eq_true rfl) (Nat.le_of_ble_eq_true rfl) dX1_init_24 (fun q3 H hP hD hS => ?_)
  have hP : va_P (dC, dI) vwCl ([(o, .inr (1, [.ref q1, .ref q2, .null, .null, .null, .int 0, .int 0, .long 0]))] ++ ([(q1, .inl (cJ, 156, .inr (.inl (fun _ => 0))))] ++ ([(q2, .inl (cI, 12, .inl (fun _ => 0)))] ++ ([(q3, .inl (cI, 22, .inl (fun _ => 0)))])))) H := hP
  have hD : va_D A ([(o, .inr (1, [.ref q1, .ref q2, .null, .null, .null, .int 0, .int 0, .long 0]))] ++ ([(q1, .inl (cJ, 156, .inr (.inl (fun _ => 0))))] ++ ([(q2, .inl (cI, 12, .inl (fun _ => 0)))] ++ ([(q3, .inl (cI, 22, .inl (fun _ => 0)))])))) := hD
  refine W.widen (k := 3) (n := 190) (by decide) (by decide) ?_
  refine va_putF (D := (dC, dI)) (ci := 1) (v := .ref q3) (ty := .array .int) (C := RX1) (T := TX1) (N := 8) hx hb hts qX1_init_iX1 tyX1 tyX1_ok nmX1 hown hK hP hD hS 0 rfl rfl 2 (by decide) (hts _ qX1_init_f19) (fun _ h9 => h9) rfl hin rfl (by decide +kernel) rfl rfl (Nat.le_of_ble_eq_true rfl) dX1_init_26 (fun H locs hP hD hS => ?_)
  have hP : va_P (dC, dI) vwCl ([(o, .inr (1, [.ref q1, .ref q2, .ref q3, .null, .null, .int 0, .int 0, .long 0]))] ++ ([(q1, .inl (cJ, 156, .inr (.inl (fun _ => 0))))] ++ ([(q2, .inl (cI, 12, .inl (fun _ => 0)))] ++ ([(q3, .inl (cI, 22, .inl (fun _ => 0)))])))) H := hP
  have hD : va_D A ([(o, .inr (1, [.ref q1, .ref q2, .ref q3, .null, .null, .int 0, .int 0, .long 0]))] ++ ([(q1, .inl (cJ, 156, .inr (.inl (fun _ => 0))))] ++ ([(q2, .inl (cI, 12, .inl (fun _ => 0)))] ++ ([(q3, .inl (cI, 22, .inl (fun _ => 0)))])))) := hD
  refine lv_aload_n hx hb dX1_init_29 rfl (lv_at hl 0 rfl) ?_
  refine lv_bipush (v := 44) hx hb dX1_init_30 (by decide) ?_
  refine dk_newI (N' := 44) hx hb (hts (.arrayClass .int) qX1_init_aI) hK hP hD hS hA (by decide) (by decide) (by decide) (Nat.le_of_ble_eq_true rfl) (Nat.le_of_ble_eq_true rfl) dX1_init_32 (fun q4 H hP hD hS => ?_)
  have hP : va_P (dC, dI) vwCl ([(o, .inr (1, [.ref q1, .ref q2, .ref q3, .null, .null, .int 0, .int 0, .long 0]))] ++ ([(q1, .inl (cJ, 156, .inr (.inl (fun _ => 0))))] ++ ([(q2, .inl (cI, 12, .inl (fun _ => 0)))] ++ ([(q3, .inl (cI, 22, .inl (fun _ => 0)))] ++ ([(q4, .inl (cI, 44, .inl (fun _ => 0)))]))))) H := hP
  have hD : va_D A ([(o, .inr (1, [.ref q1, .ref q2, .ref q3, .null, .null, .int 0, .int 0, .long 0]))] ++ ([(q1, .inl (cJ, 156, .inr (.inl (fun _ => 0))))] ++ ([(q2, .inl (cI, 12, .inl (fun _ => 0)))] ++ ([(q3, .inl (cI, 22, .inl (fun _ => 0)))] ++ ([(q4, .inl (cI, 44, .inl (fun _ => 0)))]))))) := hD
  refine W.widen (k := 4) (n := 234) (by decide) (by decide) ?_
  refine va_putF (D := (dC, dI)) (ci := 1) (v := .ref q4) (ty := .array .int) (C := RX1) (T := TX1) (N := 8) hx hb hts qX1_init_iX1 tyX1 tyX1_ok nmX1 hown hK hP hD hS 0 rfl rfl 3 (by decide) (hts _ qX1_init_f22) (fun _ h9 => h9) rfl hin rfl (by decide +kernel) rfl rfl (Nat.le_of_ble_eq_true rfl) dX1_init_34 (fun H locs hP hD hS => ?_)
  have hP : va_P (dC, dI) vwCl ([(o, .inr (1, [.ref q1, .ref q2, .ref q3, .ref q4, .null, .int 0, .int 0, .long 0]))] ++ ([(q1, .inl (cJ, 156, .inr (.inl (fun _ => 0))))] ++ ([(q2, .inl (cI, 12, .inl (fun _ => 0)))] ++ ([(q3, .inl (cI, 22, .inl (fun _ => 0)))] ++ ([(q4, .inl (cI, 44, .inl (fun _ => 0)))]))))) H := hP
  have hD : va_D A ([(o, .inr (1, [.ref q1, .ref q2, .ref q3, .ref q4, .null, .int 0, .int 0, .long 0]))] ++ ([(q1, .inl (cJ, 156, .inr (.inl (fun _ => 0))))] ++ ([(q2, .inl (cI, 12, .inl (fun _ => 0)))] ++ ([(q3, .inl (cI, 22, .inl (fun _ => 0)))] ++ ([(q4, .inl (cI, 44, .inl (fun _ => 0)))]))))) := hD
  refine lv_aload_n hx hb dX1_init_37 rfl (lv_at hl 0 rfl) ?_
  refine lv_bipush (v := 44) hx hb dX1_init_38 (by decide) ?_
  refine dk_newZ (N' := 44) hx hb (hts (.arrayClass .boolean) qX1_init_aZ) hK hP hD hS hA (by decide) (by decide) (by decide) (Nat.le_of_ble_eq_true rfl) (Nat.le_of_ble_eq_true rfl) dX1_init_40 (fun q5 H hP hD hS => ?_)
  have hP : va_P (dC, dI) vwCl ([(o, .inr (1, [.ref q1, .ref q2, .ref q3, .ref q4, .null, .int 0, .int 0, .long 0]))] ++ ([(q1, .inl (cJ, 156, .inr (.inl (fun _ => 0))))] ++ ([(q2, .inl (cI, 12, .inl (fun _ => 0)))] ++ ([(q3, .inl (cI, 22, .inl (fun _ => 0)))] ++ ([(q4, .inl (cI, 44, .inl (fun _ => 0)))] ++ ([(q5, .inl (cZ, 44, .inl (fun _ => 0)))])))))) H := hP
  have hD : va_D A ([(o, .inr (1, [.ref q1, .ref q2, .ref q3, .ref q4, .null, .int 0, .int 0, .long 0]))] ++ ([(q1, .inl (cJ, 156, .inr (.inl (fun _ => 0))))] ++ ([(q2, .inl (cI, 12, .inl (fun _ => 0)))] ++ ([(q3, .inl (cI, 22, .inl (fun _ => 0)))] ++ ([(q4, .inl (cI, 44, .inl (fun _ => 0)))] ++ ([(q5, .inl (cZ, 44, .inl (fun _ => 0)))])))))) := hD
  refine W.widen (k := 5) (n := 278) (by decide) (by decide) ?_
  refine va_putF (D := (dC, dI)) (ci := 1) (v := .ref q5) (ty := .array .boolean) (C := RX1) (T := TX1) (N := 8) hx hb hts qX1_init_iX1 tyX1 tyX1_ok nmX1 hown hK hP hD hS 0 rfl rfl 4 (by decide) (hts _ qX1_init_f25) (fun _ h9 => h9) rfl hin rfl (by decide +kernel) rfl rfl (Nat.le_of_ble_eq_true rfl) dX1_init_42 (fun H locs hP hD hS => ?_)
  have hP : va_P (dC, dI) vwCl ([(o, .inr (1, [.ref q1, .ref q2, .ref q3, .ref q4, .ref q5, .int 0, .int 0, .long 0]))] ++ ([(q1, .inl (cJ, 156, .inr (.inl (fun _ => 0))))] ++ ([(q2, .inl (cI, 12, .inl (fun _ => 0)))] ++ ([(q3, .inl (cI, 22, .inl (fun _ => 0)))] ++ ([(q4, .inl (cI, 44, .inl (fun _ => 0)))] ++ ([(q5, .inl (cZ, 44, .inl (fun _ => 0)))])))))) H := hP
  have hD : va_D A ([(o, .inr (1, [.ref q1, .ref q2, .ref q3, .ref q4, .ref q5, .int 0, .int 0, .long 0]))] ++ ([(q1, .inl (cJ, 156, .inr (.inl (fun _ => 0))))] ++ ([(q2, .inl (cI, 12, .inl (fun _ => 0)))] ++ ([(q3, .inl (cI, 22, .inl (fun _ => 0)))] ++ ([(q4, .inl (cI, 44, .inl (fun _ => 0)))] ++ ([(q5, .inl (cZ, 44, .inl (fun _ => 0)))])))))) := hD
  refine lv_aload_n hx hb dX1_init_45 rfl (lv_at hl 0 rfl) ?_
  refine lv_iconst (v := 0) hx hb dX1_init_46 (by decide) ?_
  refine va_put (D := (dC, dI)) (ci := 1) (v := .int 0) (ty := .int) (C := RX1) (T := TX1) (N := 8) hx hb hts qX1_init_iX1 tyX1 tyX1_ok nmX1 hown hK hP hD hS 0 rfl rfl 5 (by decide) (hts _ qX1_init_f29) (fun _ h9 => h9) rfl (by decide +kernel) rfl rfl (Nat.le_of_ble_eq_true rfl) dX1_init_47 (fun H locs hP hD hS => ?_)
  have hP : va_P (dC, dI) vwCl ([(o, .inr (1, [.ref q1, .ref q2, .ref q3, .ref q4, .ref q5, .int 0, .int 0, .long 0]))] ++ ([(q1, .inl (cJ, 156, .inr (.inl (fun _ => 0))))] ++ ([(q2, .inl (cI, 12, .inl (fun _ => 0)))] ++ ([(q3, .inl (cI, 22, .inl (fun _ => 0)))] ++ ([(q4, .inl (cI, 44, .inl (fun _ => 0)))] ++ ([(q5, .inl (cZ, 44, .inl (fun _ => 0)))])))))) H := hP
  have hD : va_D A ([(o, .inr (1, [.ref q1, .ref q2, .ref q3, .ref q4, .ref q5, .int 0, .int 0, .long 0]))] ++ ([(q1, .inl (cJ, 156, .inr (.inl (fun _ => 0))))] ++ ([(q2, .inl (cI, 12, .inl (fun _ => 0)))] ++ ([(q3, .inl (cI, 22, .inl (fun _ => 0)))] ++ ([(q4, .inl (cI, 44, .inl (fun _ => 0)))] ++ ([(q5, .inl (cZ, 44, .inl (fun _ => 0)))])))))) := hD
  refine lv_aload_n hx hb dX1_init_50 rfl (lv_at hl 0 rfl) ?_
  refine lv_iconst (v := 0) hx hb dX1_init_51 (by decide) ?_
  refine va_put (D := (dC, dI)) (ci := 1) (v := .int 0) (ty := .int) (C := RX1) (T := TX1) (N := 8) hx hb hts qX1_init_iX1 tyX1 tyX1_ok nmX1 hown hK hP hD hS 0 rfl rfl 6 (by decide) (hts _ qX1_init_f33) (fun _ h9 => h9) rfl (by decide +kernel) rfl rfl (Nat.le_of_ble_eq_true rfl) dX1_init_52 (fun H locs hP hD hS => ?_)
  have hP : va_P (dC, dI) vwCl ([(o, .inr (1, [.ref q1, .ref q2, .ref q3, .ref q4, .ref q5, .int 0, .int 0, .long 0]))] ++ ([(q1, .inl (cJ, 156, .inr (.inl (fun _ => 0))))] ++ ([(q2, .inl (cI, 12, .inl (fun _ => 0)))] ++ ([(q3, .inl (cI, 22, .inl (fun _ => 0)))] ++ ([(q4, .inl (cI, 44, .inl (fun _ => 0)))] ++ ([(q5, .inl (cZ, 44, .inl (fun _ => 0)))])))))) H := hP
  have hD : va_D A ([(o, .inr (1, [.ref q1, .ref q2, .ref q3, .ref q4, .ref q5, .int 0, .int 0, .long 0]))] ++ ([(q1, .inl (cJ, 156, .inr (.inl (fun _ => 0))))] ++ ([(q2, .inl (cI, 12, .inl (fun _ => 0)))] ++ ([(q3, .inl (cI, 22, .inl (fun _ => 0)))] ++ ([(q4, .inl (cI, 44, .inl (fun _ => 0)))] ++ ([(q5, .inl (cZ, 44, .inl (fun _ => 0)))])))))) := hD
  refine lv_aload_n hx hb dX1_init_55 rfl (lv_at hl 0 rfl) ?_
  refine lv_lconst (v := 0) hx hb dX1_init_56 (by decide) ?_
  refine va_put (D := (dC, dI)) (ci := 1) (v := .long 0) (ty := .long) (C := RX1) (T := TX1) (N := 8) hx hb hts qX1_init_iX1 tyX1 tyX1_ok nmX1 hown hK hP hD hS 0 rfl rfl 7 (by decide) (hts _ qX1_init_f36) (fun _ h9 => h9) rfl (by decide +kernel) rfl rfl (Nat.le_of_ble_eq_true rfl) dX1_init_57 (fun H locs hP hD hS => ?_)
  have hP : va_P (dC, dI) vwCl ([(o, .inr (1, [.ref q1, .ref q2, .ref q3, .ref q4, .ref q5, .int 0, .int 0, .long 0]))] ++ ([(q1, .inl (cJ, 156, .inr (.inl (fun _ => 0))))] ++ ([(q2, .inl (cI, 12, .inl (fun _ => 0)))] ++ ([(q3, .inl (cI, 22, .inl (fun _ => 0)))] ++ ([(q4, .inl (cI, 44, .inl (fun _ => 0)))] ++ ([(q5, .inl (cZ, 44, .inl (fun _ => 0)))])))))) H := hP
  have hD : va_D A ([(o, .inr (1, [.ref q1, .ref q2, .ref q3, .ref q4, .ref q5, .int 0, .int 0, .long 0]))] ++ ([(q1, .inl (cJ, 156, .inr (.inl (fun _ => 0))))] ++ ([(q2, .inl (cI, 12, .inl (fun _ => 0)))] ++ ([(q3, .inl (cI, 22, .inl (fun _ => 0)))] ++ ([(q4, .inl (cI, 44, .inl (fun _ => 0)))] ++ ([(q5, .inl (cZ, 44, .inl (fun _ => 0)))])))))) := hD
  have hP9 : va_P (dC, dI) vwCl (wX1 o (dk_ad [q1, q2, q3, q4, q5, 0, 0, 0]) cI cJ cZ (fun _ => 0) (fun _ => 0) (fun _ => 0) (fun _ => 0) (fun _ => 0) 0 0 0) H := hP.sub [0, 1, 2, 3, 4, 5] rfl
  have hD9 : va_D A (wX1 o (dk_ad [q1, q2, q3, q4, q5, 0, 0, 0]) cI cJ cZ (fun _ => 0) (fun _ => 0) (fun _ => 0) (fun _ => 0) (fun _ => 0) 0 0 0) := hD.sub [0, 1, 2, 3, 4, 5] (by decide) rfl
  exact dk_uret (wn := fun u : (Nat → Nat) => wX1 o u cI cJ cZ (fun _ => 0) (fun _ => 0) (fun _ => 0) (fun _ => 0) (fun _ => 0) 0 0 0) (dk_ad [q1, q2, q3, q4, q5, 0, 0, 0]) C hK hP9 hD9 hS dX1_init_60
/-! ===== SquareTiler$Lines() ===== -/
abbrev rX3_init : Room := { frames := 1, cells := 2, slots := 84, locals := 20 }
def ovX3_init : List Cond := [Cond.methodLink RX3 3 objectInit, Cond.instanceMethod objectInit, Cond.code objectInit ⟨#[0xb1]⟩ 1 none, Cond.arrayClass .int, Cond.fieldLink RX3 9 "SquareTiler$Lines" "order" "[I", Cond.fieldLink RX3 15 "SquareTiler$Lines" "lineOf" "[I", Cond.fieldLink RX3 18 "SquareTiler$Lines" "howMany" "I"]
def vsX3_init : List Cond := .code yX3_init cX3_init 1 none :: (ovX3_init ++ (wsX30 ++ []))
theorem qX3_init_o1 : Cond.methodLink RX3 3 objectInit ∈ vsX3_init := List.mem_cons_of_mem _ (List.mem_append_left _ (List.mem_of_getElem? (i := 0) rfl))
theorem qX3_init_o2 : Cond.instanceMethod objectInit ∈ vsX3_init := List.mem_cons_of_mem _ (List.mem_append_left _ (List.mem_of_getElem? (i := 1) rfl))
theorem qX3_init_o3 : Cond.code objectInit ⟨#[0xb1]⟩ 1 none ∈ vsX3_init := List.mem_cons_of_mem _ (List.mem_append_left _ (List.mem_of_getElem? (i := 2) rfl))
theorem qX3_init_aI : Cond.arrayClass .int ∈ vsX3_init := List.mem_cons_of_mem _ (List.mem_append_left _ (List.mem_of_getElem? (i := 3) rfl))
theorem qX3_init_f9 : Cond.fieldLink RX3 9 "SquareTiler$Lines" "order" "[I" ∈ vsX3_init := List.mem_cons_of_mem _ (List.mem_append_left _ (List.mem_of_getElem? (i := 4) rfl))
theorem qX3_init_f15 : Cond.fieldLink RX3 15 "SquareTiler$Lines" "lineOf" "[I" ∈ vsX3_init := List.mem_cons_of_mem _ (List.mem_append_left _ (List.mem_of_getElem? (i := 5) rfl))
theorem qX3_init_f18 : Cond.fieldLink RX3 18 "SquareTiler$Lines" "howMany" "I" ∈ vsX3_init := List.mem_cons_of_mem _ (List.mem_append_left _ (List.mem_of_getElem? (i := 6) rfl))
theorem qX3_init_iX3 : ∀ w ∈ u_ws RX3 TX3 3, w ∈ vsX3_init := fun w h => List.mem_cons_of_mem _ (List.mem_append_right _ (List.mem_append_left _ h))
theorem gd_vsX3_init : ∀ w ∈ vsX3_init, goodWord w = true := dk_cons rfl (dk_app (dk_all (by decide +kernel)) (dk_app gd_wsX30 dk_nil))
set_option maxHeartbeats 4000000 in
set_option maxRecDepth 100000 in
theorem mX3_init (l : Launch) (dC : Nat → ClassId) (dI : Nat → Nat → Nat) (cI cJ cZ : ClassId) {o : Nat} (sz : Nat) : Met l yX3_init vsX3_init rX3_init (va_Pc [.ref o] (dk_PreN (dC, dI) (dk_ty cI cJ cZ) [(o, .inr (3, [.null, .null, .int 0]))] sz)) (dk_Qu (dC, dI) (dk_ty cI cJ cZ) (fun u : (Nat → Nat) => wX3 o u cI cJ cZ (fun _ => 0) (fun _ => 0) 0) (va_A [(o, .inr (3, [.null, .null, .int 0]))] sz)) 2 84 (va_A [(o, .inr (3, [.null, .null, .int 0]))] sz) := by
  refine dk_metN (cc := cX3_init) (maxL := 1) (ret := none) (Qc := fun A => dk_Qu (dC, dI) (dk_ty cI cJ cZ) (fun u : (Nat → Nat) => wX3 o u cI cJ cZ (fun _ => 0) (fun _ => 0) 0) A) (by decide) rfl (Nat.le_of_ble_eq_true rfl) ?_
  intro p e s m below meth c A C hnm hN hA hK hP hD hS ls hl
  have C : dk_C p s m meth c _ cX3_init none 1 RX3 vsX3_init := C
  obtain ⟨hx, hb, hr, hml, hown, hts, hlocks⟩ := id C
  have hin : meth.name = "<init>" := hnm
  have hl : lv_has ls 1 [(0, .ref o)] := hl
  refine lv_aload_n hx hb dX3_init_0 rfl (lv_at hl 0 rfl) ?_
  refine W.objInit hx hb hown (hts (.methodLink RX3 3 objectInit) qX3_init_o1) (hts (.instanceMethod objectInit) qX3_init_o2) (hts _ qX3_init_o3) rfl (by rw [hml]; exact hl.1) rfl dX3_init_1 (Nat.le_of_ble_eq_true rfl) (Nat.le_of_ble_eq_true rfl) ?_
  refine W.eq (g2 := F0 m 4 ls []) rfl ?_
  refine lv_aload_n hx hb dX3_init_4 rfl (lv_at hl 0 rfl) ?_
  refine lv_bipush (v := 42) hx hb dX3_init_5 (by decide) ?_
  refine dk_newI (N' := 42) hx hb (hts (.arrayClass .int) qX3_init_aI) hK hP hD hS hA (by decide) (by decide) (by decide) (Nat.le_of_ble_eq_true rfl) (Nat.le_of_ble_eq_true rfl) dX3_init_7 (fun q1 H hP hD hS => ?_)
  have hP : va_P (dC, dI) vwCl ([(o, .inr (3, [.null, .null, .int 0]))] ++ ([(q1, .inl (cI, 42, .inl (fun _ => 0)))])) H := hP
  have hD : va_D A ([(o, .inr (3, [.null, .null, .int 0]))] ++ ([(q1, .inl (cI, 42, .inl (fun _ => 0)))])) := hD
  refine W.widen (k := 1) (n := 42) (by decide) (by decide) ?_
  refine va_putF (D := (dC, dI)) (ci := 3) (v := .ref q1) (ty := .array .int) (C := RX3) (T := TX3) (N := 3) hx hb hts qX3_init_iX3 tyX3 tyX3_ok nmX3 hown hK hP hD hS 0 rfl rfl 0 (by decide) (hts _ qX3_init_f9) (fun _ h9 => h9) rfl hin rfl (by decide +kernel) rfl rfl (Nat.le_of_ble_eq_true rfl) dX3_init_9 (fun H locs hP hD hS => ?_)
  have hP : va_P (dC, dI) vwCl ([(o, .inr (3, [.ref q1, .null, .int 0]))] ++ ([(q1, .inl (cI, 42, .inl (fun _ => 0)))])) H := hP
  have hD : va_D A ([(o, .inr (3, [.ref q1, .null, .int 0]))] ++ ([(q1, .inl (cI, 42, .inl (fun _ => 0)))])) := hD
  refine lv_aload_n hx hb dX3_init_12 rfl (lv_at hl 0 rfl) ?_
  refine lv_bipush (v := 42) hx hb dX3_init_13 (by decide) ?_
  refine dk_newI (N' := 42) hx hb (hts (.arrayClass .int) qX3_init_aI) hK hP hD hS hA (by decide) (by decide) (by decide) (Nat.le_of_ble_eq_true rfl) (Nat.le_of_ble_eq_true rfl) dX3_init_15 (fun q2 H hP hD hS => ?_)
  have hP : va_P (dC, dI) vwCl ([(o, .inr (3, [.ref q1, .null, .int 0]))] ++ ([(q1, .inl (cI, 42, .inl (fun _ => 0)))] ++ ([(q2, .inl (cI, 42, .inl (fun _ => 0)))]))) H := hP
  have hD : va_D A ([(o, .inr (3, [.ref q1, .null, .int 0]))] ++ ([(q1, .inl (cI, 42, .inl (fun _ => 0)))] ++ ([(q2, .inl (cI, 42, .inl (fun _ => 0)))]))) := hD
  refine W.widen (k := 2) (n := 84) (by decide) (by decide) ?_
  refine va_putF (D := (dC, dI)) (ci := 3) (v := .ref q2) (ty := .array .int) (C := RX3) (T := TX3) (N := 3) hx hb hts qX3_init_iX3 tyX3 tyX3_ok nmX3 hown hK hP hD hS 0 rfl rfl 1 (by decide) (hts _ qX3_init_f15) (fun _ h9 => h9) rfl hin rfl (by decide +kernel) rfl rfl (Nat.le_of_ble_eq_true rfl) dX3_init_17 (fun H locs hP hD hS => ?_)
  have hP : va_P (dC, dI) vwCl ([(o, .inr (3, [.ref q1, .ref q2, .int 0]))] ++ ([(q1, .inl (cI, 42, .inl (fun _ => 0)))] ++ ([(q2, .inl (cI, 42, .inl (fun _ => 0)))]))) H := hP
  have hD : va_D A ([(o, .inr (3, [.ref q1, .ref q2, .int 0]))] ++ ([(q1, .inl (cI, 42, .inl (fun _ => 0)))] ++ ([(q2, .inl (cI, 42, .inl (fun _ => 0)))]))) := hD
  refine lv_aload_n hx hb dX3_init_20 rfl (lv_at hl 0 rfl) ?_
  refine lv_iconst (v := 0) hx hb dX3_init_21 (by decide) ?_
  refine va_put (D := (dC, dI)) (ci := 3) (v := .int 0) (ty := .int) (C := RX3) (T := TX3) (N := 3) hx hb hts qX3_init_iX3 tyX3 tyX3_ok nmX3 hown hK hP hD hS 0 rfl rfl 2 (by decide) (hts _ qX3_init_f18) (fun _ h9 => h9) rfl (by decide +kernel) rfl rfl (Nat.le_of_ble_eq_true rfl) dX3_init_22 (fun H locs hP hD hS => ?_)
  have hP : va_P (dC, dI) vwCl ([(o, .inr (3, [.ref q1, .ref q2, .int 0]))] ++ ([(q1, .inl (cI, 42, .inl (fun _ => 0)))] ++ ([(q2, .inl (cI, 42, .inl (fun _ => 0)))]))) H := hP
  have hD : va_D A ([(o, .inr (3, [.ref q1, .ref q2, .int 0]))] ++ ([(q1, .inl (cI, 42, .inl (fun _ => 0)))] ++ ([(q2, .inl (cI, 42, .inl (fun _ => 0)))]))) := hD
  have hP9 : va_P (dC, dI) vwCl (wX3 o (dk_ad [q1, q2, 0]) cI cJ cZ (fun _ => 0) (fun _ => 0) 0) H := hP.sub [0, 1, 2] rfl
  have hD9 : va_D A (wX3 o (dk_ad [q1, q2, 0]) cI cJ cZ (fun _ => 0) (fun _ => 0) 0) := hD.sub [0, 1, 2] (by decide) rfl
  exact dk_uret (wn := fun u : (Nat → Nat) => wX3 o u cI cJ cZ (fun _ => 0) (fun _ => 0) 0) (dk_ad [q1, q2, 0]) C hK hP9 hD9 hS dX3_init_25
/-! ===== SquareTiler$Net() ===== -/
abbrev rX4_init : Room := { frames := 1, cells := 7, slots := 376, locals := 20 }
def ovX4_init : List Cond := [Cond.methodLink RX4 3 objectInit, Cond.instanceMethod objectInit, Cond.code objectInit ⟨#[0xb1]⟩ 1 none, Cond.arrayClass .int, Cond.fieldLink RX4 9 "SquareTiler$Net" "first" "[I", Cond.fieldLink RX4 15 "SquareTiler$Net" "second" "[I", Cond.arrayClass .boolean, Cond.fieldLink RX4 18 "SquareTiler$Net" "isCut" "[Z", Cond.fieldLink RX4 22 "SquareTiler$Net" "wireClaim" "[I", Cond.fieldLink RX4 25 "SquareTiler$Net" "knotClaim" "[I", Cond.fieldLink RX4 28 "SquareTiler$Net" "turnSize" "[I", Cond.fieldLink RX4 31 "SquareTiler$Net" "turns" "[I", Cond.fieldLink RX4 34 "SquareTiler$Net" "knots" "I", Cond.fieldLink RX4 38 "SquareTiler$Net" "wires" "I", Cond.fieldLink RX4 41 "SquareTiler$Net" "power" "I"]
def vsX4_init : List Cond := .code yX4_init cX4_init 1 none :: (ovX4_init ++ (wsX40 ++ []))
theorem qX4_init_o1 : Cond.methodLink RX4 3 objectInit ∈ vsX4_init := List.mem_cons_of_mem _ (List.mem_append_left _ (List.mem_of_getElem? (i := 0) rfl))
theorem qX4_init_o2 : Cond.instanceMethod objectInit ∈ vsX4_init := List.mem_cons_of_mem _ (List.mem_append_left _ (List.mem_of_getElem? (i := 1) rfl))
theorem qX4_init_o3 : Cond.code objectInit ⟨#[0xb1]⟩ 1 none ∈ vsX4_init := List.mem_cons_of_mem _ (List.mem_append_left _ (List.mem_of_getElem? (i := 2) rfl))
theorem qX4_init_aI : Cond.arrayClass .int ∈ vsX4_init := List.mem_cons_of_mem _ (List.mem_append_left _ (List.mem_of_getElem? (i := 3) rfl))
theorem qX4_init_f9 : Cond.fieldLink RX4 9 "SquareTiler$Net" "first" "[I" ∈ vsX4_init := List.mem_cons_of_mem _ (List.mem_append_left _ (List.mem_of_getElem? (i := 4) rfl))
theorem qX4_init_f15 : Cond.fieldLink RX4 15 "SquareTiler$Net" "second" "[I" ∈ vsX4_init := List.mem_cons_of_mem _ (List.mem_append_left _ (List.mem_of_getElem? (i := 5) rfl))
theorem qX4_init_aZ : Cond.arrayClass .boolean ∈ vsX4_init := List.mem_cons_of_mem _ (List.mem_append_left _ (List.mem_of_getElem? (i := 6) rfl))
theorem qX4_init_f18 : Cond.fieldLink RX4 18 "SquareTiler$Net" "isCut" "[Z" ∈ vsX4_init := List.mem_cons_of_mem _ (List.mem_append_left _ (List.mem_of_getElem? (i := 7) rfl))
theorem qX4_init_f22 : Cond.fieldLink RX4 22 "SquareTiler$Net" "wireClaim" "[I" ∈ vsX4_init := List.mem_cons_of_mem _ (List.mem_append_left _ (List.mem_of_getElem? (i := 8) rfl))
theorem qX4_init_f25 : Cond.fieldLink RX4 25 "SquareTiler$Net" "knotClaim" "[I" ∈ vsX4_init := List.mem_cons_of_mem _ (List.mem_append_left _ (List.mem_of_getElem? (i := 9) rfl))
theorem qX4_init_f28 : Cond.fieldLink RX4 28 "SquareTiler$Net" "turnSize" "[I" ∈ vsX4_init := List.mem_cons_of_mem _ (List.mem_append_left _ (List.mem_of_getElem? (i := 10) rfl))
theorem qX4_init_f31 : Cond.fieldLink RX4 31 "SquareTiler$Net" "turns" "[I" ∈ vsX4_init := List.mem_cons_of_mem _ (List.mem_append_left _ (List.mem_of_getElem? (i := 11) rfl))
theorem qX4_init_f34 : Cond.fieldLink RX4 34 "SquareTiler$Net" "knots" "I" ∈ vsX4_init := List.mem_cons_of_mem _ (List.mem_append_left _ (List.mem_of_getElem? (i := 12) rfl))
theorem qX4_init_f38 : Cond.fieldLink RX4 38 "SquareTiler$Net" "wires" "I" ∈ vsX4_init := List.mem_cons_of_mem _ (List.mem_append_left _ (List.mem_of_getElem? (i := 13) rfl))
theorem qX4_init_f41 : Cond.fieldLink RX4 41 "SquareTiler$Net" "power" "I" ∈ vsX4_init := List.mem_cons_of_mem _ (List.mem_append_left _ (List.mem_of_getElem? (i := 14) rfl))
theorem qX4_init_iX4 : ∀ w ∈ u_ws RX4 TX4 10, w ∈ vsX4_init := fun w h => List.mem_cons_of_mem _ (List.mem_append_right _ (List.mem_append_left _ h))
theorem gd_vsX4_init : ∀ w ∈ vsX4_init, goodWord w = true := dk_cons rfl (dk_app (dk_all (by decide +kernel)) (dk_app gd_wsX40 dk_nil))
set_option maxHeartbeats 4000000 in
set_option maxRecDepth 100000 in
theorem mX4_init (l : Launch) (dC : Nat → ClassId) (dI : Nat → Nat → Nat) (cI cJ cZ : ClassId) {o : Nat} (sz : Nat) : Met l yX4_init vsX4_init rX4_init (va_Pc [.ref o] (dk_PreN (dC, dI) (dk_ty cI cJ cZ) [(o, .inr (4, [.null, .null, .null, .null, .null, .null, .null, .int 0, .int 0, .int 0]))] sz)) (dk_Qu (dC, dI) (dk_ty cI cJ cZ) (fun u : (Nat → Nat) => wX4 o u cI cJ cZ (fun _ => 0) (fun _ => 0) (fun _ => 0) (fun _ => 0) (fun _ => 0) (fun _ => 0) (fun _ => 0) 0 0 (-1)) (va_A [(o, .inr (4, [.null, .null, .null, .null, .null, .null, .null, .int 0, .int 0, .int 0]))] sz)) 7 376 (va_A [(o, .inr (4, [.null, .null, .null, .null, .null, .null, .null, .int 0, .int 0, .int 0]))] sz) := by
  refine dk_metN (cc := cX4_init) (maxL := 1) (ret := none) (Qc := fun A => dk_Qu (dC, dI) (dk_ty cI cJ cZ) (fun u : (Nat → Nat) => wX4 o u cI cJ cZ (fun _ => 0) (fun _ => 0) (fun _ => 0) (fun _ => 0) (fun _ => 0) (fun _ => 0) (fun _ => 0) 0 0 (-1)) A) (by decide) rfl (Nat.le_of_ble_eq_true rfl) ?_
  intro p e s m below meth c A C hnm hN hA hK hP hD hS ls hl
  have C : dk_C p s m meth c _ cX4_init none 1 RX4 vsX4_init := C
  obtain ⟨hx, hb, hr, hml, hown, hts, hlocks⟩ := id C
  have hin : meth.name = "<init>" := hnm
  have hl : lv_has ls 1 [(0, .ref o)] := hl
  refine lv_aload_n hx hb dX4_init_0 rfl (lv_at hl 0 rfl) ?_
  refine W.objInit hx hb hown (hts (.methodLink RX4 3 objectInit) qX4_init_o1) (hts (.instanceMethod objectInit) qX4_init_o2) (hts _ qX4_init_o3) rfl (by rw [hml]; exact hl.1) rfl dX4_init_1 (Nat.le_of_ble_eq_true rfl) (Nat.le_of_ble_eq_true rfl) ?_
  refine W.eq (g2 := F0 m 4 ls []) rfl ?_
  refine lv_aload_n hx hb dX4_init_4 rfl (lv_at hl 0 rfl) ?_
  refine lv_bipush (v := 22) hx hb dX4_init_5 (by decide) ?_
  refine dk_newI (N' := 22) hx hb (hts (.arrayClass .int) qX4_init_aI) hK hP hD hS hA (by decide) (by decide) (by decide) (Nat.le_of_ble_eq_true rfl) (Nat.le_of_ble_eq_true rfl) dX4_init_7 (fun q1 H hP hD hS => ?_)
  have hP : va_P (dC, dI) vwCl ([(o, .inr (4, [.null, .null, .null, .null, .null, .null, .null, .int 0, .int 0, .int 0]))] ++ ([(q1, .inl (cI, 22, .inl (fun _ => 0)))])) H := hP
  have hD : va_D A ([(o, .inr (4, [.null, .null, .null, .null, .null, .null, .null, .int 0, .int 0, .int 0]))] ++ ([(q1, .inl (cI, 22, .inl (fun _ => 0)))])) := hD
  refine W.widen (k := 1) (n := 22) (by decide) (by decide) ?_
  refine va_putF (D := (dC, dI)) (ci := 4) (v := .ref q1) (ty := .array .int) (C := RX4) (T := TX4) (N := 10) hx hb hts qX4_init_iX4 tyX4 tyX4_ok nmX4 hown hK hP hD hS 0 rfl rfl 0 (by decide) (hts _ qX4_init_f9) (fun _ h9 => h9) rfl hin rfl (by decide +kernel) rfl rfl (Nat.le_of_ble_eq_true rfl) dX4_init_9 (fun H locs hP hD hS => ?_)
  have hP : va_P (dC, dI) vwCl ([(o, .inr (4, [.ref q1, .null, .null, .null, .null, .null, .null, .int 0, .int 0, .int 0]))] ++ ([(q1, .inl (cI, 22, .inl (fun _ => 0)))])) H := hP
  have hD : va_D A ([(o, .inr (4, [.ref q1, .null, .null, .null, .null, .null, .null, .int 0, .int 0, .int 0]))] ++ ([(q1, .inl (cI, 22, .inl (fun _ => 0)))])) := hD
  refine lv_aload_n hx hb dX4_init_12 rfl (lv_at hl 0 rfl) ?_
  refine lv_bipush (v := 22) hx hb dX4_init_13 (by decide) ?_
  refine dk_newI (N' := 22) hx hb (hts (.arrayClass .int) qX4_init_aI) hK hP hD hS hA (by decide) (by decide) (by decide) (Nat.le_of_ble_eq_true rfl) (Nat.le_of_ble_eq_true rfl) dX4_init_15 (fun q2 H hP hD hS => ?_)
  have hP : va_P (dC, dI) vwCl ([(o, .inr (4, [.ref q1, .null, .null, .null, .null, .null, .null, .int 0, .int 0, .int 0]))] ++ ([(q1, .inl (cI, 22, .inl (fun _ => 0)))] ++ ([(q2, .inl (cI, 22, .inl (fun _ => 0)))]))) H := hP
  have hD : va_D A ([(o, .inr (4, [.ref q1, .null, .null, .null, .null, .null, .null, .int 0, .int 0, .int 0]))] ++ ([(q1, .inl (cI, 22, .inl (fun _ => 0)))] ++ ([(q2, .inl (cI, 22, .inl (fun _ => 0)))]))) := hD
  refine W.widen (k := 2) (n := 44) (by decide) (by decide) ?_
  refine va_putF (D := (dC, dI)) (ci := 4) (v := .ref q2) (ty := .array .int) (C := RX4) (T := TX4) (N := 10) hx hb hts qX4_init_iX4 tyX4 tyX4_ok nmX4 hown hK hP hD hS 0 rfl rfl 1 (by decide) (hts _ qX4_init_f15) (fun _ h9 => h9) rfl hin rfl (by decide +kernel) rfl rfl (Nat.le_of_ble_eq_true rfl) dX4_init_17 (fun H locs hP hD hS => ?_)
  have hP : va_P (dC, dI) vwCl ([(o, .inr (4, [.ref q1, .ref q2, .null, .null, .null, .null, .null, .int 0, .int 0, .int 0]))] ++ ([(q1, .inl (cI, 22, .inl (fun _ => 0)))] ++ ([(q2, .inl (cI, 22, .inl (fun _ => 0)))]))) H := hP
  have hD : va_D A ([(o, .inr (4, [.ref q1, .ref q2, .null, .null, .null, .null, .null, .int 0, .int 0, .int 0]))] ++ ([(q1, .inl (cI, 22, .inl (fun _ => 0)))] ++ ([(q2, .inl (cI, 22, .inl (fun _ => 0)))]))) := hD
  refine lv_aload_n hx hb dX4_init_20 rfl (lv_at hl 0 rfl) ?_
  refine lv_bipush (v := 22) hx hb dX4_init_21 (by decide) ?_
  refine dk_newZ (N' := 22) hx hb (hts (.arrayClass .boolean) qX4_init_aZ) hK hP hD hS hA (by decide) (by decide) (by decide) (Nat.le_of_ble_eq_true rfl) (Nat.le_of_ble_eq_true rfl) dX4_init_23 (fun q3 H hP hD hS => ?_)
  have hP : va_P (dC, dI) vwCl ([(o, .inr (4, [.ref q1, .ref q2, .null, .null, .null, .null, .null, .int 0, .int 0, .int 0]))] ++ ([(q1, .inl (cI, 22, .inl (fun _ => 0)))] ++ ([(q2, .inl (cI, 22, .inl (fun _ => 0)))] ++ ([(q3, .inl (cZ, 22, .inl (fun _ => 0)))])))) H := hP
  have hD : va_D A ([(o, .inr (4, [.ref q1, .ref q2, .null, .null, .null, .null, .null, .int 0, .int 0, .int 0]))] ++ ([(q1, .inl (cI, 22, .inl (fun _ => 0)))] ++ ([(q2, .inl (cI, 22, .inl (fun _ => 0)))] ++ ([(q3, .inl (cZ, 22, .inl (fun _ => 0)))])))) := hD
  refine W.widen (k := 3) (n := 66) (by decide) (by decide) ?_
  refine va_putF (D := (dC, dI)) (ci := 4) (v := .ref q3) (ty := .array .boolean) (C := RX4) (T := TX4) (N := 10) hx hb hts qX4_init_iX4 tyX4 tyX4_ok nmX4 hown hK hP hD hS 0 rfl rfl 2 (by decide) (hts _ qX4_init_f18) (fun _ h9 => h9) rfl hin rfl (by decide +kernel) rfl rfl (Nat.le_of_ble_eq_true rfl) dX4_init_25 (fun H locs hP hD hS => ?_)
  have hP : va_P (dC, dI) vwCl ([(o, .inr (4, [.ref q1, .ref q2, .ref q3, .null, .null, .null, .null, .int 0, .int 0, .int 0]))] ++ ([(q1, .inl (cI, 22, .inl (fun _ => 0)))] ++ ([(q2, .inl (cI, 22, .inl (fun _ => 0)))] ++ ([(q3, .inl (cZ, 22, .inl (fun _ => 0)))])))) H := hP
  have hD : va_D A ([(o, .inr (4, [.ref q1, .ref q2, .ref q3, .null, .null, .null, .null, .int 0, .int 0, .int 0]))] ++ ([(q1, .inl (cI, 22, .inl (fun _ => 0)))] ++ ([(q2, .inl (cI, 22, .inl (fun _ => 0)))] ++ ([(q3, .inl (cZ, 22, .inl (fun _ => 0)))])))) := hD
  refine lv_aload_n hx hb dX4_init_28 rfl (lv_at hl 0 rfl) ?_
  refine lv_bipush (v := 22) hx hb dX4_init_29 (by decide) ?_
  refine dk_newI (N' := 22) hx hb (hts (.arrayClass .int) qX4_init_aI) hK hP hD hS hA (by decide) (by decide) (by decide) (Nat.le_of_ble_eq_true rfl) (Nat.le_of_ble_eq_true rfl) dX4_init_31 (fun q4 H hP hD hS => ?_)
  have hP : va_P (dC, dI) vwCl ([(o, .inr (4, [.ref q1, .ref q2, .ref q3, .null, .null, .null, .null, .int 0, .int 0, .int 0]))] ++ ([(q1, .inl (cI, 22, .inl (fun _ => 0)))] ++ ([(q2, .inl (cI, 22, .inl (fun _ => 0)))] ++ ([(q3, .inl (cZ, 22, .inl (fun _ => 0)))] ++ ([(q4, .inl (cI, 22, .inl (fun _ => 0)))]))))) H := hP
  have hD : va_D A ([(o, .inr (4, [.ref q1, .ref q2, .ref q3, .null, .null, .null, .null, .int 0, .int 0, .int 0]))] ++ ([(q1, .inl (cI, 22, .inl (fun _ => 0)))] ++ ([(q2, .inl (cI, 22, .inl (fun _ => 0)))] ++ ([(q3, .inl (cZ, 22, .inl (fun _ => 0)))] ++ ([(q4, .inl (cI, 22, .inl (fun _ => 0)))]))))) := hD
  refine W.widen (k := 4) (n := 88) (by decide) (by decide) ?_
  refine va_putF (D := (dC, dI)) (ci := 4) (v := .ref q4) (ty := .array .int) (C := RX4) (T := TX4) (N := 10) hx hb hts qX4_init_iX4 tyX4 tyX4_ok nmX4 hown hK hP hD hS 0 rfl rfl 3 (by decide) (hts _ qX4_init_f22) (fun _ h9 => h9) rfl hin rfl (by decide +kernel) rfl rfl (Nat.le_of_ble_eq_true rfl) dX4_init_33 (fun H locs hP hD hS => ?_)
  have hP : va_P (dC, dI) vwCl ([(o, .inr (4, [.ref q1, .ref q2, .ref q3, .ref q4, .null, .null, .null, .int 0, .int 0, .int 0]))] ++ ([(q1, .inl (cI, 22, .inl (fun _ => 0)))] ++ ([(q2, .inl (cI, 22, .inl (fun _ => 0)))] ++ ([(q3, .inl (cZ, 22, .inl (fun _ => 0)))] ++ ([(q4, .inl (cI, 22, .inl (fun _ => 0)))]))))) H := hP
  have hD : va_D A ([(o, .inr (4, [.ref q1, .ref q2, .ref q3, .ref q4, .null, .null, .null, .int 0, .int 0, .int 0]))] ++ ([(q1, .inl (cI, 22, .inl (fun _ => 0)))] ++ ([(q2, .inl (cI, 22, .inl (fun _ => 0)))] ++ ([(q3, .inl (cZ, 22, .inl (fun _ => 0)))] ++ ([(q4, .inl (cI, 22, .inl (fun _ => 0)))]))))) := hD
  refine lv_aload_n hx hb dX4_init_36 rfl (lv_at hl 0 rfl) ?_
  refine lv_bipush (v := 12) hx hb dX4_init_37 (by decide) ?_
  refine dk_newI (N' := 12) hx hb (hts (.arrayClass .int) qX4_init_aI) hK hP hD hS hA (by decide) (by decide) (by decide) (Nat.le_of_ble_eq_true rfl) (Nat.le_of_ble_eq_true rfl) dX4_init_39 (fun q5 H hP hD hS => ?_)
  have hP : va_P (dC, dI) vwCl ([(o, .inr (4, [.ref q1, .ref q2, .ref q3, .ref q4, .null, .null, .null, .int 0, .int 0, .int 0]))] ++ ([(q1, .inl (cI, 22, .inl (fun _ => 0)))] ++ ([(q2, .inl (cI, 22, .inl (fun _ => 0)))] ++ ([(q3, .inl (cZ, 22, .inl (fun _ => 0)))] ++ ([(q4, .inl (cI, 22, .inl (fun _ => 0)))] ++ ([(q5, .inl (cI, 12, .inl (fun _ => 0)))])))))) H := hP
  have hD : va_D A ([(o, .inr (4, [.ref q1, .ref q2, .ref q3, .ref q4, .null, .null, .null, .int 0, .int 0, .int 0]))] ++ ([(q1, .inl (cI, 22, .inl (fun _ => 0)))] ++ ([(q2, .inl (cI, 22, .inl (fun _ => 0)))] ++ ([(q3, .inl (cZ, 22, .inl (fun _ => 0)))] ++ ([(q4, .inl (cI, 22, .inl (fun _ => 0)))] ++ ([(q5, .inl (cI, 12, .inl (fun _ => 0)))])))))) := hD
  refine W.widen (k := 5) (n := 100) (by decide) (by decide) ?_
  refine va_putF (D := (dC, dI)) (ci := 4) (v := .ref q5) (ty := .array .int) (C := RX4) (T := TX4) (N := 10) hx hb hts qX4_init_iX4 tyX4 tyX4_ok nmX4 hown hK hP hD hS 0 rfl rfl 4 (by decide) (hts _ qX4_init_f25) (fun _ h9 => h9) rfl hin rfl (by decide +kernel) rfl rfl (Nat.le_of_ble_eq_true rfl) dX4_init_41 (fun H locs hP hD hS => ?_)
  have hP : va_P (dC, dI) vwCl ([(o, .inr (4, [.ref q1, .ref q2, .ref q3, .ref q4, .ref q5, .null, .null, .int 0, .int 0, .int 0]))] ++ ([(q1, .inl (cI, 22, .inl (fun _ => 0)))] ++ ([(q2, .inl (cI, 22, .inl (fun _ => 0)))] ++ ([(q3, .inl (cZ, 22, .inl (fun _ => 0)))] ++ ([(q4, .inl (cI, 22, .inl (fun _ => 0)))] ++ ([(q5, .inl (cI, 12, .inl (fun _ => 0)))])))))) H := hP
  have hD : va_D A ([(o, .inr (4, [.ref q1, .ref q2, .ref q3, .ref q4, .ref q5, .null, .null, .int 0, .int 0, .int 0]))] ++ ([(q1, .inl (cI, 22, .inl (fun _ => 0)))] ++ ([(q2, .inl (cI, 22, .inl (fun _ => 0)))] ++ ([(q3, .inl (cZ, 22, .inl (fun _ => 0)))] ++ ([(q4, .inl (cI, 22, .inl (fun _ => 0)))] ++ ([(q5, .inl (cI, 12, .inl (fun _ => 0)))])))))) := hD
  refine lv_aload_n hx hb dX4_init_44 rfl (lv_at hl 0 rfl) ?_
  refine lv_bipush (v := 12) hx hb dX4_init_45 (by decide) ?_
  refine dk_newI (N' := 12) hx hb (hts (.arrayClass .int) qX4_init_aI) hK hP hD hS hA (by decide) (by decide) (by decide) (Nat.le_of_ble_eq_true rfl) (Nat.le_of_ble_eq_true rfl) dX4_init_47 (fun q6 H hP hD hS => ?_)
  have hP : va_P (dC, dI) vwCl ([(o, .inr (4, [.ref q1, .ref q2, .ref q3, .ref q4, .ref q5, .null, .null, .int 0, .int 0, .int 0]))] ++ ([(q1, .inl (cI, 22, .inl (fun _ => 0)))] ++ ([(q2, .inl (cI, 22, .inl (fun _ => 0)))] ++ ([(q3, .inl (cZ, 22, .inl (fun _ => 0)))] ++ ([(q4, .inl (cI, 22, .inl (fun _ => 0)))] ++ ([(q5, .inl (cI, 12, .inl (fun _ => 0)))] ++ ([(q6, .inl (cI, 12, .inl (fun _ => 0)))]))))))) H := hP
  have hD : va_D A ([(o, .inr (4, [.ref q1, .ref q2, .ref q3, .ref q4, .ref q5, .null, .null, .int 0, .int 0, .int 0]))] ++ ([(q1, .inl (cI, 22, .inl (fun _ => 0)))] ++ ([(q2, .inl (cI, 22, .inl (fun _ => 0)))] ++ ([(q3, .inl (cZ, 22, .inl (fun _ => 0)))] ++ ([(q4, .inl (cI, 22, .inl (fun _ => 0)))] ++ ([(q5, .inl (cI, 12, .inl (fun _ => 0)))] ++ ([(q6, .inl (cI, 12, .inl (fun _ => 0)))]))))))) := hD
  refine W.widen (k := 6) (n := 112) (by decide) (by decide) ?_
  refine va_putF (D := (dC, dI)) (ci := 4) (v := .ref q6) (ty := .array .int) (C := RX4) (T := TX4) (N := 10) hx hb hts qX4_init_iX4 tyX4 tyX4_ok nmX4 hown hK hP hD hS 0 rfl rfl 5 (by decide) (hts _ qX4_init_f28) (fun _ h9 => h9) rfl hin rfl (by decide +kernel) rfl rfl (Nat.le_of_ble_eq_true rfl) dX4_init_49 (fun H locs hP hD hS => ?_)
  have hP : va_P (dC, dI) vwCl ([(o, .inr (4, [.ref q1, .ref q2, .ref q3, .ref q4, .ref q5, .ref q6, .null, .int 0, .int 0, .int 0]))] ++ ([(q1, .inl (cI, 22, .inl (fun _ => 0)))] ++ ([(q2, .inl (cI, 22, .inl (fun _ => 0)))] ++ ([(q3, .inl (cZ, 22, .inl (fun _ => 0)))] ++ ([(q4, .inl (cI, 22, .inl (fun _ => 0)))] ++ ([(q5, .inl (cI, 12, .inl (fun _ => 0)))] ++ ([(q6, .inl (cI, 12, .inl (fun _ => 0)))]))))))) H := hP
  have hD : va_D A ([(o, .inr (4, [.ref q1, .ref q2, .ref q3, .ref q4, .ref q5, .ref q6, .null, .int 0, .int 0, .int 0]))] ++ ([(q1, .inl (cI, 22, .inl (fun _ => 0)))] ++ ([(q2, .inl (cI, 22, .inl (fun _ => 0)))] ++ ([(q3, .inl (cZ, 22, .inl (fun _ => 0)))] ++ ([(q4, .inl (cI, 22, .inl (fun _ => 0)))] ++ ([(q5, .inl (cI, 12, .inl (fun _ => 0)))] ++ ([(q6, .inl (cI, 12, .inl (fun _ => 0)))]))))))) := hD
  refine lv_aload_n hx hb dX4_init_52 rfl (lv_at hl 0 rfl) ?_
  refine lv_sipush (v := 264) hx hb dX4_init_53 (by decide) ?_
  refine dk_newI (N' := 264) hx hb (hts (.arrayClass .int) qX4_init_aI) hK hP hD hS hA (by decide) (by decide) (by decide) (Nat.le_of_ble_eq_true rfl) (Nat.le_of_ble_eq_true rfl) dX4_init_56 (fun q7 H hP hD hS => ?_)
  have hP : va_P (dC, dI) vwCl ([(o, .inr (4, [.ref q1, .ref q2, .ref q3, .ref q4, .ref q5, .ref q6, .null, .int 0, .int 0, .int 0]))] ++ ([(q1, .inl (cI, 22, .inl (fun _ => 0)))] ++ ([(q2, .inl (cI, 22, .inl (fun _ => 0)))] ++ ([(q3, .inl (cZ, 22, .inl (fun _ => 0)))] ++ ([(q4, .inl (cI, 22, .inl (fun _ => 0)))] ++ ([(q5, .inl (cI, 12, .inl (fun _ => 0)))] ++ ([(q6, .inl (cI, 12, .inl (fun _ => 0)))] ++ ([(q7, .inl (cI, 264, .inl (fun _ => 0)))])))))))) H := hP
  have hD : va_D A ([(o, .inr (4, [.ref q1, .ref q2, .ref q3, .ref q4, .ref q5, .ref q6, .null, .int 0, .int 0, .int 0]))] ++ ([(q1, .inl (cI, 22, .inl (fun _ => 0)))] ++ ([(q2, .inl (cI, 22, .inl (fun _ => 0)))] ++ ([(q3, .inl (cZ, 22, .inl (fun _ => 0)))] ++ ([(q4, .inl (cI, 22, .inl (fun _ => 0)))] ++ ([(q5, .inl (cI, 12, .inl (fun _ => 0)))] ++ ([(q6, .inl (cI, 12, .inl (fun _ => 0)))] ++ ([(q7, .inl (cI, 264, .inl (fun _ => 0)))])))))))) := hD
  refine W.widen (k := 7) (n := 376) (by decide) (by decide) ?_
  refine va_putF (D := (dC, dI)) (ci := 4) (v := .ref q7) (ty := .array .int) (C := RX4) (T := TX4) (N := 10) hx hb hts qX4_init_iX4 tyX4 tyX4_ok nmX4 hown hK hP hD hS 0 rfl rfl 6 (by decide) (hts _ qX4_init_f31) (fun _ h9 => h9) rfl hin rfl (by decide +kernel) rfl rfl (Nat.le_of_ble_eq_true rfl) dX4_init_58 (fun H locs hP hD hS => ?_)
  have hP : va_P (dC, dI) vwCl ([(o, .inr (4, [.ref q1, .ref q2, .ref q3, .ref q4, .ref q5, .ref q6, .ref q7, .int 0, .int 0, .int 0]))] ++ ([(q1, .inl (cI, 22, .inl (fun _ => 0)))] ++ ([(q2, .inl (cI, 22, .inl (fun _ => 0)))] ++ ([(q3, .inl (cZ, 22, .inl (fun _ => 0)))] ++ ([(q4, .inl (cI, 22, .inl (fun _ => 0)))] ++ ([(q5, .inl (cI, 12, .inl (fun _ => 0)))] ++ ([(q6, .inl (cI, 12, .inl (fun _ => 0)))] ++ ([(q7, .inl (cI, 264, .inl (fun _ => 0)))])))))))) H := hP
  have hD : va_D A ([(o, .inr (4, [.ref q1, .ref q2, .ref q3, .ref q4, .ref q5, .ref q6, .ref q7, .int 0, .int 0, .int 0]))] ++ ([(q1, .inl (cI, 22, .inl (fun _ => 0)))] ++ ([(q2, .inl (cI, 22, .inl (fun _ => 0)))] ++ ([(q3, .inl (cZ, 22, .inl (fun _ => 0)))] ++ ([(q4, .inl (cI, 22, .inl (fun _ => 0)))] ++ ([(q5, .inl (cI, 12, .inl (fun _ => 0)))] ++ ([(q6, .inl (cI, 12, .inl (fun _ => 0)))] ++ ([(q7, .inl (cI, 264, .inl (fun _ => 0)))])))))))) := hD
  refine lv_aload_n hx hb dX4_init_61 rfl (lv_at hl 0 rfl) ?_
  refine lv_iconst (v := 0) hx hb dX4_init_62 (by decide) ?_
  refine va_put (D := (dC, dI)) (ci := 4) (v := .int 0) (ty := .int) (C := RX4) (T := TX4) (N := 10) hx hb hts qX4_init_iX4 tyX4 tyX4_ok nmX4 hown hK hP hD hS 0 rfl rfl 7 (by decide) (hts _ qX4_init_f34) (fun _ h9 => h9) rfl (by decide +kernel) rfl rfl (Nat.le_of_ble_eq_true rfl) dX4_init_63 (fun H locs hP hD hS => ?_)
  have hP : va_P (dC, dI) vwCl ([(o, .inr (4, [.ref q1, .ref q2, .ref q3, .ref q4, .ref q5, .ref q6, .ref q7, .int 0, .int 0, .int 0]))] ++ ([(q1, .inl (cI, 22, .inl (fun _ => 0)))] ++ ([(q2, .inl (cI, 22, .inl (fun _ => 0)))] ++ ([(q3, .inl (cZ, 22, .inl (fun _ => 0)))] ++ ([(q4, .inl (cI, 22, .inl (fun _ => 0)))] ++ ([(q5, .inl (cI, 12, .inl (fun _ => 0)))] ++ ([(q6, .inl (cI, 12, .inl (fun _ => 0)))] ++ ([(q7, .inl (cI, 264, .inl (fun _ => 0)))])))))))) H := hP
  have hD : va_D A ([(o, .inr (4, [.ref q1, .ref q2, .ref q3, .ref q4, .ref q5, .ref q6, .ref q7, .int 0, .int 0, .int 0]))] ++ ([(q1, .inl (cI, 22, .inl (fun _ => 0)))] ++ ([(q2, .inl (cI, 22, .inl (fun _ => 0)))] ++ ([(q3, .inl (cZ, 22, .inl (fun _ => 0)))] ++ ([(q4, .inl (cI, 22, .inl (fun _ => 0)))] ++ ([(q5, .inl (cI, 12, .inl (fun _ => 0)))] ++ ([(q6, .inl (cI, 12, .inl (fun _ => 0)))] ++ ([(q7, .inl (cI, 264, .inl (fun _ => 0)))])))))))) := hD
  refine lv_aload_n hx hb dX4_init_66 rfl (lv_at hl 0 rfl) ?_
  refine lv_iconst (v := 0) hx hb dX4_init_67 (by decide) ?_
  refine va_put (D := (dC, dI)) (ci := 4) (v := .int 0) (ty := .int) (C := RX4) (T := TX4) (N := 10) hx hb hts qX4_init_iX4 tyX4 tyX4_ok nmX4 hown hK hP hD hS 0 rfl rfl 8 (by decide) (hts _ qX4_init_f38) (fun _ h9 => h9) rfl (by decide +kernel) rfl rfl (Nat.le_of_ble_eq_true rfl) dX4_init_68 (fun H locs hP hD hS => ?_)
  have hP : va_P (dC, dI) vwCl ([(o, .inr (4, [.ref q1, .ref q2, .ref q3, .ref q4, .ref q5, .ref q6, .ref q7, .int 0, .int 0, .int 0]))] ++ ([(q1, .inl (cI, 22, .inl (fun _ => 0)))] ++ ([(q2, .inl (cI, 22, .inl (fun _ => 0)))] ++ ([(q3, .inl (cZ, 22, .inl (fun _ => 0)))] ++ ([(q4, .inl (cI, 22, .inl (fun _ => 0)))] ++ ([(q5, .inl (cI, 12, .inl (fun _ => 0)))] ++ ([(q6, .inl (cI, 12, .inl (fun _ => 0)))] ++ ([(q7, .inl (cI, 264, .inl (fun _ => 0)))])))))))) H := hP
  have hD : va_D A ([(o, .inr (4, [.ref q1, .ref q2, .ref q3, .ref q4, .ref q5, .ref q6, .ref q7, .int 0, .int 0, .int 0]))] ++ ([(q1, .inl (cI, 22, .inl (fun _ => 0)))] ++ ([(q2, .inl (cI, 22, .inl (fun _ => 0)))] ++ ([(q3, .inl (cZ, 22, .inl (fun _ => 0)))] ++ ([(q4, .inl (cI, 22, .inl (fun _ => 0)))] ++ ([(q5, .inl (cI, 12, .inl (fun _ => 0)))] ++ ([(q6, .inl (cI, 12, .inl (fun _ => 0)))] ++ ([(q7, .inl (cI, 264, .inl (fun _ => 0)))])))))))) := hD
  refine lv_aload_n hx hb dX4_init_71 rfl (lv_at hl 0 rfl) ?_
  refine lv_iconst (v := (-1)) hx hb dX4_init_72 (by decide) ?_
  refine va_put (D := (dC, dI)) (ci := 4) (v := .int (-1)) (ty := .int) (C := RX4) (T := TX4) (N := 10) hx hb hts qX4_init_iX4 tyX4 tyX4_ok nmX4 hown hK hP hD hS 0 rfl rfl 9 (by decide) (hts _ qX4_init_f41) (fun _ h9 => h9) rfl (by decide +kernel) rfl rfl (Nat.le_of_ble_eq_true rfl) dX4_init_73 (fun H locs hP hD hS => ?_)
  have hP : va_P (dC, dI) vwCl ([(o, .inr (4, [.ref q1, .ref q2, .ref q3, .ref q4, .ref q5, .ref q6, .ref q7, .int 0, .int 0, .int (-1)]))] ++ ([(q1, .inl (cI, 22, .inl (fun _ => 0)))] ++ ([(q2, .inl (cI, 22, .inl (fun _ => 0)))] ++ ([(q3, .inl (cZ, 22, .inl (fun _ => 0)))] ++ ([(q4, .inl (cI, 22, .inl (fun _ => 0)))] ++ ([(q5, .inl (cI, 12, .inl (fun _ => 0)))] ++ ([(q6, .inl (cI, 12, .inl (fun _ => 0)))] ++ ([(q7, .inl (cI, 264, .inl (fun _ => 0)))])))))))) H := hP
  have hD : va_D A ([(o, .inr (4, [.ref q1, .ref q2, .ref q3, .ref q4, .ref q5, .ref q6, .ref q7, .int 0, .int 0, .int (-1)]))] ++ ([(q1, .inl (cI, 22, .inl (fun _ => 0)))] ++ ([(q2, .inl (cI, 22, .inl (fun _ => 0)))] ++ ([(q3, .inl (cZ, 22, .inl (fun _ => 0)))] ++ ([(q4, .inl (cI, 22, .inl (fun _ => 0)))] ++ ([(q5, .inl (cI, 12, .inl (fun _ => 0)))] ++ ([(q6, .inl (cI, 12, .inl (fun _ => 0)))] ++ ([(q7, .inl (cI, 264, .inl (fun _ => 0)))])))))))) := hD
  have hP9 : va_P (dC, dI) vwCl (wX4 o (dk_ad [q1, q2, q3, q4, q5, q6, q7, 0, 0, 0]) cI cJ cZ (fun _ => 0) (fun _ => 0) (fun _ => 0) (fun _ => 0) (fun _ => 0) (fun _ => 0) (fun _ => 0) 0 0 (-1)) H := hP.sub [0, 1, 2, 3, 4, 5, 6, 7] rfl
  have hD9 : va_D A (wX4 o (dk_ad [q1, q2, q3, q4, q5, q6, q7, 0, 0, 0]) cI cJ cZ (fun _ => 0) (fun _ => 0) (fun _ => 0) (fun _ => 0) (fun _ => 0) (fun _ => 0) (fun _ => 0) 0 0 (-1)) := hD.sub [0, 1, 2, 3, 4, 5, 6, 7] (by decide) rfl
  exact dk_uret (wn := fun u : (Nat → Nat) => wX4 o u cI cJ cZ (fun _ => 0) (fun _ => 0) (fun _ => 0) (fun _ => 0) (fun _ => 0) (fun _ => 0) (fun _ => 0) 0 0 (-1)) (dk_ad [q1, q2, q3, q4, q5, q6, q7, 0, 0, 0]) C hK hP9 hD9 hS dX4_init_76
/-! ===== SquareTiler$Squares() ===== -/
abbrev rX5_init : Room := { frames := 1, cells := 3, slots := 63, locals := 20 }
def ovX5_init : List Cond := [Cond.methodLink RX5 3 objectInit, Cond.instanceMethod objectInit, Cond.code objectInit ⟨#[0xb1]⟩ 1 none, Cond.arrayClass .int, Cond.fieldLink RX5 9 "SquareTiler$Squares" "left" "[I", Cond.fieldLink RX5 15 "SquareTiler$Squares" "low" "[I", Cond.fieldLink RX5 18 "SquareTiler$Squares" "side" "[I", Cond.fieldLink RX5 21 "SquareTiler$Squares" "howMany" "I"]
def vsX5_init : List Cond := .code yX5_init cX5_init 1 none :: (ovX5_init ++ (wsX50 ++ []))
theorem qX5_init_o1 : Cond.methodLink RX5 3 objectInit ∈ vsX5_init := List.mem_cons_of_mem _ (List.mem_append_left _ (List.mem_of_getElem? (i := 0) rfl))
theorem qX5_init_o2 : Cond.instanceMethod objectInit ∈ vsX5_init := List.mem_cons_of_mem _ (List.mem_append_left _ (List.mem_of_getElem? (i := 1) rfl))
theorem qX5_init_o3 : Cond.code objectInit ⟨#[0xb1]⟩ 1 none ∈ vsX5_init := List.mem_cons_of_mem _ (List.mem_append_left _ (List.mem_of_getElem? (i := 2) rfl))
theorem qX5_init_aI : Cond.arrayClass .int ∈ vsX5_init := List.mem_cons_of_mem _ (List.mem_append_left _ (List.mem_of_getElem? (i := 3) rfl))
theorem qX5_init_f9 : Cond.fieldLink RX5 9 "SquareTiler$Squares" "left" "[I" ∈ vsX5_init := List.mem_cons_of_mem _ (List.mem_append_left _ (List.mem_of_getElem? (i := 4) rfl))
theorem qX5_init_f15 : Cond.fieldLink RX5 15 "SquareTiler$Squares" "low" "[I" ∈ vsX5_init := List.mem_cons_of_mem _ (List.mem_append_left _ (List.mem_of_getElem? (i := 5) rfl))
theorem qX5_init_f18 : Cond.fieldLink RX5 18 "SquareTiler$Squares" "side" "[I" ∈ vsX5_init := List.mem_cons_of_mem _ (List.mem_append_left _ (List.mem_of_getElem? (i := 6) rfl))
theorem qX5_init_f21 : Cond.fieldLink RX5 21 "SquareTiler$Squares" "howMany" "I" ∈ vsX5_init := List.mem_cons_of_mem _ (List.mem_append_left _ (List.mem_of_getElem? (i := 7) rfl))
theorem qX5_init_iX5 : ∀ w ∈ u_ws RX5 TX5 4, w ∈ vsX5_init := fun w h => List.mem_cons_of_mem _ (List.mem_append_right _ (List.mem_append_left _ h))
theorem gd_vsX5_init : ∀ w ∈ vsX5_init, goodWord w = true := dk_cons rfl (dk_app (dk_all (by decide +kernel)) (dk_app gd_wsX50 dk_nil))
set_option maxHeartbeats 4000000 in
set_option maxRecDepth 100000 in
theorem mX5_init (l : Launch) (dC : Nat → ClassId) (dI : Nat → Nat → Nat) (cI cJ cZ : ClassId) {o : Nat} (sz : Nat) : Met l yX5_init vsX5_init rX5_init (va_Pc [.ref o] (dk_PreN (dC, dI) (dk_ty cI cJ cZ) [(o, .inr (5, [.null, .null, .null, .int 0]))] sz)) (dk_Qu (dC, dI) (dk_ty cI cJ cZ) (fun u : (Nat → Nat) => wX5 o u cI cJ cZ (fun _ => 0) (fun _ => 0) (fun _ => 0) 0) (va_A [(o, .inr (5, [.null, .null, .null, .int 0]))] sz)) 3 63 (va_A [(o, .inr (5, [.null, .null, .null, .int 0]))] sz) := by
  refine dk_metN (cc := cX5_init) (maxL := 1) (ret := none) (Qc := fun A => dk_Qu (dC, dI) (dk_ty cI cJ cZ) (fun u : (Nat → Nat) => wX5 o u cI cJ cZ (fun _ => 0) (fun _ => 0) (fun _ => 0) 0) A) (by decide) rfl (Nat.le_of_ble_eq_true rfl) ?_
  intro p e s m below meth c A C hnm hN hA hK hP hD hS ls hl
  have C : dk_C p s m meth c _ cX5_init none 1 RX5 vsX5_init := C
  obtain ⟨hx, hb, hr, hml, hown, hts, hlocks⟩ := id C
  have hin : meth.name = "<init>" := hnm
  have hl : lv_has ls 1 [(0, .ref o)] := hl
  refine lv_aload_n hx hb dX5_init_0 rfl (lv_at hl 0 rfl) ?_
  refine W.objInit hx hb hown (hts (.methodLink RX5 3 objectInit) qX5_init_o1) (hts (.instanceMethod objectInit) qX5_init_o2) (hts _ qX5_init_o3) rfl (by rw [hml]; exact hl.1) rfl dX5_init_1 (Nat.le_of_ble_eq_true rfl) (Nat.le_of_ble_eq_true rfl) ?_
  refine W.eq (g2 := F0 m 4 ls []) rfl ?_
  refine lv_aload_n hx hb dX5_init_4 rfl (lv_at hl 0 rfl) ?_
  refine lv_bipush (v := 21) hx hb dX5_init_5 (by decide) ?_
  refine dk_newI (N' := 21) hx hb (hts (.arrayClass .int) qX5_init_aI) hK hP hD hS hA (by decide) (by decide) (by decide) (Nat.le_of_ble_eq_true rfl) (Nat.le_of_ble_eq_true rfl) dX5_init_7 (fun q1 H hP hD hS => ?_)
  have hP : va_P (dC, dI) vwCl ([(o, .inr (5, [.null, .null, .null, .int 0]))] ++ ([(q1, .inl (cI, 21, .inl (fun _ => 0)))])) H := hP
  have hD : va_D A ([(o, .inr (5, [.null, .null, .null, .int 0]))] ++ ([(q1, .inl (cI, 21, .inl (fun _ => 0)))])) := hD
  refine W.widen (k := 1) (n := 21) (by decide) (by decide) ?_
  refine va_putF (D := (dC, dI)) (ci := 5) (v := .ref q1) (ty := .array .int) (C := RX5) (T := TX5) (N := 4) hx hb hts qX5_init_iX5 tyX5 tyX5_ok nmX5 hown hK hP hD hS 0 rfl rfl 0 (by decide) (hts _ qX5_init_f9) (fun _ h9 => h9) rfl hin rfl (by decide +kernel) rfl rfl (Nat.le_of_ble_eq_true rfl) dX5_init_9 (fun H locs hP hD hS => ?_)
  have hP : va_P (dC, dI) vwCl ([(o, .inr (5, [.ref q1, .null, .null, .int 0]))] ++ ([(q1, .inl (cI, 21, .inl (fun _ => 0)))])) H := hP
  have hD : va_D A ([(o, .inr (5, [.ref q1, .null, .null, .int 0]))] ++ ([(q1, .inl (cI, 21, .inl (fun _ => 0)))])) := hD
  refine lv_aload_n hx hb dX5_init_12 rfl (lv_at hl 0 rfl) ?_
  refine lv_bipush (v := 21) hx hb dX5_init_13 (by decide) ?_
  refine dk_newI (N' := 21) hx hb (hts (.arrayClass .int) qX5_init_aI) hK hP hD hS hA (by decide) (by decide) (by decide) (Nat.le_of_ble_eq_true rfl) (Nat.le_of_ble_eq_true rfl) dX5_init_15 (fun q2 H hP hD hS => ?_)
  have hP : va_P (dC, dI) vwCl ([(o, .inr (5, [.ref q1, .null, .null, .int 0]))] ++ ([(q1, .inl (cI, 21, .inl (fun _ => 0)))] ++ ([(q2, .inl (cI, 21, .inl (fun _ => 0)))]))) H := hP
  have hD : va_D A ([(o, .inr (5, [.ref q1, .null, .null, .int 0]))] ++ ([(q1, .inl (cI, 21, .inl (fun _ => 0)))] ++ ([(q2, .inl (cI, 21, .inl (fun _ => 0)))]))) := hD
  refine W.widen (k := 2) (n := 42) (by decide) (by decide) ?_
  refine va_putF (D := (dC, dI)) (ci := 5) (v := .ref q2) (ty := .array .int) (C := RX5) (T := TX5) (N := 4) hx hb hts qX5_init_iX5 tyX5 tyX5_ok nmX5 hown hK hP hD hS 0 rfl rfl 1 (by decide) (hts _ qX5_init_f15) (fun _ h9 => h9) rfl hin rfl (by decide +kernel) rfl rfl (Nat.le_of_ble_eq_true rfl) dX5_init_17 (fun H locs hP hD hS => ?_)
  have hP : va_P (dC, dI) vwCl ([(o, .inr (5, [.ref q1, .ref q2, .null, .int 0]))] ++ ([(q1, .inl (cI, 21, .inl (fun _ => 0)))] ++ ([(q2, .inl (cI, 21, .inl (fun _ => 0)))]))) H := hP
  have hD : va_D A ([(o, .inr (5, [.ref q1, .ref q2, .null, .int 0]))] ++ ([(q1, .inl (cI, 21, .inl (fun _ => 0)))] ++ ([(q2, .inl (cI, 21, .inl (fun _ => 0)))]))) := hD
  refine lv_aload_n hx hb dX5_init_20 rfl (lv_at hl 0 rfl) ?_
  refine lv_bipush (v := 21) hx hb dX5_init_21 (by decide) ?_
  refine dk_newI (N' := 21) hx hb (hts (.arrayClass .int) qX5_init_aI) hK hP hD hS hA (by decide) (by decide) (by decide) (Nat.le_of_ble_eq_true rfl) (Nat.le_of_ble_eq_true rfl) dX5_init_23 (fun q3 H hP hD hS => ?_)
  have hP : va_P (dC, dI) vwCl ([(o, .inr (5, [.ref q1, .ref q2, .null, .int 0]))] ++ ([(q1, .inl (cI, 21, .inl (fun _ => 0)))] ++ ([(q2, .inl (cI, 21, .inl (fun _ => 0)))] ++ ([(q3, .inl (cI, 21, .inl (fun _ => 0)))])))) H := hP
  have hD : va_D A ([(o, .inr (5, [.ref q1, .ref q2, .null, .int 0]))] ++ ([(q1, .inl (cI, 21, .inl (fun _ => 0)))] ++ ([(q2, .inl (cI, 21, .inl (fun _ => 0)))] ++ ([(q3, .inl (cI, 21, .inl (fun _ => 0)))])))) := hD
  refine W.widen (k := 3) (n := 63) (by decide) (by decide) ?_
  refine va_putF (D := (dC, dI)) (ci := 5) (v := .ref q3) (ty := .array .int) (C := RX5) (T := TX5) (N := 4) hx hb hts qX5_init_iX5 tyX5 tyX5_ok nmX5 hown hK hP hD hS 0 rfl rfl 2 (by decide) (hts _ qX5_init_f18) (fun _ h9 => h9) rfl hin rfl (by decide +kernel) rfl rfl (Nat.le_of_ble_eq_true rfl) dX5_init_25 (fun H locs hP hD hS => ?_)
  have hP : va_P (dC, dI) vwCl ([(o, .inr (5, [.ref q1, .ref q2, .ref q3, .int 0]))] ++ ([(q1, .inl (cI, 21, .inl (fun _ => 0)))] ++ ([(q2, .inl (cI, 21, .inl (fun _ => 0)))] ++ ([(q3, .inl (cI, 21, .inl (fun _ => 0)))])))) H := hP
  have hD : va_D A ([(o, .inr (5, [.ref q1, .ref q2, .ref q3, .int 0]))] ++ ([(q1, .inl (cI, 21, .inl (fun _ => 0)))] ++ ([(q2, .inl (cI, 21, .inl (fun _ => 0)))] ++ ([(q3, .inl (cI, 21, .inl (fun _ => 0)))])))) := hD
  refine lv_aload_n hx hb dX5_init_28 rfl (lv_at hl 0 rfl) ?_
  refine lv_iconst (v := 0) hx hb dX5_init_29 (by decide) ?_
  refine va_put (D := (dC, dI)) (ci := 5) (v := .int 0) (ty := .int) (C := RX5) (T := TX5) (N := 4) hx hb hts qX5_init_iX5 tyX5 tyX5_ok nmX5 hown hK hP hD hS 0 rfl rfl 3 (by decide) (hts _ qX5_init_f21) (fun _ h9 => h9) rfl (by decide +kernel) rfl rfl (Nat.le_of_ble_eq_true rfl) dX5_init_30 (fun H locs hP hD hS => ?_)
  have hP : va_P (dC, dI) vwCl ([(o, .inr (5, [.ref q1, .ref q2, .ref q3, .int 0]))] ++ ([(q1, .inl (cI, 21, .inl (fun _ => 0)))] ++ ([(q2, .inl (cI, 21, .inl (fun _ => 0)))] ++ ([(q3, .inl (cI, 21, .inl (fun _ => 0)))])))) H := hP
  have hD : va_D A ([(o, .inr (5, [.ref q1, .ref q2, .ref q3, .int 0]))] ++ ([(q1, .inl (cI, 21, .inl (fun _ => 0)))] ++ ([(q2, .inl (cI, 21, .inl (fun _ => 0)))] ++ ([(q3, .inl (cI, 21, .inl (fun _ => 0)))])))) := hD
  have hP9 : va_P (dC, dI) vwCl (wX5 o (dk_ad [q1, q2, q3, 0]) cI cJ cZ (fun _ => 0) (fun _ => 0) (fun _ => 0) 0) H := hP.sub [0, 1, 2, 3] rfl
  have hD9 : va_D A (wX5 o (dk_ad [q1, q2, q3, 0]) cI cJ cZ (fun _ => 0) (fun _ => 0) (fun _ => 0) 0) := hD.sub [0, 1, 2, 3] (by decide) rfl
  exact dk_uret (wn := fun u : (Nat → Nat) => wX5 o u cI cJ cZ (fun _ => 0) (fun _ => 0) (fun _ => 0) 0) (dk_ad [q1, q2, q3, 0]) C hK hP9 hD9 hS dX5_init_33

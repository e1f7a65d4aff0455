/-! ===== SquareTiler$Laying() ===== -/
abbrev rX2_init : Room := { frames := 2, cells := 5, slots := 88, locals := 40 }
def ovX2_init : List Cond := [Cond.methodLink RX2 3 objectInit, Cond.instanceMethod objectInit, Cond.code objectInit ⟨#[0xb1]⟩ 1 none, Cond.classLink RX2 9 RX5, Cond.instantiable RX5 4, Cond.initialized RX5, Cond.instanceMethod yX5_init, Cond.fieldLink RX2 12 "SquareTiler$Laying" "squares" "LSquareTiler$Squares;", Cond.arrayClass .int, Cond.fieldLink RX2 18 "SquareTiler$Laying" "wireOf" "[I", Cond.fieldLink RX2 22 "SquareTiler$Laying" "hasIdleWire" "Z", Cond.fieldLink RX2 26 "SquareTiler$Laying" "innerSet" "I", Cond.fieldLink RX2 30 "SquareTiler$Laying" "innerSize" "I", Cond.fieldLink RX2 33 "SquareTiler$Laying" "innerLeft" "I", Cond.fieldLink RX2 36 "SquareTiler$Laying" "innerLow" "I", Cond.fieldLink RX2 39 "SquareTiler$Laying" "innerWide" "I"]
def vsX2_init : List Cond := .code yX2_init cX2_init 1 none :: (ovX2_init ++ (wsX50 ++ (wsX20 ++ (vsX5_init ++ []))))
theorem qX2_init_o1 : Cond.methodLink RX2 3 objectInit ∈ vsX2_init := List.mem_cons_of_mem _ (List.mem_append_left _ (List.mem_of_getElem? (i := 0) rfl))
theorem qX2_init_o2 : Cond.instanceMethod objectInit ∈ vsX2_init := List.mem_cons_of_mem _ (List.mem_append_left _ (List.mem_of_getElem? (i := 1) rfl))
theorem qX2_init_o3 : Cond.code objectInit ⟨#[0xb1]⟩ 1 none ∈ vsX2_init := List.mem_cons_of_mem _ (List.mem_append_left _ (List.mem_of_getElem? (i := 2) rfl))
theorem qX2_init_cl9 : Cond.classLink RX2 9 RX5 ∈ vsX2_init := List.mem_cons_of_mem _ (List.mem_append_left _ (List.mem_of_getElem? (i := 3) rfl))
theorem qX2_init_inX5 : Cond.instantiable RX5 4 ∈ vsX2_init := List.mem_cons_of_mem _ (List.mem_append_left _ (List.mem_of_getElem? (i := 4) rfl))
theorem qX2_init_itX5 : Cond.initialized RX5 ∈ vsX2_init := List.mem_cons_of_mem _ (List.mem_append_left _ (List.mem_of_getElem? (i := 5) rfl))
theorem qX2_init_imX5 : Cond.instanceMethod yX5_init ∈ vsX2_init := List.mem_cons_of_mem _ (List.mem_append_left _ (List.mem_of_getElem? (i := 6) rfl))
theorem qX2_init_f12 : Cond.fieldLink RX2 12 "SquareTiler$Laying" "squares" "LSquareTiler$Squares;" ∈ vsX2_init := List.mem_cons_of_mem _ (List.mem_append_left _ (List.mem_of_getElem? (i := 7) rfl))
theorem qX2_init_aI : Cond.arrayClass .int ∈ vsX2_init := List.mem_cons_of_mem _ (List.mem_append_left _ (List.mem_of_getElem? (i := 8) rfl))
theorem qX2_init_f18 : Cond.fieldLink RX2 18 "SquareTiler$Laying" "wireOf" "[I" ∈ vsX2_init := List.mem_cons_of_mem _ (List.mem_append_left _ (List.mem_of_getElem? (i := 9) rfl))
theorem qX2_init_f22 : Cond.fieldLink RX2 22 "SquareTiler$Laying" "hasIdleWire" "Z" ∈ vsX2_init := List.mem_cons_of_mem _ (List.mem_append_left _ (List.mem_of_getElem? (i := 10) rfl))
theorem qX2_init_f26 : Cond.fieldLink RX2 26 "SquareTiler$Laying" "innerSet" "I" ∈ vsX2_init := List.mem_cons_of_mem _ (List.mem_append_left _ (List.mem_of_getElem? (i := 11) rfl))
theorem qX2_init_f30 : Cond.fieldLink RX2 30 "SquareTiler$Laying" "innerSize" "I" ∈ vsX2_init := List.mem_cons_of_mem _ (List.mem_append_left _ (List.mem_of_getElem? (i := 12) rfl))
theorem qX2_init_f33 : Cond.fieldLink RX2 33 "SquareTiler$Laying" "innerLeft" "I" ∈ vsX2_init := List.mem_cons_of_mem _ (List.mem_append_left _ (List.mem_of_getElem? (i := 13) rfl))
theorem qX2_init_f36 : Cond.fieldLink RX2 36 "SquareTiler$Laying" "innerLow" "I" ∈ vsX2_init := List.mem_cons_of_mem _ (List.mem_append_left _ (List.mem_of_getElem? (i := 14) rfl))
theorem qX2_init_f39 : Cond.fieldLink RX2 39 "SquareTiler$Laying" "innerWide" "I" ∈ vsX2_init := List.mem_cons_of_mem _ (List.mem_append_left _ (List.mem_of_getElem? (i := 15) rfl))
theorem qX2_init_iX5 : ∀ w ∈ u_ws RX5 TX5 4, w ∈ vsX2_init := fun w h => List.mem_cons_of_mem _ (List.mem_append_right _ (List.mem_append_left _ h))
theorem qX2_init_iX2 : ∀ w ∈ u_ws RX2 TX2 8, w ∈ vsX2_init := fun w h => List.mem_cons_of_mem _ (List.mem_append_right _ (List.mem_append_right _ (List.mem_append_left _ h)))
theorem gd_vsX2_init : ∀ w ∈ vsX2_init, goodWord w = true := dk_cons rfl (dk_app (dk_all (by decide +kernel)) (dk_app gd_wsX50 (dk_app gd_wsX20 (dk_app gd_vsX5_init dk_nil))))
theorem gvX2_init_X5_init : GoodIn vsX2_init vsX5_init := dk_gIn (fun w h => List.mem_cons_of_mem _ (List.mem_append_right _ (List.mem_append_right _ (List.mem_append_right _ (List.mem_append_left _ h))))) gd_vsX5_init
set_option maxHeartbeats 4000000 in
set_option maxRecDepth 100000 in
theorem mX2_init (l : Launch) (dC : Nat → ClassId) (dI : Nat → Nat → Nat) (cI cJ cZ : ClassId) {o : Nat} (sz : Nat) : Met l yX2_init vsX2_init rX2_init (va_Pc [.ref o] (dk_PreN (dC, dI) (dk_ty cI cJ cZ) [(o, .inr (2, [.null, .null, .int 0, .int 0, .int 0, .int 0, .int 0, .int 0]))] sz)) (dk_Qu (dC, dI) (dk_ty cI cJ cZ) (fun u : ((Nat → Nat) × Nat × (Nat → Nat)) => (wX2 o u.1 cI cJ cZ u.2.1 (fun _ => 0) 0 0 0 0 0 0 ++ wX5 u.2.1 u.2.2 cI cJ cZ (fun _ => 0) (fun _ => 0) (fun _ => 0) 0)) (va_A [(o, .inr (2, [.null, .null, .int 0, .int 0, .int 0, .int 0, .int 0, .int 0]))] sz)) 5 88 (va_A [(o, .inr (2, [.null, .null, .int 0, .int 0, .int 0, .int 0, .int 0, .int 0]))] sz) := by
  refine dk_metN (cc := cX2_init) (maxL := 1) (ret := none) (Qc := fun A => dk_Qu (dC, dI) (dk_ty cI cJ cZ) (fun u : ((Nat → Nat) × Nat × (Nat → Nat)) => (wX2 o u.1 cI cJ cZ u.2.1 (fun _ => 0) 0 0 0 0 0 0 ++ wX5 u.2.1 u.2.2 cI cJ cZ (fun _ => 0) (fun _ => 0) (fun _ => 0) 0)) A) (by decide) rfl (Nat.le_of_ble_eq_true rfl) ?_
  intro p e s m below meth c A C hnm hN hA hK hP hD hS ls hl
  have C : dk_C p s m meth c _ cX2_init none 1 RX2 vsX2_init := C
  obtain ⟨hx, hb, hr, hml, hown, hts, hlocks⟩ := id C
  have hin : meth.name = "<init>" := hnm
  have hl : lv_has ls 1 [(0, .ref o)] := hl
  refine lv_aload_n hx hb dX2_init_0 rfl (lv_at hl 0 rfl) ?_
  refine W.objInit hx hb hown (hts (.methodLink RX2 3 objectInit) qX2_init_o1) (hts (.instanceMethod objectInit) qX2_init_o2) (hts _ qX2_init_o3) rfl (by rw [hml]; exact hl.1) rfl dX2_init_1 (Nat.le_of_ble_eq_true rfl) (Nat.le_of_ble_eq_true rfl) ?_
  refine W.eq (g2 := F0 m 4 ls []) rfl ?_
  refine lv_aload_n hx hb dX2_init_4 rfl (lv_at hl 0 rfl) ?_
  refine va_new (ci := 5) (fs := [.null, .null, .null, .int 0]) (C := RX5) (T := TX5) (N := 4) hx hb hts qX2_init_iX5 tyX5 tyX5_ok hown (hts (.classLink RX2 9 RX5) qX2_init_cl9) (hts (.instantiable RX5 4) qX2_init_inX5) (hts (.initialized RX5) qX2_init_itX5) hK hP hD hS hA rfl (fun j hj => by rcases (show j = 0 ∨ j = 1 ∨ j = 2 ∨ j = 3 by omega) with rfl | rfl | rfl | rfl <;> rfl) (Nat.le_of_ble_eq_true rfl) (Nat.le_of_ble_eq_true rfl) dX2_init_5 (fun q1 H hP hD hS => ?_)
  have hP : va_P (dC, dI) vwCl (([(o, .inr (2, [.null, .null, .int 0, .int 0, .int 0, .int 0, .int 0, .int 0]))]) ++ ([(q1, .inr (5, [.null, .null, .null, .int 0]))] ++ [])) H := hP
  have hD : va_D A (([(o, .inr (2, [.null, .null, .int 0, .int 0, .int 0, .int 0, .int 0, .int 0]))]) ++ ([(q1, .inr (5, [.null, .null, .null, .int 0]))] ++ [])) := hD
  refine W.widen (k := 1) (n := 4) (by decide) (by decide) ?_
  refine lv_dup hx hb dX2_init_8 rfl ?_
  refine dk_cIN (b := q1) (rest := [.ref q1, .ref o]) (wa := ([(o, .inr (2, [.null, .null, .int 0, .int 0, .int 0, .int 0, .int 0, .int 0]))])) (wb := []) (wc := [(q1, .inr (5, [.null, .null, .null, .int 0]))]) C hN hK hP hD hS hA (mX5_init l dC dI cI cJ cZ _) ⟨va_cnB 0 hts gvX2_init_X5_init rfl rfl rfl (hN _ (List.mem_of_getElem? (i := 6) rfl)) (hts _ qX2_init_itX5) (by decide +kernel) ⟨Nat.le_of_ble_eq_true rfl, Nat.le_of_ble_eq_true rfl⟩, rfl, hts _ qX2_init_imX5⟩ hl.1 rfl (Nat.le_of_ble_eq_true rfl) ⟨Nat.le_of_ble_eq_true rfl, Nat.le_of_ble_eq_true rfl⟩ dX2_init_9 (fun u2 H locs hP hD hS => ?_)
  have hP : va_P (dC, dI) vwCl ([(o, .inr (2, [.null, .null, .int 0, .int 0, .int 0, .int 0, .int 0, .int 0]))] ++ ((wX5 q1 u2 cI cJ cZ (fun _ => 0) (fun _ => 0) (fun _ => 0) 0))) H := hP
  have hD : va_D A ([(o, .inr (2, [.null, .null, .int 0, .int 0, .int 0, .int 0, .int 0, .int 0]))] ++ ((wX5 q1 u2 cI cJ cZ (fun _ => 0) (fun _ => 0) (fun _ => 0) 0))) := hD
  refine W.widen (k := 4) (n := 67) (by decide) (by decide) ?_
  refine va_putF (D := (dC, dI)) (ci := 2) (v := .ref q1) (ty := .object "SquareTiler$Squares") (C := RX2) (T := TX2) (N := 8) hx hb hts qX2_init_iX2 tyX2 tyX2_ok nmX2 hown hK hP hD hS 0 rfl rfl 0 (by decide) (hts _ qX2_init_f12) (fun _ h9 => h9) rfl hin rfl (by decide +kernel) rfl rfl (Nat.le_of_ble_eq_true rfl) dX2_init_12 (fun H locs hP hD hS => ?_)
  have hP : va_P (dC, dI) vwCl ([(o, .inr (2, [.ref q1, .null, .int 0, .int 0, .int 0, .int 0, .int 0, .int 0]))] ++ ((wX5 q1 u2 cI cJ cZ (fun _ => 0) (fun _ => 0) (fun _ => 0) 0))) H := hP
  have hD : va_D A ([(o, .inr (2, [.ref q1, .null, .int 0, .int 0, .int 0, .int 0, .int 0, .int 0]))] ++ ((wX5 q1 u2 cI cJ cZ (fun _ => 0) (fun _ => 0) (fun _ => 0) 0))) := hD
  refine lv_aload_n hx hb dX2_init_15 rfl (lv_at hl 0 rfl) ?_
  refine lv_bipush (v := 21) hx hb dX2_init_16 (by decide) ?_
  refine dk_newI (N' := 21) hx hb (hts (.arrayClass .int) qX2_init_aI) hK hP hD hS hA (by decide) (by decide) (by decide) (Nat.le_of_ble_eq_true rfl) (Nat.le_of_ble_eq_true rfl) dX2_init_18 (fun q3 H hP hD hS => ?_)
  have hP : va_P (dC, dI) vwCl ([(o, .inr (2, [.ref q1, .null, .int 0, .int 0, .int 0, .int 0, .int 0, .int 0]))] ++ ((wX5 q1 u2 cI cJ cZ (fun _ => 0) (fun _ => 0) (fun _ => 0) 0) ++ ([(q3, .inl (cI, 21, .inl (fun _ => 0)))]))) H := hP
  have hD : va_D A ([(o, .inr (2, [.ref q1, .null, .int 0, .int 0, .int 0, .int 0, .int 0, .int 0]))] ++ ((wX5 q1 u2 cI cJ cZ (fun _ => 0) (fun _ => 0) (fun _ => 0) 0) ++ ([(q3, .inl (cI, 21, .inl (fun _ => 0)))]))) := hD
  refine W.widen (k := 5) (n := 88) (by decide) (by decide) ?_
  refine va_putF (D := (dC, dI)) (ci := 2) (v := .ref q3) (ty := .array .int) (C := RX2) (T := TX2) (N := 8) hx hb hts qX2_init_iX2 tyX2 tyX2_ok nmX2 hown hK hP hD hS 0 rfl rfl 1 (by decide) (hts _ qX2_init_f18) (fun _ h9 => h9) rfl hin rfl (by decide +kernel) rfl rfl (Nat.le_of_ble_eq_true rfl) dX2_init_20 (fun H locs hP hD hS => ?_)
  have hP : va_P (dC, dI) vwCl ([(o, .inr (2, [.ref q1, .ref q3, .int 0, .int 0, .int 0, .int 0, .int 0, .int 0]))] ++ ((wX5 q1 u2 cI cJ cZ (fun _ => 0) (fun _ => 0) (fun _ => 0) 0) ++ ([(q3, .inl (cI, 21, .inl (fun _ => 0)))]))) H := hP
  have hD : va_D A ([(o, .inr (2, [.ref q1, .ref q3, .int 0, .int 0, .int 0, .int 0, .int 0, .int 0]))] ++ ((wX5 q1 u2 cI cJ cZ (fun _ => 0) (fun _ => 0) (fun _ => 0) 0) ++ ([(q3, .inl (cI, 21, .inl (fun _ => 0)))]))) := hD
  refine lv_aload_n hx hb dX2_init_23 rfl (lv_at hl 0 rfl) ?_
  refine lv_iconst (v := 0) hx hb dX2_init_24 (by decide) ?_
  refine va_put (D := (dC, dI)) (ci := 2) (v := .int 0) (ty := .boolean) (C := RX2) (T := TX2) (N := 8) hx hb hts qX2_init_iX2 tyX2 tyX2_ok nmX2 hown hK hP hD hS 0 rfl rfl 2 (by decide) (hts _ qX2_init_f22) (fun _ h9 => h9) rfl (by decide +kernel) (by decide +kernel) (by decide +kernel) (Nat.le_of_ble_eq_true rfl) dX2_init_25 (fun H locs hP hD hS => ?_)
  have hP : va_P (dC, dI) vwCl ([(o, .inr (2, [.ref q1, .ref q3, .int 0, .int 0, .int 0, .int 0, .int 0, .int 0]))] ++ ((wX5 q1 u2 cI cJ cZ (fun _ => 0) (fun _ => 0) (fun _ => 0) 0) ++ ([(q3, .inl (cI, 21, .inl (fun _ => 0)))]))) H := hP
  have hD : va_D A ([(o, .inr (2, [.ref q1, .ref q3, .int 0, .int 0, .int 0, .int 0, .int 0, .int 0]))] ++ ((wX5 q1 u2 cI cJ cZ (fun _ => 0) (fun _ => 0) (fun _ => 0) 0) ++ ([(q3, .inl (cI, 21, .inl (fun _ => 0)))]))) := hD
  refine lv_aload_n hx hb dX2_init_28 rfl (lv_at hl 0 rfl) ?_
  refine lv_iconst (v := 0) hx hb dX2_init_29 (by decide) ?_
  refine va_put (D := (dC, dI)) (ci := 2) (v := .int 0) (ty := .int) (C := RX2) (T := TX2) (N := 8) hx hb hts qX2_init_iX2 tyX2 tyX2_ok nmX2 hown hK hP hD hS 0 rfl rfl 3 (by decide) (hts _ qX2_init_f26) (fun _ h9 => h9) rfl (by decide +kernel) rfl rfl (Nat.le_of_ble_eq_true rfl) dX2_init_30 (fun H locs hP hD hS => ?_)
  have hP : va_P (dC, dI) vwCl ([(o, .inr (2, [.ref q1, .ref q3, .int 0, .int 0, .int 0, .int 0, .int 0, .int 0]))] ++ ((wX5 q1 u2 cI cJ cZ (fun _ => 0) (fun _ => 0) (fun _ => 0) 0) ++ ([(q3, .inl (cI, 21, .inl (fun _ => 0)))]))) H := hP
  have hD : va_D A ([(o, .inr (2, [.ref q1, .ref q3, .int 0, .int 0, .int 0, .int 0, .int 0, .int 0]))] ++ ((wX5 q1 u2 cI cJ cZ (fun _ => 0) (fun _ => 0) (fun _ => 0) 0) ++ ([(q3, .inl (cI, 21, .inl (fun _ => 0)))]))) := hD
  refine lv_aload_n hx hb dX2_init_33 rfl (lv_at hl 0 rfl) ?_
  refine lv_iconst (v := 0) hx hb dX2_init_34 (by decide) ?_
  refine va_put (D := (dC, dI)) (ci := 2) (v := .int 0) (ty := .int) (C := RX2) (T := TX2) (N := 8) hx hb hts qX2_init_iX2 tyX2 tyX2_ok nmX2 hown hK hP hD hS 0 rfl rfl 4 (by decide) (hts _ qX2_init_f30) (fun _ h9 => h9) rfl (by decide +kernel) rfl rfl (Nat.le_of_ble_eq_true rfl) dX2_init_35 (fun H locs hP hD hS => ?_)
  have hP : va_P (dC, dI) vwCl ([(o, .inr (2, [.ref q1, .ref q3, .int 0, .int 0, .int 0, .int 0, .int 0, .int 0]))] ++ ((wX5 q1 u2 cI cJ cZ (fun _ => 0) (fun _ => 0) (fun _ => 0) 0) ++ ([(q3, .inl (cI, 21, .inl (fun _ => 0)))]))) H := hP
  have hD : va_D A ([(o, .inr (2, [.ref q1, .ref q3, .int 0, .int 0, .int 0, .int 0, .int 0, .int 0]))] ++ ((wX5 q1 u2 cI cJ cZ (fun _ => 0) (fun _ => 0) (fun _ => 0) 0) ++ ([(q3, .inl (cI, 21, .inl (fun _ => 0)))]))) := hD
  refine lv_aload_n hx hb dX2_init_38 rfl (lv_at hl 0 rfl) ?_
  refine lv_iconst (v := 0) hx hb dX2_init_39 (by decide) ?_
  refine va_put (D := (dC, dI)) (ci := 2) (v := .int 0) (ty := .int) (C := RX2) (T := TX2) (N := 8) hx hb hts qX2_init_iX2 tyX2 tyX2_ok nmX2 hown hK hP hD hS 0 rfl rfl 5 (by decide) (hts _ qX2_init_f33) (fun _ h9 => h9) rfl (by decide +kernel) rfl rfl (Nat.le_of_ble_eq_true rfl) dX2_init_40 (fun H locs hP hD hS => ?_)
  have hP : va_P (dC, dI) vwCl ([(o, .inr (2, [.ref q1, .ref q3, .int 0, .int 0, .int 0, .int 0, .int 0, .int 0]))] ++ ((wX5 q1 u2 cI cJ cZ (fun _ => 0) (fun _ => 0) (fun _ => 0) 0) ++ ([(q3, .inl (cI, 21, .inl (fun _ => 0)))]))) H := hP
  have hD : va_D A ([(o, .inr (2, [.ref q1, .ref q3, .int 0, .int 0, .int 0, .int 0, .int 0, .int 0]))] ++ ((wX5 q1 u2 cI cJ cZ (fun _ => 0) (fun _ => 0) (fun _ => 0) 0) ++ ([(q3, .inl (cI, 21, .inl (fun _ => 0)))]))) := hD
  refine lv_aload_n hx hb dX2_init_43 rfl (lv_at hl 0 rfl) ?_
  refine lv_iconst (v := 0) hx hb dX2_init_44 (by decide) ?_
  refine va_put (D := (dC, dI)) (ci := 2) (v := .int 0) (ty := .int) (C := RX2) (T := TX2) (N := 8) hx hb hts qX2_init_iX2 tyX2 tyX2_ok nmX2 hown hK hP hD hS 0 rfl rfl 6 (by decide) (hts _ qX2_init_f36) (fun _ h9 => h9) rfl (by decide +kernel) rfl rfl (Nat.le_of_ble_eq_true rfl) dX2_init_45 (fun H locs hP hD hS => ?_)
  have hP : va_P (dC, dI) vwCl ([(o, .inr (2, [.ref q1, .ref q3, .int 0, .int 0, .int 0, .int 0, .int 0, .int 0]))] ++ ((wX5 q1 u2 cI cJ cZ (fun _ => 0) (fun _ => 0) (fun _ => 0) 0) ++ ([(q3, .inl (cI, 21, .inl (fun _ => 0)))]))) H := hP
  have hD : va_D A ([(o, .inr (2, [.ref q1, .ref q3, .int 0, .int 0, .int 0, .int 0, .int 0, .int 0]))] ++ ((wX5 q1 u2 cI cJ cZ (fun _ => 0) (fun _ => 0) (fun _ => 0) 0) ++ ([(q3, .inl (cI, 21, .inl (fun _ => 0)))]))) := hD
  refine lv_aload_n hx hb dX2_init_48 rfl (lv_at hl 0 rfl) ?_
  refine lv_iconst (v := 0) hx hb dX2_init_49 (by decide) ?_
  refine va_put (D := (dC, dI)) (ci := 2) (v := .int 0) (ty := .int) (C := RX2) (T := TX2) (N := 8) hx hb hts qX2_init_iX2 tyX2 tyX2_ok nmX2 hown hK hP hD hS 0 rfl rfl 7 (by decide) (hts _ qX2_init_f39) (fun _ h9 => h9) rfl (by decide +kernel) rfl rfl (Nat.le_of_ble_eq_true rfl) dX2_init_50 (fun H locs hP hD hS => ?_)
  have hP : va_P (dC, dI) vwCl ([(o, .inr (2, [.ref q1, .ref q3, .int 0, .int 0, .int 0, .int 0, .int 0, .int 0]))] ++ ((wX5 q1 u2 cI cJ cZ (fun _ => 0) (fun _ => 0) (fun _ => 0) 0) ++ ([(q3, .inl (cI, 21, .inl (fun _ => 0)))]))) H := hP
  have hD : va_D A ([(o, .inr (2, [.ref q1, .ref q3, .int 0, .int 0, .int 0, .int 0, .int 0, .int 0]))] ++ ((wX5 q1 u2 cI cJ cZ (fun _ => 0) (fun _ => 0) (fun _ => 0) 0) ++ ([(q3, .inl (cI, 21, .inl (fun _ => 0)))]))) := hD
  have hP9 : va_P (dC, dI) vwCl (wX2 o ((dk_ad [0, q3, 0, 0, 0, 0, 0, 0]), q1, u2).1 cI cJ cZ ((dk_ad [0, q3, 0, 0, 0, 0, 0, 0]), q1, u2).2.1 (fun _ => 0) 0 0 0 0 0 0 ++ wX5 ((dk_ad [0, q3, 0, 0, 0, 0, 0, 0]), q1, u2).2.1 ((dk_ad [0, q3, 0, 0, 0, 0, 0, 0]), q1, u2).2.2 cI cJ cZ (fun _ => 0) (fun _ => 0) (fun _ => 0) 0) H := hP.sub [0, 5, 1, 2, 3, 4] rfl
  have hD9 : va_D A (wX2 o ((dk_ad [0, q3, 0, 0, 0, 0, 0, 0]), q1, u2).1 cI cJ cZ ((dk_ad [0, q3, 0, 0, 0, 0, 0, 0]), q1, u2).2.1 (fun _ => 0) 0 0 0 0 0 0 ++ wX5 ((dk_ad [0, q3, 0, 0, 0, 0, 0, 0]), q1, u2).2.1 ((dk_ad [0, q3, 0, 0, 0, 0, 0, 0]), q1, u2).2.2 cI cJ cZ (fun _ => 0) (fun _ => 0) (fun _ => 0) 0) := hD.sub [0, 5, 1, 2, 3, 4] (by decide) rfl
  exact dk_uret (wn := fun u : ((Nat → Nat) × Nat × (Nat → Nat)) => (wX2 o u.1 cI cJ cZ u.2.1 (fun _ => 0) 0 0 0 0 0 0 ++ wX5 u.2.1 u.2.2 cI cJ cZ (fun _ => 0) (fun _ => 0) (fun _ => 0) 0)) ((dk_ad [0, q3, 0, 0, 0, 0, 0, 0]), q1, u2) C hK hP9 hD9 hS dX2_init_53

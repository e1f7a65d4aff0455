/-! ===== SquareTiler$Squares.add ===== -/
abbrev rX5_add : Room := { frames := 0, cells := 0, slots := 0, locals := 0 }
def ovX5_add : List Cond := [Cond.fieldLink RX5 21 "SquareTiler$Squares" "howMany" "I", Cond.fieldLink RX5 9 "SquareTiler$Squares" "left" "[I", Cond.fieldLink RX5 15 "SquareTiler$Squares" "low" "[I", Cond.fieldLink RX5 18 "SquareTiler$Squares" "side" "[I"]
def vsX5_add : List Cond := .code yX5_add cX5_add 4 none :: (ovX5_add ++ (wsX50 ++ []))
theorem qX5_add_f21 : Cond.fieldLink RX5 21 "SquareTiler$Squares" "howMany" "I" ∈ vsX5_add := List.mem_cons_of_mem _ (List.mem_append_left _ (List.mem_of_getElem? (i := 0) rfl))
theorem qX5_add_f9 : Cond.fieldLink RX5 9 "SquareTiler$Squares" "left" "[I" ∈ vsX5_add := List.mem_cons_of_mem _ (List.mem_append_left _ (List.mem_of_getElem? (i := 1) rfl))
theorem qX5_add_f15 : Cond.fieldLink RX5 15 "SquareTiler$Squares" "low" "[I" ∈ vsX5_add := List.mem_cons_of_mem _ (List.mem_append_left _ (List.mem_of_getElem? (i := 2) rfl))
theorem qX5_add_f18 : Cond.fieldLink RX5 18 "SquareTiler$Squares" "side" "[I" ∈ vsX5_add := List.mem_cons_of_mem _ (List.mem_append_left _ (List.mem_of_getElem? (i := 3) rfl))
theorem qX5_add_X5 : ∀ w ∈ u_ws RX5 TX5 4, w ∈ vsX5_add := fun w h => List.mem_cons_of_mem _ (List.mem_append_right _ (List.mem_append_left _ h))
theorem gd_vsX5_add : ∀ w ∈ vsX5_add, goodWord w = true := dk_cons rfl (dk_app (dk_all (by decide +kernel)) (dk_app gd_wsX50 dk_nil))
def fX5_add (S_left S_low S_side : Nat → Int32) (S_howMany x1 x2 x3 : Int32) : Option ((Nat → Int32) × (Nat → Int32) × (Nat → Int32) × Int32) := if 21 ≤ S_howMany then some (S_left, S_low, S_side, S_howMany) else dk_gd (dk_in S_howMany 21) (dk_let (upd S_left S_howMany.toNatClampNeg x1) (fun S_left_3 => dk_let (upd S_low S_howMany.toNatClampNeg x2) (fun S_low_4 => dk_let (upd S_side S_howMany.toNatClampNeg x3) (fun S_side_5 => dk_let ((S_howMany + 1)) (fun S_howMany_6 => some (S_left_3, S_low_4, S_side_5, S_howMany_6))))))
section
variable {p : Program} {l : Launch} {e : Env} {s : State} {m : MethodId} {args : Array Value} {below : List Frame} {meth : Method} {c : Code} {dC : Nat → ClassId} {dI : Nat → Nat → Nat} {cI cJ cZ : ClassId} {A : Nat → Prop} {oS : Nat} {aS : Nat → Nat} {S_left S_low S_side : Nat → Int32} {S_howMany : Int32}
end
set_option maxHeartbeats 4000000 in
set_option maxRecDepth 100000 in
theorem mX5_add (l : Launch) (dC : Nat → ClassId) (dI : Nat → Nat → Nat) (cI cJ cZ : ClassId) {oS : Nat} {aS : Nat → Nat} {S_left S_low S_side : Nat → Int32} {S_howMany : Int32} {x1 x2 x3 : Int32} {out : (Nat → Int32) × (Nat → Int32) × (Nat → Int32) × Int32} (h : fX5_add S_left S_low S_side S_howMany x1 x2 x3 = some out) (sz : Nat) : Met l yX5_add vsX5_add rX5_add (va_Pc [.ref oS, .int x1, .int x2, .int x3] (dk_Pre (dC, dI) (dk_ty cI cJ cZ) (wX5 oS aS cI cJ cZ S_left S_low S_side S_howMany) sz)) (dk_Qv (dC, dI) (dk_ty cI cJ cZ) (wX5 oS aS cI cJ cZ out.1 out.2.1 out.2.2.1 out.2.2.2) (va_A (wX5 oS aS cI cJ cZ S_left S_low S_side S_howMany) sz)) 0 0 (va_A (wX5 oS aS cI cJ cZ S_left S_low S_side S_howMany) sz) := by
  refine dk_met (cc := cX5_add) (maxL := 4) (ret := none) (Qc := fun A => dk_Qv (dC, dI) (dk_ty cI cJ cZ) (wX5 oS aS cI cJ cZ out.1 out.2.1 out.2.2.1 out.2.2.2) A) (by decide) rfl (Nat.le_of_ble_eq_true rfl) ?_
  intro p e s m below meth c A C hnm hA hK hP hD hS ls hl
  have C : dk_C p s m meth c _ cX5_add none 4 RX5 vsX5_add := C
  obtain ⟨hx, hb, hr, hml, hown, hts, hlocks⟩ := id C
  have hl : lv_has ls 4 [(0, .ref oS), (1, .int x1), (2, .int x2), (3, .int x3)] := hl
  unfold fX5_add at h
  refine lv_aload_n hx hb dX5_add_0 rfl (lv_at hl 0 rfl) ?_
  refine va_get (D := (dC, dI)) (ci := 5) (v := .int S_howMany) (C := RX5) (T := TX5) (N := 4) hx hb hts qX5_add_X5 hown hK hP 0 rfl rfl 3 (by decide) (hts _ qX5_add_f21) (fun _ h9 => h9) rfl dX5_add_1 ?_
  refine lv_bipush (v := 21) hx hb dX5_add_4 (by decide) ?_
  refine lv_icmp_ge (tgt := 49) hx hb dX5_add_6 (by decide) (fun c_1 => ?_) (fun c_1 => ?_)
  · replace h := dk_it c_1 h
    have e9 := Option.some.inj h
    subst e9
    exact dk_vret C hK hP hD hS dX5_add_49
  · replace h := dk_ie c_1 h
    refine lv_aload_n hx hb dX5_add_9 rfl (lv_at hl 0 rfl) ?_
    refine va_get (D := (dC, dI)) (ci := 5) (v := .ref (aS 0)) (C := RX5) (T := TX5) (N := 4) hx hb hts qX5_add_X5 hown hK hP 0 rfl rfl 0 (by decide) (hts _ qX5_add_f9) (fun _ h9 => h9) rfl dX5_add_10 ?_
    refine lv_aload_n hx hb dX5_add_13 rfl (lv_at hl 0 rfl) ?_
    refine va_get (D := (dC, dI)) (ci := 5) (v := .int S_howMany) (C := RX5) (T := TX5) (N := 4) hx hb hts qX5_add_X5 hown hK hP 0 rfl rfl 3 (by decide) (hts _ qX5_add_f21) (fun _ h9 => h9) rfl dX5_add_14 ?_
    refine lv_iload_n hx hb dX5_add_17 rfl (lv_at hl 1 rfl) ?_
    obtain ⟨g_2, h⟩ := dk_gd_to h
    have g_2 := dk_in_to g_2
    refine va_iast hx hb hK hP hD hS 1 0 rfl rfl g_2 dX5_add_18 (fun H locs hP hD hS => ?_)
    obtain ⟨S_left_3, eS_left_3⟩ : ∃ z : Nat → Int32, z = upd S_left S_howMany.toNatClampNeg x1 := ⟨_, rfl⟩
    replace h := dk_let_to eS_left_3 h
    have hP : va_P (dC, dI) vwCl (wX5 oS aS cI cJ cZ S_left_3 S_low S_side S_howMany) H := by rw [eS_left_3]; exact hP
    have hD : va_D A (wX5 oS aS cI cJ cZ S_left_3 S_low S_side S_howMany) := by rw [eS_left_3]; exact hD
    refine lv_aload_n hx hb dX5_add_19 rfl (lv_at hl 0 rfl) ?_
    refine va_get (D := (dC, dI)) (ci := 5) (v := .ref (aS 1)) (C := RX5) (T := TX5) (N := 4) hx hb hts qX5_add_X5 hown hK hP 0 rfl rfl 1 (by decide) (hts _ qX5_add_f15) (fun _ h9 => h9) rfl dX5_add_20 ?_
    refine lv_aload_n hx hb dX5_add_23 rfl (lv_at hl 0 rfl) ?_
    refine va_get (D := (dC, dI)) (ci := 5) (v := .int S_howMany) (C := RX5) (T := TX5) (N := 4) hx hb hts qX5_add_X5 hown hK hP 0 rfl rfl 3 (by decide) (hts _ qX5_add_f21) (fun _ h9 => h9) rfl dX5_add_24 ?_
    refine lv_iload_n hx hb dX5_add_27 rfl (lv_at hl 2 rfl) ?_
    refine va_iast hx hb hK hP hD hS 2 0 rfl rfl g_2 dX5_add_28 (fun H locs hP hD hS => ?_)
    obtain ⟨S_low_4, eS_low_4⟩ : ∃ z : Nat → Int32, z = upd S_low S_howMany.toNatClampNeg x2 := ⟨_, rfl⟩
    replace h := dk_let_to eS_low_4 h
    have hP : va_P (dC, dI) vwCl (wX5 oS aS cI cJ cZ S_left_3 S_low_4 S_side S_howMany) H := by rw [eS_low_4]; exact hP
    have hD : va_D A (wX5 oS aS cI cJ cZ S_left_3 S_low_4 S_side S_howMany) := by rw [eS_low_4]; exact hD
    refine lv_aload_n hx hb dX5_add_29 rfl (lv_at hl 0 rfl) ?_
    refine va_get (D := (dC, dI)) (ci := 5) (v := .ref (aS 2)) (C := RX5) (T := TX5) (N := 4) hx hb hts qX5_add_X5 hown hK hP 0 rfl rfl 2 (by decide) (hts _ qX5_add_f18) (fun _ h9 => h9) rfl dX5_add_30 ?_
    refine lv_aload_n hx hb dX5_add_33 rfl (lv_at hl 0 rfl) ?_
    refine va_get (D := (dC, dI)) (ci := 5) (v := .int S_howMany) (C := RX5) (T := TX5) (N := 4) hx hb hts qX5_add_X5 hown hK hP 0 rfl rfl 3 (by decide) (hts _ qX5_add_f21) (fun _ h9 => h9) rfl dX5_add_34 ?_
    refine lv_iload_n hx hb dX5_add_37 rfl (lv_at hl 3 rfl) ?_
    refine va_iast hx hb hK hP hD hS 3 0 rfl rfl g_2 dX5_add_38 (fun H locs hP hD hS => ?_)
    obtain ⟨S_side_5, eS_side_5⟩ : ∃ z : Nat → Int32, z = upd S_side S_howMany.toNatClampNeg x3 := ⟨_, rfl⟩
    replace h := dk_let_to eS_side_5 h
    have hP : va_P (dC, dI) vwCl (wX5 oS aS cI cJ cZ S_left_3 S_low_4 S_side_5 S_howMany) H := by rw [eS_side_5]; exact hP
    have hD : va_D A (wX5 oS aS cI cJ cZ S_left_3 S_low_4 S_side_5 S_howMany) := by rw [eS_side_5]; exact hD
    refine lv_aload_n hx hb dX5_add_39 rfl (lv_at hl 0 rfl) ?_
    refine lv_dup hx hb dX5_add_40 rfl ?_
    refine va_get (D := (dC, dI)) (ci := 5) (v := .int S_howMany) (C := RX5) (T := TX5) (N := 4) hx hb hts qX5_add_X5 hown hK hP 0 rfl rfl 3 (by decide) (hts _ qX5_add_f21) (fun _ h9 => h9) rfl dX5_add_41 ?_
    refine lv_iconst (v := 1) hx hb dX5_add_44 (by decide) ?_
    refine lv_iadd hx hb dX5_add_45 ?_
    refine va_put (D := (dC, dI)) (ci := 5) (v := .int (S_howMany + 1)) (ty := .int) (C := RX5) (T := TX5) (N := 4) hx hb hts qX5_add_X5 tyX5 tyX5_ok nmX5 hown hK hP hD hS 0 rfl rfl 3 (by decide) (hts _ qX5_add_f21) (fun _ h9 => h9) rfl (by decide +kernel) rfl rfl (Nat.le_of_ble_eq_true rfl) dX5_add_46 (fun H locs hP hD hS => ?_)
    obtain ⟨S_howMany_6, eS_howMany_6⟩ : ∃ z : Int32, z = (S_howMany + 1) := ⟨_, rfl⟩
    replace h := dk_let_to eS_howMany_6 h
    have hP : va_P (dC, dI) vwCl (wX5 oS aS cI cJ cZ S_left_3 S_low_4 S_side_5 S_howMany_6) H := by rw [eS_howMany_6]; exact hP
    have hD : va_D A (wX5 oS aS cI cJ cZ S_left_3 S_low_4 S_side_5 S_howMany_6) := by rw [eS_howMany_6]; exact hD
    have e9 := Option.some.inj h
    subst e9
    exact dk_vret C hK hP hD hS dX5_add_49
/-! ===== SquareTiler$Squares.right ===== -/
abbrev rX5_right : Room := { frames := 0, cells := 0, slots := 0, locals := 0 }
def ovX5_right : List Cond := [Cond.fieldLink RX5 9 "SquareTiler$Squares" "left" "[I", Cond.fieldLink RX5 18 "SquareTiler$Squares" "side" "[I"]
def vsX5_right : List Cond := .code yX5_right cX5_right 2 (some .int) :: (ovX5_right ++ (wsX50 ++ []))
theorem qX5_right_f9 : Cond.fieldLink RX5 9 "SquareTiler$Squares" "left" "[I" ∈ vsX5_right := List.mem_cons_of_mem _ (List.mem_append_left _ (List.mem_of_getElem? (i := 0) rfl))
theorem qX5_right_f18 : Cond.fieldLink RX5 18 "SquareTiler$Squares" "side" "[I" ∈ vsX5_right := List.mem_cons_of_mem _ (List.mem_append_left _ (List.mem_of_getElem? (i := 1) rfl))
theorem qX5_right_X5 : ∀ w ∈ u_ws RX5 TX5 4, w ∈ vsX5_right := fun w h => List.mem_cons_of_mem _ (List.mem_append_right _ (List.mem_append_left _ h))
theorem gd_vsX5_right : ∀ w ∈ vsX5_right, goodWord w = true := dk_cons rfl (dk_app (dk_all (by decide +kernel)) (dk_app gd_wsX50 dk_nil))
def fX5_right (S_left S_side : Nat → Int32) (x1 : Int32) : Option (Int32) := dk_gd (dk_in x1 21) (some ((S_left x1.toNatClampNeg) + (S_side x1.toNatClampNeg)))
section
variable {p : Program} {l : Launch} {e : Env} {s : State} {m : MethodId} {args : Array Value} {below : List Frame} {meth : Method} {c : Code} {dC : Nat → ClassId} {dI : Nat → Nat → Nat} {cI cJ cZ : ClassId} {A : Nat → Prop} {oS : Nat} {aS : Nat → Nat} {S_left S_low S_side : Nat → Int32} {S_howMany : Int32}
end
set_option maxHeartbeats 4000000 in
set_option maxRecDepth 100000 in
theorem mX5_right (l : Launch) (dC : Nat → ClassId) (dI : Nat → Nat → Nat) (cI cJ cZ : ClassId) {oS : Nat} {aS : Nat → Nat} {S_left S_low S_side : Nat → Int32} {S_howMany : Int32} {x1 : Int32} {out : Int32} (h : fX5_right S_left S_side x1 = some out) (sz : Nat) : Met l yX5_right vsX5_right rX5_right (va_Pc [.ref oS, .int x1] (dk_Pre (dC, dI) (dk_ty cI cJ cZ) (wX5 oS aS cI cJ cZ S_left S_low S_side S_howMany) sz)) (dk_Qi (dC, dI) (dk_ty cI cJ cZ) (wX5 oS aS cI cJ cZ S_left S_low S_side S_howMany) out (va_A (wX5 oS aS cI cJ cZ S_left S_low S_side S_howMany) sz)) 0 0 (va_A (wX5 oS aS cI cJ cZ S_left S_low S_side S_howMany) sz) := by
  refine dk_met (cc := cX5_right) (maxL := 2) (ret := (some .int)) (Qc := fun A => dk_Qi (dC, dI) (dk_ty cI cJ cZ) (wX5 oS aS cI cJ cZ S_left S_low S_side S_howMany) out A) (by decide) rfl (Nat.le_of_ble_eq_true rfl) ?_
  intro p e s m below meth c A C hnm hA hK hP hD hS ls hl
  have C : dk_C p s m meth c _ cX5_right (some .int) 2 RX5 vsX5_right := C
  obtain ⟨hx, hb, hr, hml, hown, hts, hlocks⟩ := id C
  have hl : lv_has ls 2 [(0, .ref oS), (1, .int x1)] := hl
  unfold fX5_right at h
  refine lv_aload_n hx hb dX5_right_0 rfl (lv_at hl 0 rfl) ?_
  refine va_get (D := (dC, dI)) (ci := 5) (v := .ref (aS 0)) (C := RX5) (T := TX5) (N := 4) hx hb hts qX5_right_X5 hown hK hP 0 rfl rfl 0 (by decide) (hts _ qX5_right_f9) (fun _ h9 => h9) rfl dX5_right_1 ?_
  refine lv_iload_n hx hb dX5_right_4 rfl (lv_at hl 1 rfl) ?_
  obtain ⟨g_1, h⟩ := dk_gd_to h
  have g_1 := dk_in_to g_1
  refine va_iald hx hb hK hP 1 0 rfl rfl g_1 dX5_right_5 ?_
  refine lv_aload_n hx hb dX5_right_6 rfl (lv_at hl 0 rfl) ?_
  refine va_get (D := (dC, dI)) (ci := 5) (v := .ref (aS 2)) (C := RX5) (T := TX5) (N := 4) hx hb hts qX5_right_X5 hown hK hP 0 rfl rfl 2 (by decide) (hts _ qX5_right_f18) (fun _ h9 => h9) rfl dX5_right_7 ?_
  refine lv_iload_n hx hb dX5_right_10 rfl (lv_at hl 1 rfl) ?_
  refine va_iald hx hb hK hP 3 0 rfl rfl g_1 dX5_right_11 ?_
  refine lv_iadd hx hb dX5_right_12 ?_
  have e9 := Option.some.inj h
  subst e9
  exact dk_iret C hK hP hD hS rfl dX5_right_13
/-! ===== SquareTiler$Squares.top ===== -/
abbrev rX5_top : Room := { frames := 0, cells := 0, slots := 0, locals := 0 }
def ovX5_top : List Cond := [Cond.fieldLink RX5 15 "SquareTiler$Squares" "low" "[I", Cond.fieldLink RX5 18 "SquareTiler$Squares" "side" "[I"]
def vsX5_top : List Cond := .code yX5_top cX5_top 2 (some .int) :: (ovX5_top ++ (wsX50 ++ []))
theorem qX5_top_f15 : Cond.fieldLink RX5 15 "SquareTiler$Squares" "low" "[I" ∈ vsX5_top := List.mem_cons_of_mem _ (List.mem_append_left _ (List.mem_of_getElem? (i := 0) rfl))
theorem qX5_top_f18 : Cond.fieldLink RX5 18 "SquareTiler$Squares" "side" "[I" ∈ vsX5_top := List.mem_cons_of_mem _ (List.mem_append_left _ (List.mem_of_getElem? (i := 1) rfl))
theorem qX5_top_X5 : ∀ w ∈ u_ws RX5 TX5 4, w ∈ vsX5_top := fun w h => List.mem_cons_of_mem _ (List.mem_append_right _ (List.mem_append_left _ h))
theorem gd_vsX5_top : ∀ w ∈ vsX5_top, goodWord w = true := dk_cons rfl (dk_app (dk_all (by decide +kernel)) (dk_app gd_wsX50 dk_nil))
def fX5_top (S_low S_side : Nat → Int32) (x1 : Int32) : Option (Int32) := dk_gd (dk_in x1 21) (some ((S_low x1.toNatClampNeg) + (S_side x1.toNatClampNeg)))
section
variable {p : Program} {l : Launch} {e : Env} {s : State} {m : MethodId} {args : Array Value} {below : List Frame} {meth : Method} {c : Code} {dC : Nat → ClassId} {dI : Nat → Nat → Nat} {cI cJ cZ : ClassId} {A : Nat → Prop} {oS : Nat} {aS : Nat → Nat} {S_left S_low S_side : Nat → Int32} {S_howMany : Int32}
end
set_option maxHeartbeats 4000000 in
set_option maxRecDepth 100000 in
theorem mX5_top (l : Launch) (dC : Nat → ClassId) (dI : Nat → Nat → Nat) (cI cJ cZ : ClassId) {oS : Nat} {aS : Nat → Nat} {S_left S_low S_side : Nat → Int32} {S_howMany : Int32} {x1 : Int32} {out : Int32} (h : fX5_top S_low S_side x1 = some out) (sz : Nat) : Met l yX5_top vsX5_top rX5_top (va_Pc [.ref oS, .int x1] (dk_Pre (dC, dI) (dk_ty cI cJ cZ) (wX5 oS aS cI cJ cZ S_left S_low S_side S_howMany) sz)) (dk_Qi (dC, dI) (dk_ty cI cJ cZ) (wX5 oS aS cI cJ cZ S_left S_low S_side S_howMany) out (va_A (wX5 oS aS cI cJ cZ S_left S_low S_side S_howMany) sz)) 0 0 (va_A (wX5 oS aS cI cJ cZ S_left S_low S_side S_howMany) sz) := by
  refine dk_met (cc := cX5_top) (maxL := 2) (ret := (some .int)) (Qc := fun A => dk_Qi (dC, dI) (dk_ty cI cJ cZ) (wX5 oS aS cI cJ cZ S_left S_low S_side S_howMany) out A) (by decide) rfl (Nat.le_of_ble_eq_true rfl) ?_
  intro p e s m below meth c A C hnm hA hK hP hD hS ls hl
  have C : dk_C p s m meth c _ cX5_top (some .int) 2 RX5 vsX5_top := C
  obtain ⟨hx, hb, hr, hml, hown, hts, hlocks⟩ := id C
  have hl : lv_has ls 2 [(0, .ref oS), (1, .int x1)] := hl
  unfold fX5_top at h
  refine lv_aload_n hx hb dX5_top_0 rfl (lv_at hl 0 rfl) ?_
  refine va_get (D := (dC, dI)) (ci := 5) (v := .ref (aS 1)) (C := RX5) (T := TX5) (N := 4) hx hb hts qX5_top_X5 hown hK hP 0 rfl rfl 1 (by decide) (hts _ qX5_top_f15) (fun _ h9 => h9) rfl dX5_top_1 ?_
  refine lv_iload_n hx hb dX5_top_4 rfl (lv_at hl 1 rfl) ?_
  obtain ⟨g_1, h⟩ := dk_gd_to h
  have g_1 := dk_in_to g_1
  refine va_iald hx hb hK hP 2 0 rfl rfl g_1 dX5_top_5 ?_
  refine lv_aload_n hx hb dX5_top_6 rfl (lv_at hl 0 rfl) ?_
  refine va_get (D := (dC, dI)) (ci := 5) (v := .ref (aS 2)) (C := RX5) (T := TX5) (N := 4) hx hb hts qX5_top_X5 hown hK hP 0 rfl rfl 2 (by decide) (hts _ qX5_top_f18) (fun _ h9 => h9) rfl dX5_top_7 ?_
  refine lv_iload_n hx hb dX5_top_10 rfl (lv_at hl 1 rfl) ?_
  refine va_iald hx hb hK hP 3 0 rfl rfl g_1 dX5_top_11 ?_
  refine lv_iadd hx hb dX5_top_12 ?_
  have e9 := Option.some.inj h
  subst e9
  exact dk_iret C hK hP hD hS rfl dX5_top_13
/-! ===== SquareTiler$Squares.covers ===== -/
abbrev rX5_covers : Room := { frames := 1, cells := 0, slots := 0, locals := 21 }
def ovX5_covers : List Cond := [Cond.fieldLink RX5 9 "SquareTiler$Squares" "left" "[I", Cond.fieldLink RX5 15 "SquareTiler$Squares" "low" "[I", Cond.methodLink RX5 32 yX5_right, Cond.instanceMethod yX5_right, Cond.selects RX5 yX5_right yX5_right, Cond.initialized RX5, Cond.methodLink RX5 36 yX5_top, Cond.instanceMethod yX5_top, Cond.selects RX5 yX5_top yX5_top]
def vsX5_covers : List Cond := .code yX5_covers cX5_covers 4 (some .boolean) :: (ovX5_covers ++ (wsX50 ++ (vsX5_right ++ (vsX5_top ++ []))))
theorem qX5_covers_f9 : Cond.fieldLink RX5 9 "SquareTiler$Squares" "left" "[I" ∈ vsX5_covers := List.mem_cons_of_mem _ (List.mem_append_left _ (List.mem_of_getElem? (i := 0) rfl))
theorem qX5_covers_f15 : Cond.fieldLink RX5 15 "SquareTiler$Squares" "low" "[I" ∈ vsX5_covers := List.mem_cons_of_mem _ (List.mem_append_left _ (List.mem_of_getElem? (i := 1) rfl))
theorem qX5_covers_w2 : Cond.methodLink RX5 32 yX5_right ∈ vsX5_covers := List.mem_cons_of_mem _ (List.mem_append_left _ (List.mem_of_getElem? (i := 2) rfl))
theorem qX5_covers_w3 : Cond.instanceMethod yX5_right ∈ vsX5_covers := List.mem_cons_of_mem _ (List.mem_append_left _ (List.mem_of_getElem? (i := 3) rfl))
theorem qX5_covers_w4 : Cond.selects RX5 yX5_right yX5_right ∈ vsX5_covers := List.mem_cons_of_mem _ (List.mem_append_left _ (List.mem_of_getElem? (i := 4) rfl))
theorem qX5_covers_w5 : Cond.initialized RX5 ∈ vsX5_covers := List.mem_cons_of_mem _ (List.mem_append_left _ (List.mem_of_getElem? (i := 5) rfl))
theorem qX5_covers_w6 : Cond.methodLink RX5 36 yX5_top ∈ vsX5_covers := List.mem_cons_of_mem _ (List.mem_append_left _ (List.mem_of_getElem? (i := 6) rfl))
theorem qX5_covers_w7 : Cond.instanceMethod yX5_top ∈ vsX5_covers := List.mem_cons_of_mem _ (List.mem_append_left _ (List.mem_of_getElem? (i := 7) rfl))
theorem qX5_covers_w8 : Cond.selects RX5 yX5_top yX5_top ∈ vsX5_covers := List.mem_cons_of_mem _ (List.mem_append_left _ (List.mem_of_getElem? (i := 8) rfl))
theorem qX5_covers_X5 : ∀ w ∈ u_ws RX5 TX5 4, w ∈ vsX5_covers := fun w h => List.mem_cons_of_mem _ (List.mem_append_right _ (List.mem_append_left _ h))
theorem gd_vsX5_covers : ∀ w ∈ vsX5_covers, goodWord w = true := dk_cons rfl (dk_app (dk_all (by decide +kernel)) (dk_app gd_wsX50 (dk_app gd_vsX5_right (dk_app gd_vsX5_top dk_nil))))
theorem gvX5_covers_X5_right : GoodIn vsX5_covers (wsV RX5 32 RX5 yX5_right vsX5_right) := goodIn_app (dk_g4 qX5_covers_w2 qX5_covers_w3 qX5_covers_w4 qX5_covers_w5 rfl) (dk_gIn (fun w h => List.mem_cons_of_mem _ (List.mem_append_right _ (List.mem_append_right _ (List.mem_append_left _ h)))) gd_vsX5_right)
theorem gvX5_covers_X5_top : GoodIn vsX5_covers (wsV RX5 36 RX5 yX5_top vsX5_top) := goodIn_app (dk_g4 qX5_covers_w6 qX5_covers_w7 qX5_covers_w8 qX5_covers_w5 rfl) (dk_gIn (fun w h => List.mem_cons_of_mem _ (List.mem_append_right _ (List.mem_append_right _ (List.mem_append_right _ (List.mem_append_left _ h))))) gd_vsX5_top)
def fX5_covers (S_left S_low S_side : Nat → Int32) (x1 x2 x3 : Int32) : Option (Int32) := dk_gd (dk_in x1 21) (if x2 < (S_left x1.toNatClampNeg) then some 0 else dk_bnd (fX5_right S_left S_side x1) (fun r_3 => if r_3 ≤ x2 then some 0 else if x3 < (S_low x1.toNatClampNeg) then some 0 else dk_bnd (fX5_top S_low S_side x1) (fun r_6 => if r_6 ≤ x3 then some 0 else some 1)))
section
variable {p : Program} {l : Launch} {e : Env} {s : State} {m : MethodId} {args : Array Value} {below : List Frame} {meth : Method} {c : Code} {dC : Nat → ClassId} {dI : Nat → Nat → Nat} {cI cJ cZ : ClassId} {A : Nat → Prop} {oS : Nat} {aS : Nat → Nat} {S_left S_low S_side : Nat → Int32} {S_howMany : Int32}
end
set_option maxHeartbeats 4000000 in
set_option maxRecDepth 100000 in
theorem mX5_covers (l : Launch) (dC : Nat → ClassId) (dI : Nat → Nat → Nat) (cI cJ cZ : ClassId) {oS : Nat} {aS : Nat → Nat} {S_left S_low S_side : Nat → Int32} {S_howMany : Int32} {x1 x2 x3 : Int32} {out : Int32} (h : fX5_covers S_left S_low S_side x1 x2 x3 = some out) (sz : Nat) : Met l yX5_covers vsX5_covers rX5_covers (va_Pc [.ref oS, .int x1, .int x2, .int x3] (dk_Pre (dC, dI) (dk_ty cI cJ cZ) (wX5 oS aS cI cJ cZ S_left S_low S_side S_howMany) sz)) (dk_Qi (dC, dI) (dk_ty cI cJ cZ) (wX5 oS aS cI cJ cZ S_left S_low S_side S_howMany) out (va_A (wX5 oS aS cI cJ cZ S_left S_low S_side S_howMany) sz)) 0 0 (va_A (wX5 oS aS cI cJ cZ S_left S_low S_side S_howMany) sz) := by
  refine dk_met (cc := cX5_covers) (maxL := 4) (ret := (some .boolean)) (Qc := fun A => dk_Qi (dC, dI) (dk_ty cI cJ cZ) (wX5 oS aS cI cJ cZ S_left S_low S_side S_howMany) out A) (by decide) rfl (Nat.le_of_ble_eq_true rfl) ?_
  intro p e s m below meth c A C hnm hA hK hP hD hS ls hl
  have C : dk_C p s m meth c _ cX5_covers (some .boolean) 4 RX5 vsX5_covers := C
  obtain ⟨hx, hb, hr, hml, hown, hts, hlocks⟩ := id C
  have hl : lv_has ls 4 [(0, .ref oS), (1, .int x1), (2, .int x2), (3, .int x3)] := hl
  unfold fX5_covers at h
  refine lv_aload_n hx hb dX5_covers_0 rfl (lv_at hl 0 rfl) ?_
  refine va_get (D := (dC, dI)) (ci := 5) (v := .ref (aS 0)) (C := RX5) (T := TX5) (N := 4) hx hb hts qX5_covers_X5 hown hK hP 0 rfl rfl 0 (by decide) (hts _ qX5_covers_f9) (fun _ h9 => h9) rfl dX5_covers_1 ?_
  refine lv_iload_n hx hb dX5_covers_4 rfl (lv_at hl 1 rfl) ?_
  obtain ⟨g_1, h⟩ := dk_gd_to h
  have g_1 := dk_in_to g_1
  refine va_iald hx hb hK hP 1 0 rfl rfl g_1 dX5_covers_5 ?_
  refine lv_iload_n hx hb dX5_covers_6 rfl (lv_at hl 2 rfl) ?_
  refine lv_icmp_gt (tgt := 42) hx hb dX5_covers_7 (by decide) (fun c_2 => ?_) (fun c_2 => ?_)
  · replace h := dk_it c_2 h
    refine lv_iconst (v := 0) hx hb dX5_covers_42 (by decide) ?_
    have e9 := Option.some.inj h
    subst e9
    exact dk_zret C hK hP hD hS (by decide +kernel) rfl dX5_covers_43
  · replace h := dk_ie c_2 h
    refine lv_iload_n hx hb dX5_covers_10 rfl (lv_at hl 2 rfl) ?_
    refine lv_aload_n hx hb dX5_covers_11 rfl (lv_at hl 0 rfl) ?_
    refine lv_iload_n hx hb dX5_covers_12 rfl (lv_at hl 1 rfl) ?_
    obtain ⟨r_3, hcr_3, h⟩ := dk_bnd_to h
    refine dk_rVi (b := oS) (As := [.int x1]) (rest := [.int x2]) (wc := (wX5 oS aS cI cJ cZ S_left S_low S_side S_howMany)) C hK hP hD hS hA (mX5_right l dC dI cI cJ cZ hcr_3 _) (cwV 1 hts gvX5_covers_X5_right rfl rfl rfl (by decide +kernel) ⟨Nat.le_of_ble_eq_true rfl, Nat.le_of_ble_eq_true rfl⟩) [0, 1, 2, 3] rfl (by decide) 0 5 rfl rfl rfl hl.1 rfl (Nat.le_of_ble_eq_true rfl) ⟨Nat.le_of_ble_eq_true rfl, Nat.le_of_ble_eq_true rfl⟩ dX5_covers_13 (fun H locs hP hD hS => ?_)
    refine lv_icmp_ge (tgt := 42) hx hb dX5_covers_16 (by decide) (fun c_4 => ?_) (fun c_4 => ?_)
    · replace h := dk_it c_4 h
      refine lv_iconst (v := 0) hx hb dX5_covers_42 (by decide) ?_
      have e9 := Option.some.inj h
      subst e9
      exact dk_zret C hK hP hD hS (by decide +kernel) rfl dX5_covers_43
    · replace h := dk_ie c_4 h
      refine lv_aload_n hx hb dX5_covers_19 rfl (lv_at hl 0 rfl) ?_
      refine va_get (D := (dC, dI)) (ci := 5) (v := .ref (aS 1)) (C := RX5) (T := TX5) (N := 4) hx hb hts qX5_covers_X5 hown hK hP 0 rfl rfl 1 (by decide) (hts _ qX5_covers_f15) (fun _ h9 => h9) rfl dX5_covers_20 ?_
      refine lv_iload_n hx hb dX5_covers_23 rfl (lv_at hl 1 rfl) ?_
      refine va_iald hx hb hK hP 2 0 rfl rfl g_1 dX5_covers_24 ?_
      refine lv_iload_n hx hb dX5_covers_25 rfl (lv_at hl 3 rfl) ?_
      refine lv_icmp_gt (tgt := 42) hx hb dX5_covers_26 (by decide) (fun c_5 => ?_) (fun c_5 => ?_)
      · replace h := dk_it c_5 h
        refine lv_iconst (v := 0) hx hb dX5_covers_42 (by decide) ?_
        have e9 := Option.some.inj h
        subst e9
        exact dk_zret C hK hP hD hS (by decide +kernel) rfl dX5_covers_43
      · replace h := dk_ie c_5 h
        refine lv_iload_n hx hb dX5_covers_29 rfl (lv_at hl 3 rfl) ?_
        refine lv_aload_n hx hb dX5_covers_30 rfl (lv_at hl 0 rfl) ?_
        refine lv_iload_n hx hb dX5_covers_31 rfl (lv_at hl 1 rfl) ?_
        obtain ⟨r_6, hcr_6, h⟩ := dk_bnd_to h
        refine dk_rVi (b := oS) (As := [.int x1]) (rest := [.int x3]) (wc := (wX5 oS aS cI cJ cZ S_left S_low S_side S_howMany)) C hK hP hD hS hA (mX5_top l dC dI cI cJ cZ hcr_6 _) (cwV 1 hts gvX5_covers_X5_top rfl rfl rfl (by decide +kernel) ⟨Nat.le_of_ble_eq_true rfl, Nat.le_of_ble_eq_true rfl⟩) [0, 1, 2, 3] rfl (by decide) 0 5 rfl rfl rfl hl.1 rfl (Nat.le_of_ble_eq_true rfl) ⟨Nat.le_of_ble_eq_true rfl, Nat.le_of_ble_eq_true rfl⟩ dX5_covers_32 (fun H locs hP hD hS => ?_)
        refine lv_icmp_ge (tgt := 42) hx hb dX5_covers_35 (by decide) (fun c_7 => ?_) (fun c_7 => ?_)
        · replace h := dk_it c_7 h
          refine lv_iconst (v := 0) hx hb dX5_covers_42 (by decide) ?_
          have e9 := Option.some.inj h
          subst e9
          exact dk_zret C hK hP hD hS (by decide +kernel) rfl dX5_covers_43
        · replace h := dk_ie c_7 h
          refine lv_iconst (v := 1) hx hb dX5_covers_38 (by decide) ?_
          refine lv_goto (tgt := 43) hx hb dX5_covers_39 (by decide) ?_
          have e9 := Option.some.inj h
          subst e9
          exact dk_zret C hK hP hD hS (by decide +kernel) rfl dX5_covers_43
/-! ===== java/lang/Integer.bitCount ===== -/
abbrev rJ6_bitCount_0f7a4 : Room := { frames := 0, cells := 0, slots := 0, locals := 0 }
def ovJ6_bitCount_0f7a4 : List Cond := [Cond.constant RJ6 265 (1431655765), Cond.constant RJ6 266 (858993459), Cond.constant RJ6 267 (252645135)]
def vsJ6_bitCount_0f7a4 : List Cond := .code yJ6_bitCount_0f7a4 cJ6_bitCount_0f7a4 1 (some .int) :: (ovJ6_bitCount_0f7a4 ++ [])
theorem qJ6_bitCount_0f7a4_k265 : Cond.constant RJ6 265 (1431655765) ∈ vsJ6_bitCount_0f7a4 := List.mem_cons_of_mem _ (List.mem_append_left _ (List.mem_of_getElem? (i := 0) rfl))
theorem qJ6_bitCount_0f7a4_k266 : Cond.constant RJ6 266 (858993459) ∈ vsJ6_bitCount_0f7a4 := List.mem_cons_of_mem _ (List.mem_append_left _ (List.mem_of_getElem? (i := 1) rfl))
theorem qJ6_bitCount_0f7a4_k267 : Cond.constant RJ6 267 (252645135) ∈ vsJ6_bitCount_0f7a4 := List.mem_cons_of_mem _ (List.mem_append_left _ (List.mem_of_getElem? (i := 2) rfl))
theorem gd_vsJ6_bitCount_0f7a4 : ∀ w ∈ vsJ6_bitCount_0f7a4, goodWord w = true := dk_cons rfl (dk_app (dk_all (by decide +kernel)) dk_nil)
def fJ6_bitCount_0f7a4 (x0 : Int32) : Option (Int32) := dk_let ((x0 - (((x0.toUInt32 >>> ((1 : Int32).toUInt32 &&& Int32.toUInt32 31)).toInt32) &&& 1431655765))) (fun x0_1 => dk_let (((x0_1 &&& 858993459) + (((x0_1.toUInt32 >>> ((2 : Int32).toUInt32 &&& Int32.toUInt32 31)).toInt32) &&& 858993459))) (fun x0_2 => dk_let (((x0_2 + ((x0_2.toUInt32 >>> ((4 : Int32).toUInt32 &&& Int32.toUInt32 31)).toInt32)) &&& 252645135)) (fun x0_3 => dk_let ((x0_3 + ((x0_3.toUInt32 >>> ((8 : Int32).toUInt32 &&& Int32.toUInt32 31)).toInt32))) (fun x0_4 => dk_let ((x0_4 + ((x0_4.toUInt32 >>> ((16 : Int32).toUInt32 &&& Int32.toUInt32 31)).toInt32))) (fun x0_5 => some (x0_5 &&& 63))))))
section
variable {p : Program} {l : Launch} {e : Env} {s : State} {m : MethodId} {args : Array Value} {below : List Frame} {meth : Method} {c : Code} {dC : Nat → ClassId} {dI : Nat → Nat → Nat} {cI cJ cZ : ClassId} {A : Nat → Prop}
end
set_option maxHeartbeats 4000000 in
set_option maxRecDepth 100000 in
theorem mJ6_bitCount_0f7a4 (l : Launch) (dC : Nat → ClassId) (dI : Nat → Nat → Nat) (cI cJ cZ : ClassId) {x0 : Int32} {out : Int32} (h : fJ6_bitCount_0f7a4 x0 = some out) (sz : Nat) : Met l yJ6_bitCount_0f7a4 vsJ6_bitCount_0f7a4 rJ6_bitCount_0f7a4 (va_Pc [.int x0] (dk_Pre (dC, dI) (dk_ty cI cJ cZ) [] sz)) (dk_Qi (dC, dI) (dk_ty cI cJ cZ) [] out (va_A [] sz)) 0 0 (va_A [] sz) := by
  refine dk_met (cc := cJ6_bitCount_0f7a4) (maxL := 1) (ret := (some .int)) (Qc := fun A => dk_Qi (dC, dI) (dk_ty cI cJ cZ) [] out A) (by decide) rfl (Nat.le_of_ble_eq_true rfl) ?_
  intro p e s m below meth c A C hnm hA hK hP hD hS ls hl
  have C : dk_C p s m meth c _ cJ6_bitCount_0f7a4 (some .int) 1 RJ6 vsJ6_bitCount_0f7a4 := C
  obtain ⟨hx, hb, hr, hml, hown, hts, hlocks⟩ := id C
  have hl : lv_has ls 1 [(0, .int x0)] := hl
  unfold fJ6_bitCount_0f7a4 at h
  refine lv_iload_n hx hb dJ6_bitCount_0f7a4_0 rfl (lv_at hl 0 rfl) ?_
  refine lv_iload_n hx hb dJ6_bitCount_0f7a4_1 rfl (lv_at hl 0 rfl) ?_
  refine lv_iconst (v := 1) hx hb dJ6_bitCount_0f7a4_2 (by decide) ?_
  refine lv_iushr hx hb dJ6_bitCount_0f7a4_3 rfl ?_
  refine lv_ldcw (v := 1431655765) hx hb hown (hts _ qJ6_bitCount_0f7a4_k265) dJ6_bitCount_0f7a4_4 ?_
  refine lv_iand hx hb dJ6_bitCount_0f7a4_7 ?_
  refine lv_isub hx hb dJ6_bitCount_0f7a4_8 ?_
  refine lv_topi (fun x0_1 ex0_1 => ?_)
  replace h := dk_let_to ex0_1 h
  refine lv_istore_n (lv' := [(0, .int x0_1)]) hx hb dJ6_bitCount_0f7a4_9 rfl hl (by decide) rfl (fun ls hl => ?_)
  refine lv_iload_n hx hb dJ6_bitCount_0f7a4_10 rfl (lv_at hl 0 rfl) ?_
  refine lv_ldcw (v := 858993459) hx hb hown (hts _ qJ6_bitCount_0f7a4_k266) dJ6_bitCount_0f7a4_11 ?_
  refine lv_iand hx hb dJ6_bitCount_0f7a4_14 ?_
  refine lv_iload_n hx hb dJ6_bitCount_0f7a4_15 rfl (lv_at hl 0 rfl) ?_
  refine lv_iconst (v := 2) hx hb dJ6_bitCount_0f7a4_16 (by decide) ?_
  refine lv_iushr hx hb dJ6_bitCount_0f7a4_17 rfl ?_
  refine lv_ldcw (v := 858993459) hx hb hown (hts _ qJ6_bitCount_0f7a4_k266) dJ6_bitCount_0f7a4_18 ?_
  refine lv_iand hx hb dJ6_bitCount_0f7a4_21 ?_
  refine lv_iadd hx hb dJ6_bitCount_0f7a4_22 ?_
  refine lv_topi (fun x0_2 ex0_2 => ?_)
  replace h := dk_let_to ex0_2 h
  refine lv_istore_n (lv' := [(0, .int x0_2)]) hx hb dJ6_bitCount_0f7a4_23 rfl hl (by decide) rfl (fun ls hl => ?_)
  refine lv_iload_n hx hb dJ6_bitCount_0f7a4_24 rfl (lv_at hl 0 rfl) ?_
  refine lv_iload_n hx hb dJ6_bitCount_0f7a4_25 rfl (lv_at hl 0 rfl) ?_
  refine lv_iconst (v := 4) hx hb dJ6_bitCount_0f7a4_26 (by decide) ?_
  refine lv_iushr hx hb dJ6_bitCount_0f7a4_27 rfl ?_
  refine lv_iadd hx hb dJ6_bitCount_0f7a4_28 ?_
  refine lv_ldcw (v := 252645135) hx hb hown (hts _ qJ6_bitCount_0f7a4_k267) dJ6_bitCount_0f7a4_29 ?_
  refine lv_iand hx hb dJ6_bitCount_0f7a4_32 ?_
  refine lv_topi (fun x0_3 ex0_3 => ?_)
  replace h := dk_let_to ex0_3 h
  refine lv_istore_n (lv' := [(0, .int x0_3)]) hx hb dJ6_bitCount_0f7a4_33 rfl hl (by decide) rfl (fun ls hl => ?_)
  refine lv_iload_n hx hb dJ6_bitCount_0f7a4_34 rfl (lv_at hl 0 rfl) ?_
  refine lv_iload_n hx hb dJ6_bitCount_0f7a4_35 rfl (lv_at hl 0 rfl) ?_
  refine lv_bipush (v := 8) hx hb dJ6_bitCount_0f7a4_36 (by decide) ?_
  refine lv_iushr hx hb dJ6_bitCount_0f7a4_38 rfl ?_
  refine lv_iadd hx hb dJ6_bitCount_0f7a4_39 ?_
  refine lv_topi (fun x0_4 ex0_4 => ?_)
  replace h := dk_let_to ex0_4 h
  refine lv_istore_n (lv' := [(0, .int x0_4)]) hx hb dJ6_bitCount_0f7a4_40 rfl hl (by decide) rfl (fun ls hl => ?_)
  refine lv_iload_n hx hb dJ6_bitCount_0f7a4_41 rfl (lv_at hl 0 rfl) ?_
  refine lv_iload_n hx hb dJ6_bitCount_0f7a4_42 rfl (lv_at hl 0 rfl) ?_
  refine lv_bipush (v := 16) hx hb dJ6_bitCount_0f7a4_43 (by decide) ?_
  refine lv_iushr hx hb dJ6_bitCount_0f7a4_45 rfl ?_
  refine lv_iadd hx hb dJ6_bitCount_0f7a4_46 ?_
  refine lv_topi (fun x0_5 ex0_5 => ?_)
  replace h := dk_let_to ex0_5 h
  refine lv_istore_n (lv' := [(0, .int x0_5)]) hx hb dJ6_bitCount_0f7a4_47 rfl hl (by decide) rfl (fun ls hl => ?_)
  refine lv_iload_n hx hb dJ6_bitCount_0f7a4_48 rfl (lv_at hl 0 rfl) ?_
  refine lv_bipush (v := 63) hx hb dJ6_bitCount_0f7a4_49 (by decide) ?_
  refine lv_iand hx hb dJ6_bitCount_0f7a4_51 ?_
  have e9 := Option.some.inj h
  subst e9
  exact dk_iret C hK hP hD hS rfl dJ6_bitCount_0f7a4_52
/-! ===== SquareTiler$Squares.canBe ===== -/
abbrev rX5_canBe : Room := { frames := 0, cells := 0, slots := 0, locals := 0 }
def ovX5_canBe : List Cond := [Cond.constant RX5 25 (1000000)]
def vsX5_canBe : List Cond := .code yX5_canBe cX5_canBe 2 (some .boolean) :: (ovX5_canBe ++ [])
theorem qX5_canBe_k25 : Cond.constant RX5 25 (1000000) ∈ vsX5_canBe := List.mem_cons_of_mem _ (List.mem_append_left _ (List.mem_of_getElem? (i := 0) rfl))
theorem gd_vsX5_canBe : ∀ w ∈ vsX5_canBe, goodWord w = true := dk_cons rfl (dk_app (dk_all (by decide +kernel)) dk_nil)
def jX5_canBe_11 (x1 s0 s1 : Int32) : Option (Int32) := if s0 < s1 then some 0 else if 1000000 < x1 then some 0 else some 1
def fX5_canBe (x0 x1 : Int32) : Option (Int32) := if x0 = 2 then jX5_canBe_11 x1 x1 1 else jX5_canBe_11 x1 x1 0
section
variable {p : Program} {l : Launch} {e : Env} {s : State} {m : MethodId} {args : Array Value} {below : List Frame} {meth : Method} {c : Code} {dC : Nat → ClassId} {dI : Nat → Nat → Nat} {cI cJ cZ : ClassId} {A : Nat → Prop}
set_option maxHeartbeats 4000000 in
set_option maxRecDepth 100000 in
theorem kX5_canBe_11 (C : dk_C p s m meth c args cX5_canBe (some .boolean) 2 RX5 vsX5_canBe) (hK : va_K (dC, dI) vwCl (dk_ty cI cJ cZ) s) (hA : ∀ q : Nat, s.heap.size ≤ q → A q) {out : Int32} {x1 s0 s1 : Int32} (h : jX5_canBe_11 x1 s0 s1 = some out) : ∀ (H : Heap) (locs : List Loc), va_P (dC, dI) vwCl [] H → va_D A [] → va_S A s.heap H locs → ∀ ls : Array Slot, lv_has ls 2 [(1, .int x1)] → W p l e rX5_canBe s m args below meth c H locs 0 0 (MQ below (dk_Qi (dC, dI) (dk_ty cI cJ cZ) [] out A) args s 0 0 A) (F0 m 11 ls [.int s1, .int s0]) := by
  obtain ⟨hx, hb, hr, hml, hown, hts, hlocks⟩ := id C
  intro H locs hP hD hS ls hl
  unfold jX5_canBe_11 at h
  refine lv_icmp_lt (tgt := 24) hx hb dX5_canBe_11 (by decide) (fun c_2 => ?_) (fun c_2 => ?_)
  · replace h := dk_it c_2 h
    refine lv_iconst (v := 0) hx hb dX5_canBe_24 (by decide) ?_
    have e9 := Option.some.inj h
    subst e9
    exact dk_zret C hK hP hD hS (by decide +kernel) rfl dX5_canBe_25
  · replace h := dk_ie c_2 h
    refine lv_iload_n hx hb dX5_canBe_14 rfl (lv_at hl 0 rfl) ?_
    refine lv_ldc (v := 1000000) hx hb hown (hts _ qX5_canBe_k25) dX5_canBe_15 ?_
    refine lv_icmp_gt (tgt := 24) hx hb dX5_canBe_17 (by decide) (fun c_3 => ?_) (fun c_3 => ?_)
    · replace h := dk_it c_3 h
      refine lv_iconst (v := 0) hx hb dX5_canBe_24 (by decide) ?_
      have e9 := Option.some.inj h
      subst e9
      exact dk_zret C hK hP hD hS (by decide +kernel) rfl dX5_canBe_25
    · replace h := dk_ie c_3 h
      refine lv_iconst (v := 1) hx hb dX5_canBe_20 (by decide) ?_
      refine lv_goto (tgt := 25) hx hb dX5_canBe_21 (by decide) ?_
      have e9 := Option.some.inj h
      subst e9
      exact dk_zret C hK hP hD hS (by decide +kernel) rfl dX5_canBe_25
end
set_option maxHeartbeats 4000000 in
set_option maxRecDepth 100000 in
theorem mX5_canBe (l : Launch) (dC : Nat → ClassId) (dI : Nat → Nat → Nat) (cI cJ cZ : ClassId) {x0 x1 : Int32} {out : Int32} (h : fX5_canBe x0 x1 = some out) (sz : Nat) : Met l yX5_canBe vsX5_canBe rX5_canBe (va_Pc [.int x0, .int x1] (dk_Pre (dC, dI) (dk_ty cI cJ cZ) [] sz)) (dk_Qi (dC, dI) (dk_ty cI cJ cZ) [] out (va_A [] sz)) 0 0 (va_A [] sz) := by
  refine dk_met (cc := cX5_canBe) (maxL := 2) (ret := (some .boolean)) (Qc := fun A => dk_Qi (dC, dI) (dk_ty cI cJ cZ) [] out A) (by decide) rfl (Nat.le_of_ble_eq_true rfl) ?_
  intro p e s m below meth c A C hnm hA hK hP hD hS ls hl
  have C : dk_C p s m meth c _ cX5_canBe (some .boolean) 2 RX5 vsX5_canBe := C
  obtain ⟨hx, hb, hr, hml, hown, hts, hlocks⟩ := id C
  have hl : lv_has ls 2 [(0, .int x0), (1, .int x1)] := hl
  unfold fX5_canBe at h
  refine lv_iload_n hx hb dX5_canBe_0 rfl (lv_at hl 1 rfl) ?_
  refine lv_iload_n hx hb dX5_canBe_1 rfl (lv_at hl 0 rfl) ?_
  refine lv_iconst (v := 2) hx hb dX5_canBe_2 (by decide) ?_
  refine lv_icmp_ne (tgt := 10) hx hb dX5_canBe_3 (by decide) (fun c_1 => ?_) (fun c_1 => ?_)
  · replace h := dk_ie c_1 h
    refine lv_iconst (v := 0) hx hb dX5_canBe_10 (by decide) ?_
    exact kX5_canBe_11 C hK hA h _ _ hP hD hS ls (lv_sub hl [1] rfl)
  · replace h := dk_it c_1 h
    refine lv_iconst (v := 1) hx hb dX5_canBe_6 (by decide) ?_
    refine lv_goto (tgt := 11) hx hb dX5_canBe_7 (by decide) ?_
    exact kX5_canBe_11 C hK hA h _ _ hP hD hS ls (lv_sub hl [1] rfl)
/-! ===== SquareTiler$Squares.takeFrom ===== -/
abbrev rX5_takeFrom : Room := { frames := 1, cells := 0, slots := 0, locals := 40 }
def ovX5_takeFrom : List Cond := [Cond.fieldLink RX5 21 "SquareTiler$Squares" "howMany" "I", Cond.fieldLink RX5 9 "SquareTiler$Squares" "left" "[I", Cond.methodLink RX5 26 arraycopyName, Cond.native arraycopyName, Cond.static arraycopyName, Cond.initialized "java/lang/System", Cond.fieldLink RX5 15 "SquareTiler$Squares" "low" "[I", Cond.fieldLink RX5 18 "SquareTiler$Squares" "side" "[I"]
def vsX5_takeFrom : List Cond := .code yX5_takeFrom cX5_takeFrom 2 none :: (ovX5_takeFrom ++ (wsX50 ++ []))
theorem qX5_takeFrom_f21 : Cond.fieldLink RX5 21 "SquareTiler$Squares" "howMany" "I" ∈ vsX5_takeFrom := List.mem_cons_of_mem _ (List.mem_append_left _ (List.mem_of_getElem? (i := 0) rfl))
theorem qX5_takeFrom_f9 : Cond.fieldLink RX5 9 "SquareTiler$Squares" "left" "[I" ∈ vsX5_takeFrom := List.mem_cons_of_mem _ (List.mem_append_left _ (List.mem_of_getElem? (i := 1) rfl))
theorem qX5_takeFrom_ac1 : Cond.methodLink RX5 26 arraycopyName ∈ vsX5_takeFrom := List.mem_cons_of_mem _ (List.mem_append_left _ (List.mem_of_getElem? (i := 2) rfl))
theorem qX5_takeFrom_ac2 : Cond.native arraycopyName ∈ vsX5_takeFrom := List.mem_cons_of_mem _ (List.mem_append_left _ (List.mem_of_getElem? (i := 3) rfl))
theorem qX5_takeFrom_ac3 : Cond.static arraycopyName ∈ vsX5_takeFrom := List.mem_cons_of_mem _ (List.mem_append_left _ (List.mem_of_getElem? (i := 4) rfl))
theorem qX5_takeFrom_ac4 : Cond.initialized "java/lang/System" ∈ vsX5_takeFrom := List.mem_cons_of_mem _ (List.mem_append_left _ (List.mem_of_getElem? (i := 5) rfl))
theorem qX5_takeFrom_f15 : Cond.fieldLink RX5 15 "SquareTiler$Squares" "low" "[I" ∈ vsX5_takeFrom := List.mem_cons_of_mem _ (List.mem_append_left _ (List.mem_of_getElem? (i := 6) rfl))
theorem qX5_takeFrom_f18 : Cond.fieldLink RX5 18 "SquareTiler$Squares" "side" "[I" ∈ vsX5_takeFrom := List.mem_cons_of_mem _ (List.mem_append_left _ (List.mem_of_getElem? (i := 7) rfl))
theorem qX5_takeFrom_X5 : ∀ w ∈ u_ws RX5 TX5 4, w ∈ vsX5_takeFrom := fun w h => List.mem_cons_of_mem _ (List.mem_append_right _ (List.mem_append_left _ h))
theorem gd_vsX5_takeFrom : ∀ w ∈ vsX5_takeFrom, goodWord w = true := dk_cons rfl (dk_app (dk_all (by decide +kernel)) (dk_app gd_wsX50 dk_nil))
def fX5_takeFrom (S_left S_low S_side : Nat → Int32) (S_howMany : Int32) (O_left O_low O_side : Nat → Int32) (O_howMany : Int32) : Option ((Nat → Int32) × (Nat → Int32) × (Nat → Int32) × Int32) := dk_let (va_cpy O_left S_left (0 : Int32).toNatClampNeg (0 : Int32).toNatClampNeg (21 : Int32).toNatClampNeg) (fun S_left_1 => dk_let (va_cpy O_low S_low (0 : Int32).toNatClampNeg (0 : Int32).toNatClampNeg (21 : Int32).toNatClampNeg) (fun S_low_2 => dk_let (va_cpy O_side S_side (0 : Int32).toNatClampNeg (0 : Int32).toNatClampNeg (21 : Int32).toNatClampNeg) (fun S_side_3 => some (S_left_1, S_low_2, S_side_3, O_howMany))))
section
variable {p : Program} {l : Launch} {e : Env} {s : State} {m : MethodId} {args : Array Value} {below : List Frame} {meth : Method} {c : Code} {dC : Nat → ClassId} {dI : Nat → Nat → Nat} {cI cJ cZ : ClassId} {A : Nat → Prop} {oS : Nat} {aS : Nat → Nat} {oO : Nat} {aO : Nat → Nat} {S_left S_low S_side : Nat → Int32} {S_howMany : Int32} {O_left O_low O_side : Nat → Int32} {O_howMany : Int32}
end
set_option maxHeartbeats 4000000 in
set_option maxRecDepth 100000 in
theorem mX5_takeFrom (l : Launch) (dC : Nat → ClassId) (dI : Nat → Nat → Nat) (cI cJ cZ : ClassId) {oS : Nat} {aS : Nat → Nat} {oO : Nat} {aO : Nat → Nat} {S_left S_low S_side : Nat → Int32} {S_howMany : Int32} {O_left O_low O_side : Nat → Int32} {O_howMany : Int32} {out : (Nat → Int32) × (Nat → Int32) × (Nat → Int32) × Int32} (h : fX5_takeFrom S_left S_low S_side S_howMany O_left O_low O_side O_howMany = some out) (sz : Nat) : Met l yX5_takeFrom vsX5_takeFrom rX5_takeFrom (va_Pc [.ref oS, .ref oO] (dk_Pre (dC, dI) (dk_ty cI cJ cZ) (wX5 oS aS cI cJ cZ S_left S_low S_side S_howMany ++ (wX5 oO aO cI cJ cZ O_left O_low O_side O_howMany)) sz)) (dk_Qv (dC, dI) (dk_ty cI cJ cZ) (wX5 oS aS cI cJ cZ out.1 out.2.1 out.2.2.1 out.2.2.2 ++ (wX5 oO aO cI cJ cZ O_left O_low O_side O_howMany)) (va_A (wX5 oS aS cI cJ cZ S_left S_low S_side S_howMany ++ (wX5 oO aO cI cJ cZ O_left O_low O_side O_howMany)) sz)) 0 0 (va_A (wX5 oS aS cI cJ cZ S_left S_low S_side S_howMany ++ (wX5 oO aO cI cJ cZ O_left O_low O_side O_howMany)) sz) := by
  refine dk_met (cc := cX5_takeFrom) (maxL := 2) (ret := none) (Qc := fun A => dk_Qv (dC, dI) (dk_ty cI cJ cZ) (wX5 oS aS cI cJ cZ out.1 out.2.1 out.2.2.1 out.2.2.2 ++ (wX5 oO aO cI cJ cZ O_left O_low O_side O_howMany)) A) (by decide) rfl (Nat.le_of_ble_eq_true rfl) ?_
  intro p e s m below meth c A C hnm hA hK hP hD hS ls hl
  have C : dk_C p s m meth c _ cX5_takeFrom none 2 RX5 vsX5_takeFrom := C
  obtain ⟨hx, hb, hr, hml, hown, hts, hlocks⟩ := id C
  have hl : lv_has ls 2 [(0, .ref oS), (1, .ref oO)] := hl
  unfold fX5_takeFrom at h
  refine lv_aload_n hx hb dX5_takeFrom_0 rfl (lv_at hl 0 rfl) ?_
  refine lv_aload_n hx hb dX5_takeFrom_1 rfl (lv_at hl 1 rfl) ?_
  refine va_get (D := (dC, dI)) (ci := 5) (v := .int O_howMany) (C := RX5) (T := TX5) (N := 4) hx hb hts qX5_takeFrom_X5 hown hK hP 4 rfl rfl 3 (by decide) (hts _ qX5_takeFrom_f21) (fun _ h9 => h9) rfl dX5_takeFrom_2 ?_
  refine va_put (D := (dC, dI)) (ci := 5) (v := .int O_howMany) (ty := .int) (C := RX5) (T := TX5) (N := 4) hx hb hts qX5_takeFrom_X5 tyX5 tyX5_ok nmX5 hown hK hP hD hS 0 rfl rfl 3 (by decide) (hts _ qX5_takeFrom_f21) (fun _ h9 => h9) rfl (by decide +kernel) rfl rfl (Nat.le_of_ble_eq_true rfl) dX5_takeFrom_5 (fun H locs hP hD hS => ?_)
  have hP : va_P (dC, dI) vwCl (wX5 oS aS cI cJ cZ S_left S_low S_side O_howMany ++ (wX5 oO aO cI cJ cZ O_left O_low O_side O_howMany)) H := hP
  have hD : va_D A (wX5 oS aS cI cJ cZ S_left S_low S_side O_howMany ++ (wX5 oO aO cI cJ cZ O_left O_low O_side O_howMany)) := hD
  refine lv_aload_n hx hb dX5_takeFrom_8 rfl (lv_at hl 1 rfl) ?_
  refine va_get (D := (dC, dI)) (ci := 5) (v := .ref (aO 0)) (C := RX5) (T := TX5) (N := 4) hx hb hts qX5_takeFrom_X5 hown hK hP 4 rfl rfl 0 (by decide) (hts _ qX5_takeFrom_f9) (fun _ h9 => h9) rfl dX5_takeFrom_9 ?_
  refine lv_iconst (v := 0) hx hb dX5_takeFrom_12 (by decide) ?_
  refine lv_aload_n hx hb dX5_takeFrom_13 rfl (lv_at hl 0 rfl) ?_
  refine va_get (D := (dC, dI)) (ci := 5) (v := .ref (aS 0)) (C := RX5) (T := TX5) (N := 4) hx hb hts qX5_takeFrom_X5 hown hK hP 0 rfl rfl 0 (by decide) (hts _ qX5_takeFrom_f9) (fun _ h9 => h9) rfl dX5_takeFrom_14 ?_
  refine lv_iconst (v := 0) hx hb dX5_takeFrom_17 (by decide) ?_
  refine lv_bipush (v := 21) hx hb dX5_takeFrom_18 (by decide) ?_
  refine va_copyi hx hb (hml.trans hl.1.symm) hown (hts _ qX5_takeFrom_ac1) (hts _ qX5_takeFrom_ac2) (hts _ qX5_takeFrom_ac3) (hts _ qX5_takeFrom_ac4) hK hP hD hS 5 1 0 0 rfl rfl rfl rfl rfl (by decide) (by decide) (by decide) (by decide +kernel) (by decide +kernel) (fun _ _ => rfl) (Nat.le_of_ble_eq_true rfl) (Nat.le_of_ble_eq_true rfl) dX5_takeFrom_20 (fun H locs hP hD hS => ?_)
  obtain ⟨S_left_1, eS_left_1⟩ : ∃ z : Nat → Int32, z = va_cpy O_left S_left (0 : Int32).toNatClampNeg (0 : Int32).toNatClampNeg (21 : Int32).toNatClampNeg := ⟨_, rfl⟩
  replace h := dk_let_to eS_left_1 h
  have hP : va_P (dC, dI) vwCl (wX5 oS aS cI cJ cZ S_left_1 S_low S_side O_howMany ++ (wX5 oO aO cI cJ cZ O_left O_low O_side O_howMany)) H := by rw [eS_left_1]; exact hP
  have hD : va_D A (wX5 oS aS cI cJ cZ S_left_1 S_low S_side O_howMany ++ (wX5 oO aO cI cJ cZ O_left O_low O_side O_howMany)) := by rw [eS_left_1]; exact hD
  refine lv_aload_n hx hb dX5_takeFrom_23 rfl (lv_at hl 1 rfl) ?_
  refine va_get (D := (dC, dI)) (ci := 5) (v := .ref (aO 1)) (C := RX5) (T := TX5) (N := 4) hx hb hts qX5_takeFrom_X5 hown hK hP 4 rfl rfl 1 (by decide) (hts _ qX5_takeFrom_f15) (fun _ h9 => h9) rfl dX5_takeFrom_24 ?_
  refine lv_iconst (v := 0) hx hb dX5_takeFrom_27 (by decide) ?_
  refine lv_aload_n hx hb dX5_takeFrom_28 rfl (lv_at hl 0 rfl) ?_
  refine va_get (D := (dC, dI)) (ci := 5) (v := .ref (aS 1)) (C := RX5) (T := TX5) (N := 4) hx hb hts qX5_takeFrom_X5 hown hK hP 0 rfl rfl 1 (by decide) (hts _ qX5_takeFrom_f15) (fun _ h9 => h9) rfl dX5_takeFrom_29 ?_
  refine lv_iconst (v := 0) hx hb dX5_takeFrom_32 (by decide) ?_
  refine lv_bipush (v := 21) hx hb dX5_takeFrom_33 (by decide) ?_
  refine va_copyi hx hb (hml.trans hl.1.symm) hown (hts _ qX5_takeFrom_ac1) (hts _ qX5_takeFrom_ac2) (hts _ qX5_takeFrom_ac3) (hts _ qX5_takeFrom_ac4) hK hP hD hS 6 2 0 0 rfl rfl rfl rfl rfl (by decide) (by decide) (by decide) (by decide +kernel) (by decide +kernel) (fun _ _ => rfl) (Nat.le_of_ble_eq_true rfl) (Nat.le_of_ble_eq_true rfl) dX5_takeFrom_35 (fun H locs hP hD hS => ?_)
  obtain ⟨S_low_2, eS_low_2⟩ : ∃ z : Nat → Int32, z = va_cpy O_low S_low (0 : Int32).toNatClampNeg (0 : Int32).toNatClampNeg (21 : Int32).toNatClampNeg := ⟨_, rfl⟩
  replace h := dk_let_to eS_low_2 h
  have hP : va_P (dC, dI) vwCl (wX5 oS aS cI cJ cZ S_left_1 S_low_2 S_side O_howMany ++ (wX5 oO aO cI cJ cZ O_left O_low O_side O_howMany)) H := by rw [eS_low_2]; exact hP
  have hD : va_D A (wX5 oS aS cI cJ cZ S_left_1 S_low_2 S_side O_howMany ++ (wX5 oO aO cI cJ cZ O_left O_low O_side O_howMany)) := by rw [eS_low_2]; exact hD
  refine lv_aload_n hx hb dX5_takeFrom_38 rfl (lv_at hl 1 rfl) ?_
  refine va_get (D := (dC, dI)) (ci := 5) (v := .ref (aO 2)) (C := RX5) (T := TX5) (N := 4) hx hb hts qX5_takeFrom_X5 hown hK hP 4 rfl rfl 2 (by decide) (hts _ qX5_takeFrom_f18) (fun _ h9 => h9) rfl dX5_takeFrom_39 ?_
  refine lv_iconst (v := 0) hx hb dX5_takeFrom_42 (by decide) ?_
  refine lv_aload_n hx hb dX5_takeFrom_43 rfl (lv_at hl 0 rfl) ?_
  refine va_get (D := (dC, dI)) (ci := 5) (v := .ref (aS 2)) (C := RX5) (T := TX5) (N := 4) hx hb hts qX5_takeFrom_X5 hown hK hP 0 rfl rfl 2 (by decide) (hts _ qX5_takeFrom_f18) (fun _ h9 => h9) rfl dX5_takeFrom_44 ?_
  refine lv_iconst (v := 0) hx hb dX5_takeFrom_47 (by decide) ?_
  refine lv_bipush (v := 21) hx hb dX5_takeFrom_48 (by decide) ?_
  refine va_copyi hx hb (hml.trans hl.1.symm) hown (hts _ qX5_takeFrom_ac1) (hts _ qX5_takeFrom_ac2) (hts _ qX5_takeFrom_ac3) (hts _ qX5_takeFrom_ac4) hK hP hD hS 7 3 0 0 rfl rfl rfl rfl rfl (by decide) (by decide) (by decide) (by decide +kernel) (by decide +kernel) (fun _ _ => rfl) (Nat.le_of_ble_eq_true rfl) (Nat.le_of_ble_eq_true rfl) dX5_takeFrom_50 (fun H locs hP hD hS => ?_)
  obtain ⟨S_side_3, eS_side_3⟩ : ∃ z : Nat → Int32, z = va_cpy O_side S_side (0 : Int32).toNatClampNeg (0 : Int32).toNatClampNeg (21 : Int32).toNatClampNeg := ⟨_, rfl⟩
  replace h := dk_let_to eS_side_3 h
  have hP : va_P (dC, dI) vwCl (wX5 oS aS cI cJ cZ S_left_1 S_low_2 S_side_3 O_howMany ++ (wX5 oO aO cI cJ cZ O_left O_low O_side O_howMany)) H := by rw [eS_side_3]; exact hP
  have hD : va_D A (wX5 oS aS cI cJ cZ S_left_1 S_low_2 S_side_3 O_howMany ++ (wX5 oO aO cI cJ cZ O_left O_low O_side O_howMany)) := by rw [eS_side_3]; exact hD
  have e9 := Option.some.inj h
  subst e9
  exact dk_vret C hK hP hD hS dX5_takeFrom_53
/-! ===== SquareTiler$Squares.tellOne ===== -/
abbrev rX5_tellOne : Room := { frames := 0, cells := 0, slots := 0, locals := 0 }
def ovX5_tellOne : List Cond := [Cond.fieldLink RX5 18 "SquareTiler$Squares" "side" "[I", Cond.fieldLink RX5 15 "SquareTiler$Squares" "low" "[I", Cond.fieldLink RX5 9 "SquareTiler$Squares" "left" "[I"]
def vsX5_tellOne : List Cond := .code yX5_tellOne cX5_tellOne 3 (some .int) :: (ovX5_tellOne ++ (wsX50 ++ []))
theorem qX5_tellOne_f18 : Cond.fieldLink RX5 18 "SquareTiler$Squares" "side" "[I" ∈ vsX5_tellOne := List.mem_cons_of_mem _ (List.mem_append_left _ (List.mem_of_getElem? (i := 0) rfl))
theorem qX5_tellOne_f15 : Cond.fieldLink RX5 15 "SquareTiler$Squares" "low" "[I" ∈ vsX5_tellOne := List.mem_cons_of_mem _ (List.mem_append_left _ (List.mem_of_getElem? (i := 1) rfl))
theorem qX5_tellOne_f9 : Cond.fieldLink RX5 9 "SquareTiler$Squares" "left" "[I" ∈ vsX5_tellOne := List.mem_cons_of_mem _ (List.mem_append_left _ (List.mem_of_getElem? (i := 2) rfl))
theorem qX5_tellOne_X5 : ∀ w ∈ u_ws RX5 TX5 4, w ∈ vsX5_tellOne := fun w h => List.mem_cons_of_mem _ (List.mem_append_right _ (List.mem_append_left _ h))
theorem gd_vsX5_tellOne : ∀ w ∈ vsX5_tellOne, goodWord w = true := dk_cons rfl (dk_app (dk_all (by decide +kernel)) (dk_app gd_wsX50 dk_nil))
def fX5_tellOne (S_left S_low S_side : Nat → Int32) (x1 x2 : Int32) : Option (Int32) := if x2 = 0 then dk_gd (dk_in x1 21) (some (S_left x1.toNatClampNeg)) else if x2 = 1 then dk_gd (dk_in x1 21) (some (S_low x1.toNatClampNeg)) else dk_gd (dk_in x1 21) (some (S_side x1.toNatClampNeg))
section
variable {p : Program} {l : Launch} {e : Env} {s : State} {m : MethodId} {args : Array Value} {below : List Frame} {meth : Method} {c : Code} {dC : Nat → ClassId} {dI : Nat → Nat → Nat} {cI cJ cZ : ClassId} {A : Nat → Prop} {oS : Nat} {aS : Nat → Nat} {S_left S_low S_side : Nat → Int32} {S_howMany : Int32}
end
set_option maxHeartbeats 4000000 in
set_option maxRecDepth 100000 in
theorem mX5_tellOne (l : Launch) (dC : Nat → ClassId) (dI : Nat → Nat → Nat) (cI cJ cZ : ClassId) {oS : Nat} {aS : Nat → Nat} {S_left S_low S_side : Nat → Int32} {S_howMany : Int32} {x1 x2 : Int32} {out : Int32} (h : fX5_tellOne S_left S_low S_side x1 x2 = some out) (sz : Nat) : Met l yX5_tellOne vsX5_tellOne rX5_tellOne (va_Pc [.ref oS, .int x1, .int x2] (dk_Pre (dC, dI) (dk_ty cI cJ cZ) (wX5 oS aS cI cJ cZ S_left S_low S_side S_howMany) sz)) (dk_Qi (dC, dI) (dk_ty cI cJ cZ) (wX5 oS aS cI cJ cZ S_left S_low S_side S_howMany) out (va_A (wX5 oS aS cI cJ cZ S_left S_low S_side S_howMany) sz)) 0 0 (va_A (wX5 oS aS cI cJ cZ S_left S_low S_side S_howMany) sz) := by
  refine dk_met (cc := cX5_tellOne) (maxL := 3) (ret := (some .int)) (Qc := fun A => dk_Qi (dC, dI) (dk_ty cI cJ cZ) (wX5 oS aS cI cJ cZ S_left S_low S_side S_howMany) out A) (by decide) rfl (Nat.le_of_ble_eq_true rfl) ?_
  intro p e s m below meth c A C hnm hA hK hP hD hS ls hl
  have C : dk_C p s m meth c _ cX5_tellOne (some .int) 3 RX5 vsX5_tellOne := C
  obtain ⟨hx, hb, hr, hml, hown, hts, hlocks⟩ := id C
  have hl : lv_has ls 3 [(0, .ref oS), (1, .int x1), (2, .int x2)] := hl
  unfold fX5_tellOne at h
  refine lv_iload_n hx hb dX5_tellOne_0 rfl (lv_at hl 2 rfl) ?_
  refine lv_if_ne (tgt := 13) hx hb dX5_tellOne_1 (by decide) (fun c_1 => ?_) (fun c_1 => ?_)
  · replace h := dk_ie c_1 h
    refine lv_iload_n hx hb dX5_tellOne_13 rfl (lv_at hl 2 rfl) ?_
    refine lv_iconst (v := 1) hx hb dX5_tellOne_14 (by decide) ?_
    refine lv_icmp_ne (tgt := 27) hx hb dX5_tellOne_15 (by decide) (fun c_2 => ?_) (fun c_2 => ?_)
    · replace h := dk_ie c_2 h
      refine lv_aload_n hx hb dX5_tellOne_27 rfl (lv_at hl 0 rfl) ?_
      refine va_get (D := (dC, dI)) (ci := 5) (v := .ref (aS 2)) (C := RX5) (T := TX5) (N := 4) hx hb hts qX5_tellOne_X5 hown hK hP 0 rfl rfl 2 (by decide) (hts _ qX5_tellOne_f18) (fun _ h9 => h9) rfl dX5_tellOne_28 ?_
      refine lv_iload_n hx hb dX5_tellOne_31 rfl (lv_at hl 1 rfl) ?_
      obtain ⟨g_3, h⟩ := dk_gd_to h
      have g_3 := dk_in_to g_3
      refine va_iald hx hb hK hP 3 0 rfl rfl g_3 dX5_tellOne_32 ?_
      have e9 := Option.some.inj h
      subst e9
      exact dk_iret C hK hP hD hS rfl dX5_tellOne_33
    · replace h := dk_it c_2 h
      refine lv_aload_n hx hb dX5_tellOne_18 rfl (lv_at hl 0 rfl) ?_
      refine va_get (D := (dC, dI)) (ci := 5) (v := .ref (aS 1)) (C := RX5) (T := TX5) (N := 4) hx hb hts qX5_tellOne_X5 hown hK hP 0 rfl rfl 1 (by decide) (hts _ qX5_tellOne_f15) (fun _ h9 => h9) rfl dX5_tellOne_19 ?_
      refine lv_iload_n hx hb dX5_tellOne_22 rfl (lv_at hl 1 rfl) ?_
      obtain ⟨g_4, h⟩ := dk_gd_to h
      have g_4 := dk_in_to g_4
      refine va_iald hx hb hK hP 2 0 rfl rfl g_4 dX5_tellOne_23 ?_
      refine lv_goto (tgt := 33) hx hb dX5_tellOne_24 (by decide) ?_
      have e9 := Option.some.inj h
      subst e9
      exact dk_iret C hK hP hD hS rfl dX5_tellOne_33
  · replace h := dk_it c_1 h
    refine lv_aload_n hx hb dX5_tellOne_4 rfl (lv_at hl 0 rfl) ?_
    refine va_get (D := (dC, dI)) (ci := 5) (v := .ref (aS 0)) (C := RX5) (T := TX5) (N := 4) hx hb hts qX5_tellOne_X5 hown hK hP 0 rfl rfl 0 (by decide) (hts _ qX5_tellOne_f9) (fun _ h9 => h9) rfl dX5_tellOne_5 ?_
    refine lv_iload_n hx hb dX5_tellOne_8 rfl (lv_at hl 1 rfl) ?_
    obtain ⟨g_5, h⟩ := dk_gd_to h
    have g_5 := dk_in_to g_5
    refine va_iald hx hb hK hP 1 0 rfl rfl g_5 dX5_tellOne_9 ?_
    refine lv_goto (tgt := 33) hx hb dX5_tellOne_10 (by decide) ?_
    have e9 := Option.some.inj h
    subst e9
    exact dk_iret C hK hP hD hS rfl dX5_tellOne_33
/-! ===== SquareTiler$Squares.setOne ===== -/
abbrev rX5_setOne : Room := { frames := 0, cells := 0, slots := 0, locals := 0 }
def ovX5_setOne : List Cond := [Cond.fieldLink RX5 18 "SquareTiler$Squares" "side" "[I", Cond.fieldLink RX5 15 "SquareTiler$Squares" "low" "[I", Cond.fieldLink RX5 9 "SquareTiler$Squares" "left" "[I"]
def vsX5_setOne : List Cond := .code yX5_setOne cX5_setOne 4 none :: (ovX5_setOne ++ (wsX50 ++ []))
theorem qX5_setOne_f18 : Cond.fieldLink RX5 18 "SquareTiler$Squares" "side" "[I" ∈ vsX5_setOne := List.mem_cons_of_mem _ (List.mem_append_left _ (List.mem_of_getElem? (i := 0) rfl))
theorem qX5_setOne_f15 : Cond.fieldLink RX5 15 "SquareTiler$Squares" "low" "[I" ∈ vsX5_setOne := List.mem_cons_of_mem _ (List.mem_append_left _ (List.mem_of_getElem? (i := 1) rfl))
theorem qX5_setOne_f9 : Cond.fieldLink RX5 9 "SquareTiler$Squares" "left" "[I" ∈ vsX5_setOne := List.mem_cons_of_mem _ (List.mem_append_left _ (List.mem_of_getElem? (i := 2) rfl))
theorem qX5_setOne_X5 : ∀ w ∈ u_ws RX5 TX5 4, w ∈ vsX5_setOne := fun w h => List.mem_cons_of_mem _ (List.mem_append_right _ (List.mem_append_left _ h))
theorem gd_vsX5_setOne : ∀ w ∈ vsX5_setOne, goodWord w = true := dk_cons rfl (dk_app (dk_all (by decide +kernel)) (dk_app gd_wsX50 dk_nil))
def fX5_setOne (S_left S_low S_side : Nat → Int32) (x1 x2 x3 : Int32) : Option ((Nat → Int32) × (Nat → Int32) × (Nat → Int32)) := if x2 = 0 then dk_gd (dk_in x1 21) (dk_let (upd S_left x1.toNatClampNeg x3) (fun S_left_8 => some (S_left_8, S_low, S_side))) else if x2 = 1 then dk_gd (dk_in x1 21) (dk_let (upd S_low x1.toNatClampNeg x3) (fun S_low_6 => some (S_left, S_low_6, S_side))) else dk_gd (dk_in x1 21) (dk_let (upd S_side x1.toNatClampNeg x3) (fun S_side_4 => some (S_left, S_low, S_side_4)))
section
variable {p : Program} {l : Launch} {e : Env} {s : State} {m : MethodId} {args : Array Value} {below : List Frame} {meth : Method} {c : Code} {dC : Nat → ClassId} {dI : Nat → Nat → Nat} {cI cJ cZ : ClassId} {A : Nat → Prop} {oS : Nat} {aS : Nat → Nat} {S_left S_low S_side : Nat → Int32} {S_howMany : Int32}
end
set_option maxHeartbeats 4000000 in
set_option maxRecDepth 100000 in
theorem mX5_setOne (l : Launch) (dC : Nat → ClassId) (dI : Nat → Nat → Nat) (cI cJ cZ : ClassId) {oS : Nat} {aS : Nat → Nat} {S_left S_low S_side : Nat → Int32} {S_howMany : Int32} {x1 x2 x3 : Int32} {out : (Nat → Int32) × (Nat → Int32) × (Nat → Int32)} (h : fX5_setOne S_left S_low S_side x1 x2 x3 = some out) (sz : Nat) : Met l yX5_setOne vsX5_setOne rX5_setOne (va_Pc [.ref oS, .int x1, .int x2, .int x3] (dk_Pre (dC, dI) (dk_ty cI cJ cZ) (wX5 oS aS cI cJ cZ S_left S_low S_side S_howMany) sz)) (dk_Qv (dC, dI) (dk_ty cI cJ cZ) (wX5 oS aS cI cJ cZ out.1 out.2.1 out.2.2 S_howMany) (va_A (wX5 oS aS cI cJ cZ S_left S_low S_side S_howMany) sz)) 0 0 (va_A (wX5 oS aS cI cJ cZ S_left S_low S_side S_howMany) sz) := by
  refine dk_met (cc := cX5_setOne) (maxL := 4) (ret := none) (Qc := fun A => dk_Qv (dC, dI) (dk_ty cI cJ cZ) (wX5 oS aS cI cJ cZ out.1 out.2.1 out.2.2 S_howMany) A) (by decide) rfl (Nat.le_of_ble_eq_true rfl) ?_
  intro p e s m below meth c A C hnm hA hK hP hD hS ls hl
  have C : dk_C p s m meth c _ cX5_setOne none 4 RX5 vsX5_setOne := C
  obtain ⟨hx, hb, hr, hml, hown, hts, hlocks⟩ := id C
  have hl : lv_has ls 4 [(0, .ref oS), (1, .int x1), (2, .int x2), (3, .int x3)] := hl
  unfold fX5_setOne at h
  refine lv_iload_n hx hb dX5_setOne_0 rfl (lv_at hl 2 rfl) ?_
  refine lv_if_ne (tgt := 14) hx hb dX5_setOne_1 (by decide) (fun c_1 => ?_) (fun c_1 => ?_)
  · replace h := dk_ie c_1 h
    refine lv_iload_n hx hb dX5_setOne_14 rfl (lv_at hl 2 rfl) ?_
    refine lv_iconst (v := 1) hx hb dX5_setOne_15 (by decide) ?_
    refine lv_icmp_ne (tgt := 29) hx hb dX5_setOne_16 (by decide) (fun c_2 => ?_) (fun c_2 => ?_)
    · replace h := dk_ie c_2 h
      refine lv_aload_n hx hb dX5_setOne_29 rfl (lv_at hl 0 rfl) ?_
      refine va_get (D := (dC, dI)) (ci := 5) (v := .ref (aS 2)) (C := RX5) (T := TX5) (N := 4) hx hb hts qX5_setOne_X5 hown hK hP 0 rfl rfl 2 (by decide) (hts _ qX5_setOne_f18) (fun _ h9 => h9) rfl dX5_setOne_30 ?_
      refine lv_iload_n hx hb dX5_setOne_33 rfl (lv_at hl 1 rfl) ?_
      refine lv_iload_n hx hb dX5_setOne_34 rfl (lv_at hl 3 rfl) ?_
      obtain ⟨g_3, h⟩ := dk_gd_to h
      have g_3 := dk_in_to g_3
      refine va_iast hx hb hK hP hD hS 3 0 rfl rfl g_3 dX5_setOne_35 (fun H locs hP hD hS => ?_)
      obtain ⟨S_side_4, eS_side_4⟩ : ∃ z : Nat → Int32, z = upd S_side x1.toNatClampNeg x3 := ⟨_, rfl⟩
      replace h := dk_let_to eS_side_4 h
      have hP : va_P (dC, dI) vwCl (wX5 oS aS cI cJ cZ S_left S_low S_side_4 S_howMany) H := by rw [eS_side_4]; exact hP
      have hD : va_D A (wX5 oS aS cI cJ cZ S_left S_low S_side_4 S_howMany) := by rw [eS_side_4]; exact hD
      have e9 := Option.some.inj h
      subst e9
      exact dk_vret C hK hP hD hS dX5_setOne_36
    · replace h := dk_it c_2 h
      refine lv_aload_n hx hb dX5_setOne_19 rfl (lv_at hl 0 rfl) ?_
      refine va_get (D := (dC, dI)) (ci := 5) (v := .ref (aS 1)) (C := RX5) (T := TX5) (N := 4) hx hb hts qX5_setOne_X5 hown hK hP 0 rfl rfl 1 (by decide) (hts _ qX5_setOne_f15) (fun _ h9 => h9) rfl dX5_setOne_20 ?_
      refine lv_iload_n hx hb dX5_setOne_23 rfl (lv_at hl 1 rfl) ?_
      refine lv_iload_n hx hb dX5_setOne_24 rfl (lv_at hl 3 rfl) ?_
      obtain ⟨g_5, h⟩ := dk_gd_to h
      have g_5 := dk_in_to g_5
      refine va_iast hx hb hK hP hD hS 2 0 rfl rfl g_5 dX5_setOne_25 (fun H locs hP hD hS => ?_)
      obtain ⟨S_low_6, eS_low_6⟩ : ∃ z : Nat → Int32, z = upd S_low x1.toNatClampNeg x3 := ⟨_, rfl⟩
      replace h := dk_let_to eS_low_6 h
      have hP : va_P (dC, dI) vwCl (wX5 oS aS cI cJ cZ S_left S_low_6 S_side S_howMany) H := by rw [eS_low_6]; exact hP
      have hD : va_D A (wX5 oS aS cI cJ cZ S_left S_low_6 S_side S_howMany) := by rw [eS_low_6]; exact hD
      refine lv_goto (tgt := 36) hx hb dX5_setOne_26 (by decide) ?_
      have e9 := Option.some.inj h
      subst e9
      exact dk_vret C hK hP hD hS dX5_setOne_36
  · replace h := dk_it c_1 h
    refine lv_aload_n hx hb dX5_setOne_4 rfl (lv_at hl 0 rfl) ?_
    refine va_get (D := (dC, dI)) (ci := 5) (v := .ref (aS 0)) (C := RX5) (T := TX5) (N := 4) hx hb hts qX5_setOne_X5 hown hK hP 0 rfl rfl 0 (by decide) (hts _ qX5_setOne_f9) (fun _ h9 => h9) rfl dX5_setOne_5 ?_
    refine lv_iload_n hx hb dX5_setOne_8 rfl (lv_at hl 1 rfl) ?_
    refine lv_iload_n hx hb dX5_setOne_9 rfl (lv_at hl 3 rfl) ?_
    obtain ⟨g_7, h⟩ := dk_gd_to h
    have g_7 := dk_in_to g_7
    refine va_iast hx hb hK hP hD hS 1 0 rfl rfl g_7 dX5_setOne_10 (fun H locs hP hD hS => ?_)
    obtain ⟨S_left_8, eS_left_8⟩ : ∃ z : Nat → Int32, z = upd S_left x1.toNatClampNeg x3 := ⟨_, rfl⟩
    replace h := dk_let_to eS_left_8 h
    have hP : va_P (dC, dI) vwCl (wX5 oS aS cI cJ cZ S_left_8 S_low S_side S_howMany) H := by rw [eS_left_8]; exact hP
    have hD : va_D A (wX5 oS aS cI cJ cZ S_left_8 S_low S_side S_howMany) := by rw [eS_left_8]; exact hD
    refine lv_goto (tgt := 36) hx hb dX5_setOne_11 (by decide) ?_
    have e9 := Option.some.inj h
    subst e9
    exact dk_vret C hK hP hD hS dX5_setOne_36
/-! ===== SquareTiler$Squares.overlap ===== -/
abbrev rX5_overlap : Room := { frames := 1, cells := 0, slots := 0, locals := 21 }
def ovX5_overlap : List Cond := [Cond.fieldLink RX5 9 "SquareTiler$Squares" "left" "[I", Cond.fieldLink RX5 15 "SquareTiler$Squares" "low" "[I", Cond.methodLink RX5 32 yX5_right, Cond.instanceMethod yX5_right, Cond.selects RX5 yX5_right yX5_right, Cond.initialized RX5, Cond.methodLink RX5 36 yX5_top, Cond.instanceMethod yX5_top, Cond.selects RX5 yX5_top yX5_top]
def vsX5_overlap : List Cond := .code yX5_overlap cX5_overlap 3 (some .boolean) :: (ovX5_overlap ++ (wsX50 ++ (vsX5_right ++ (vsX5_top ++ []))))
theorem qX5_overlap_f9 : Cond.fieldLink RX5 9 "SquareTiler$Squares" "left" "[I" ∈ vsX5_overlap := List.mem_cons_of_mem _ (List.mem_append_left _ (List.mem_of_getElem? (i := 0) rfl))
theorem qX5_overlap_f15 : Cond.fieldLink RX5 15 "SquareTiler$Squares" "low" "[I" ∈ vsX5_overlap := List.mem_cons_of_mem _ (List.mem_append_left _ (List.mem_of_getElem? (i := 1) rfl))
theorem qX5_overlap_w2 : Cond.methodLink RX5 32 yX5_right ∈ vsX5_overlap := List.mem_cons_of_mem _ (List.mem_append_left _ (List.mem_of_getElem? (i := 2) rfl))
theorem qX5_overlap_w3 : Cond.instanceMethod yX5_right ∈ vsX5_overlap := List.mem_cons_of_mem _ (List.mem_append_left _ (List.mem_of_getElem? (i := 3) rfl))
theorem qX5_overlap_w4 : Cond.selects RX5 yX5_right yX5_right ∈ vsX5_overlap := List.mem_cons_of_mem _ (List.mem_append_left _ (List.mem_of_getElem? (i := 4) rfl))
theorem qX5_overlap_w5 : Cond.initialized RX5 ∈ vsX5_overlap := List.mem_cons_of_mem _ (List.mem_append_left _ (List.mem_of_getElem? (i := 5) rfl))
theorem qX5_overlap_w6 : Cond.methodLink RX5 36 yX5_top ∈ vsX5_overlap := List.mem_cons_of_mem _ (List.mem_append_left _ (List.mem_of_getElem? (i := 6) rfl))
theorem qX5_overlap_w7 : Cond.instanceMethod yX5_top ∈ vsX5_overlap := List.mem_cons_of_mem _ (List.mem_append_left _ (List.mem_of_getElem? (i := 7) rfl))
theorem qX5_overlap_w8 : Cond.selects RX5 yX5_top yX5_top ∈ vsX5_overlap := List.mem_cons_of_mem _ (List.mem_append_left _ (List.mem_of_getElem? (i := 8) rfl))
theorem qX5_overlap_X5 : ∀ w ∈ u_ws RX5 TX5 4, w ∈ vsX5_overlap := fun w h => List.mem_cons_of_mem _ (List.mem_append_right _ (List.mem_append_left _ h))
theorem gd_vsX5_overlap : ∀ w ∈ vsX5_overlap, goodWord w = true := dk_cons rfl (dk_app (dk_all (by decide +kernel)) (dk_app gd_wsX50 (dk_app gd_vsX5_right (dk_app gd_vsX5_top dk_nil))))
theorem gvX5_overlap_X5_right : GoodIn vsX5_overlap (wsV RX5 32 RX5 yX5_right vsX5_right) := goodIn_app (dk_g4 qX5_overlap_w2 qX5_overlap_w3 qX5_overlap_w4 qX5_overlap_w5 rfl) (dk_gIn (fun w h => List.mem_cons_of_mem _ (List.mem_append_right _ (List.mem_append_right _ (List.mem_append_left _ h)))) gd_vsX5_right)
theorem gvX5_overlap_X5_top : GoodIn vsX5_overlap (wsV RX5 36 RX5 yX5_top vsX5_top) := goodIn_app (dk_g4 qX5_overlap_w6 qX5_overlap_w7 qX5_overlap_w8 qX5_overlap_w5 rfl) (dk_gIn (fun w h => List.mem_cons_of_mem _ (List.mem_append_right _ (List.mem_append_right _ (List.mem_append_right _ (List.mem_append_left _ h))))) gd_vsX5_top)
def fX5_overlap (S_left S_low S_side : Nat → Int32) (x1 x2 : Int32) : Option (Int32) := dk_gd (dk_in x1 21) (dk_bnd (fX5_right S_left S_side x2) (fun r_2 => if r_2 ≤ (S_left x1.toNatClampNeg) then some 0 else dk_gd (dk_in x2 21) (dk_bnd (fX5_right S_left S_side x1) (fun r_5 => if r_5 ≤ (S_left x2.toNatClampNeg) then some 0 else dk_bnd (fX5_top S_low S_side x2) (fun r_7 => if r_7 ≤ (S_low x1.toNatClampNeg) then some 0 else dk_bnd (fX5_top S_low S_side x1) (fun r_9 => if r_9 ≤ (S_low x2.toNatClampNeg) then some 0 else some 1))))))
section
variable {p : Program} {l : Launch} {e : Env} {s : State} {m : MethodId} {args : Array Value} {below : List Frame} {meth : Method} {c : Code} {dC : Nat → ClassId} {dI : Nat → Nat → Nat} {cI cJ cZ : ClassId} {A : Nat → Prop} {oS : Nat} {aS : Nat → Nat} {S_left S_low S_side : Nat → Int32} {S_howMany : Int32}
end
set_option maxHeartbeats 4000000 in
set_option maxRecDepth 100000 in
theorem mX5_overlap (l : Launch) (dC : Nat → ClassId) (dI : Nat → Nat → Nat) (cI cJ cZ : ClassId) {oS : Nat} {aS : Nat → Nat} {S_left S_low S_side : Nat → Int32} {S_howMany : Int32} {x1 x2 : Int32} {out : Int32} (h : fX5_overlap S_left S_low S_side x1 x2 = some out) (sz : Nat) : Met l yX5_overlap vsX5_overlap rX5_overlap (va_Pc [.ref oS, .int x1, .int x2] (dk_Pre (dC, dI) (dk_ty cI cJ cZ) (wX5 oS aS cI cJ cZ S_left S_low S_side S_howMany) sz)) (dk_Qi (dC, dI) (dk_ty cI cJ cZ) (wX5 oS aS cI cJ cZ S_left S_low S_side S_howMany) out (va_A (wX5 oS aS cI cJ cZ S_left S_low S_side S_howMany) sz)) 0 0 (va_A (wX5 oS aS cI cJ cZ S_left S_low S_side S_howMany) sz) := by
  refine dk_met (cc := cX5_overlap) (maxL := 3) (ret := (some .boolean)) (Qc := fun A => dk_Qi (dC, dI) (dk_ty cI cJ cZ) (wX5 oS aS cI cJ cZ S_left S_low S_side S_howMany) out A) (by decide) rfl (Nat.le_of_ble_eq_true rfl) ?_
  intro p e s m below meth c A C hnm hA hK hP hD hS ls hl
  have C : dk_C p s m meth c _ cX5_overlap (some .boolean) 3 RX5 vsX5_overlap := C
  obtain ⟨hx, hb, hr, hml, hown, hts, hlocks⟩ := id C
  have hl : lv_has ls 3 [(0, .ref oS), (1, .int x1), (2, .int x2)] := hl
  unfold fX5_overlap at h
  refine lv_aload_n hx hb dX5_overlap_0 rfl (lv_at hl 0 rfl) ?_
  refine va_get (D := (dC, dI)) (ci := 5) (v := .ref (aS 0)) (C := RX5) (T := TX5) (N := 4) hx hb hts qX5_overlap_X5 hown hK hP 0 rfl rfl 0 (by decide) (hts _ qX5_overlap_f9) (fun _ h9 => h9) rfl dX5_overlap_1 ?_
  refine lv_iload_n hx hb dX5_overlap_4 rfl (lv_at hl 1 rfl) ?_
  obtain ⟨g_1, h⟩ := dk_gd_to h
  have g_1 := dk_in_to g_1
  refine va_iald hx hb hK hP 1 0 rfl rfl g_1 dX5_overlap_5 ?_
  refine lv_aload_n hx hb dX5_overlap_6 rfl (lv_at hl 0 rfl) ?_
  refine lv_iload_n hx hb dX5_overlap_7 rfl (lv_at hl 2 rfl) ?_
  obtain ⟨r_2, hcr_2, h⟩ := dk_bnd_to h
  refine dk_rVi (b := oS) (As := [.int x2]) (rest := [.int (S_left x1.toNatClampNeg)]) (wc := (wX5 oS aS cI cJ cZ S_left S_low S_side S_howMany)) C hK hP hD hS hA (mX5_right l dC dI cI cJ cZ hcr_2 _) (cwV 1 hts gvX5_overlap_X5_right rfl rfl rfl (by decide +kernel) ⟨Nat.le_of_ble_eq_true rfl, Nat.le_of_ble_eq_true rfl⟩) [0, 1, 2, 3] rfl (by decide) 0 5 rfl rfl rfl hl.1 rfl (Nat.le_of_ble_eq_true rfl) ⟨Nat.le_of_ble_eq_true rfl, Nat.le_of_ble_eq_true rfl⟩ dX5_overlap_8 (fun H locs hP hD hS => ?_)
  refine lv_icmp_ge (tgt := 60) hx hb dX5_overlap_11 (by decide) (fun c_3 => ?_) (fun c_3 => ?_)
  · replace h := dk_it c_3 h
    refine lv_iconst (v := 0) hx hb dX5_overlap_60 (by decide) ?_
    have e9 := Option.some.inj h
    subst e9
    exact dk_zret C hK hP hD hS (by decide +kernel) rfl dX5_overlap_61
  · replace h := dk_ie c_3 h
    refine lv_aload_n hx hb dX5_overlap_14 rfl (lv_at hl 0 rfl) ?_
    refine va_get (D := (dC, dI)) (ci := 5) (v := .ref (aS 0)) (C := RX5) (T := TX5) (N := 4) hx hb hts qX5_overlap_X5 hown hK hP 0 rfl rfl 0 (by decide) (hts _ qX5_overlap_f9) (fun _ h9 => h9) rfl dX5_overlap_15 ?_
    refine lv_iload_n hx hb dX5_overlap_18 rfl (lv_at hl 2 rfl) ?_
    obtain ⟨g_4, h⟩ := dk_gd_to h
    have g_4 := dk_in_to g_4
    refine va_iald hx hb hK hP 1 0 rfl rfl g_4 dX5_overlap_19 ?_
    refine lv_aload_n hx hb dX5_overlap_20 rfl (lv_at hl 0 rfl) ?_
    refine lv_iload_n hx hb dX5_overlap_21 rfl (lv_at hl 1 rfl) ?_
    obtain ⟨r_5, hcr_5, h⟩ := dk_bnd_to h
    refine dk_rVi (b := oS) (As := [.int x1]) (rest := [.int (S_left x2.toNatClampNeg)]) (wc := (wX5 oS aS cI cJ cZ S_left S_low S_side S_howMany)) C hK hP hD hS hA (mX5_right l dC dI cI cJ cZ hcr_5 _) (cwV 1 hts gvX5_overlap_X5_right rfl rfl rfl (by decide +kernel) ⟨Nat.le_of_ble_eq_true rfl, Nat.le_of_ble_eq_true rfl⟩) [0, 1, 2, 3] rfl (by decide) 0 5 rfl rfl rfl hl.1 rfl (Nat.le_of_ble_eq_true rfl) ⟨Nat.le_of_ble_eq_true rfl, Nat.le_of_ble_eq_true rfl⟩ dX5_overlap_22 (fun H locs hP hD hS => ?_)
    refine lv_icmp_ge (tgt := 60) hx hb dX5_overlap_25 (by decide) (fun c_6 => ?_) (fun c_6 => ?_)
    · replace h := dk_it c_6 h
      refine lv_iconst (v := 0) hx hb dX5_overlap_60 (by decide) ?_
      have e9 := Option.some.inj h
      subst e9
      exact dk_zret C hK hP hD hS (by decide +kernel) rfl dX5_overlap_61
    · replace h := dk_ie c_6 h
      refine lv_aload_n hx hb dX5_overlap_28 rfl (lv_at hl 0 rfl) ?_
      refine va_get (D := (dC, dI)) (ci := 5) (v := .ref (aS 1)) (C := RX5) (T := TX5) (N := 4) hx hb hts qX5_overlap_X5 hown hK hP 0 rfl rfl 1 (by decide) (hts _ qX5_overlap_f15) (fun _ h9 => h9) rfl dX5_overlap_29 ?_
      refine lv_iload_n hx hb dX5_overlap_32 rfl (lv_at hl 1 rfl) ?_
      refine va_iald hx hb hK hP 2 0 rfl rfl g_1 dX5_overlap_33 ?_
      refine lv_aload_n hx hb dX5_overlap_34 rfl (lv_at hl 0 rfl) ?_
      refine lv_iload_n hx hb dX5_overlap_35 rfl (lv_at hl 2 rfl) ?_
      obtain ⟨r_7, hcr_7, h⟩ := dk_bnd_to h
      refine dk_rVi (b := oS) (As := [.int x2]) (rest := [.int (S_low x1.toNatClampNeg)]) (wc := (wX5 oS aS cI cJ cZ S_left S_low S_side S_howMany)) C hK hP hD hS hA (mX5_top l dC dI cI cJ cZ hcr_7 _) (cwV 1 hts gvX5_overlap_X5_top rfl rfl rfl (by decide +kernel) ⟨Nat.le_of_ble_eq_true rfl, Nat.le_of_ble_eq_true rfl⟩) [0, 1, 2, 3] rfl (by decide) 0 5 rfl rfl rfl hl.1 rfl (Nat.le_of_ble_eq_true rfl) ⟨Nat.le_of_ble_eq_true rfl, Nat.le_of_ble_eq_true rfl⟩ dX5_overlap_36 (fun H locs hP hD hS => ?_)
      refine lv_icmp_ge (tgt := 60) hx hb dX5_overlap_39 (by decide) (fun c_8 => ?_) (fun c_8 => ?_)
      · replace h := dk_it c_8 h
        refine lv_iconst (v := 0) hx hb dX5_overlap_60 (by decide) ?_
        have e9 := Option.some.inj h
        subst e9
        exact dk_zret C hK hP hD hS (by decide +kernel) rfl dX5_overlap_61
      · replace h := dk_ie c_8 h
        refine lv_aload_n hx hb dX5_overlap_42 rfl (lv_at hl 0 rfl) ?_
        refine va_get (D := (dC, dI)) (ci := 5) (v := .ref (aS 1)) (C := RX5) (T := TX5) (N := 4) hx hb hts qX5_overlap_X5 hown hK hP 0 rfl rfl 1 (by decide) (hts _ qX5_overlap_f15) (fun _ h9 => h9) rfl dX5_overlap_43 ?_
        refine lv_iload_n hx hb dX5_overlap_46 rfl (lv_at hl 2 rfl) ?_
        refine va_iald hx hb hK hP 2 0 rfl rfl g_4 dX5_overlap_47 ?_
        refine lv_aload_n hx hb dX5_overlap_48 rfl (lv_at hl 0 rfl) ?_
        refine lv_iload_n hx hb dX5_overlap_49 rfl (lv_at hl 1 rfl) ?_
        obtain ⟨r_9, hcr_9, h⟩ := dk_bnd_to h
        refine dk_rVi (b := oS) (As := [.int x1]) (rest := [.int (S_low x2.toNatClampNeg)]) (wc := (wX5 oS aS cI cJ cZ S_left S_low S_side S_howMany)) C hK hP hD hS hA (mX5_top l dC dI cI cJ cZ hcr_9 _) (cwV 1 hts gvX5_overlap_X5_top rfl rfl rfl (by decide +kernel) ⟨Nat.le_of_ble_eq_true rfl, Nat.le_of_ble_eq_true rfl⟩) [0, 1, 2, 3] rfl (by decide) 0 5 rfl rfl rfl hl.1 rfl (Nat.le_of_ble_eq_true rfl) ⟨Nat.le_of_ble_eq_true rfl, Nat.le_of_ble_eq_true rfl⟩ dX5_overlap_50 (fun H locs hP hD hS => ?_)
        refine lv_icmp_ge (tgt := 60) hx hb dX5_overlap_53 (by decide) (fun c_10 => ?_) (fun c_10 => ?_)
        · replace h := dk_it c_10 h
          refine lv_iconst (v := 0) hx hb dX5_overlap_60 (by decide) ?_
          have e9 := Option.some.inj h
          subst e9
          exact dk_zret C hK hP hD hS (by decide +kernel) rfl dX5_overlap_61
        · replace h := dk_ie c_10 h
          refine lv_iconst (v := 1) hx hb dX5_overlap_56 (by decide) ?_
          refine lv_goto (tgt := 61) hx hb dX5_overlap_57 (by decide) ?_
          have e9 := Option.some.inj h
          subst e9
          exact dk_zret C hK hP hD hS (by decide +kernel) rfl dX5_overlap_61
/-! ===== SquareTiler$Squares.area ===== -/
abbrev rX5_area : Room := { frames := 0, cells := 0, slots := 0, locals := 0 }
def ovX5_area : List Cond := [Cond.fieldLink RX5 21 "SquareTiler$Squares" "howMany" "I", Cond.fieldLink RX5 18 "SquareTiler$Squares" "side" "[I"]
def vsX5_area : List Cond := .code yX5_area cX5_area 4 (some .long) :: (ovX5_area ++ (wsX50 ++ []))
theorem qX5_area_f21 : Cond.fieldLink RX5 21 "SquareTiler$Squares" "howMany" "I" ∈ vsX5_area := List.mem_cons_of_mem _ (List.mem_append_left _ (List.mem_of_getElem? (i := 0) rfl))
theorem qX5_area_f18 : Cond.fieldLink RX5 18 "SquareTiler$Squares" "side" "[I" ∈ vsX5_area := List.mem_cons_of_mem _ (List.mem_append_left _ (List.mem_of_getElem? (i := 1) rfl))
theorem qX5_area_X5 : ∀ w ∈ u_ws RX5 TX5 4, w ∈ vsX5_area := fun w h => List.mem_cons_of_mem _ (List.mem_append_right _ (List.mem_append_left _ h))
theorem gd_vsX5_area : ∀ w ∈ vsX5_area, goodWord w = true := dk_cons rfl (dk_app (dk_all (by decide +kernel)) (dk_app gd_wsX50 dk_nil))
def bX5_area_4 (S_side : Nat → Int32) (S_howMany : Int32) (st : Int64 × Int32) : Option ((Int64) ⊕ (Int64 × Int32)) := if S_howMany ≤ st.2 then some (.inl st.1) else dk_gd (dk_in st.2 21) (dk_let ((st.1 + (((S_side st.2.toNatClampNeg).toInt64) * ((S_side st.2.toNatClampNeg).toInt64)))) (fun x1_4 => dk_let (st.2 + 1) (fun x3_5 => some (.inr (x1_4, x3_5)))))
def fX5_area (S_side : Nat → Int32) (S_howMany : Int32) : Option (Int64) := dk_bnd (dk_loop (bX5_area_4 S_side S_howMany) 1000 (0, 0)) (fun r_1 => some r_1)
section
variable {p : Program} {l : Launch} {e : Env} {s : State} {m : MethodId} {args : Array Value} {below : List Frame} {meth : Method} {c : Code} {dC : Nat → ClassId} {dI : Nat → Nat → Nat} {cI cJ cZ : ClassId} {A : Nat → Prop} {oS : Nat} {aS : Nat → Nat} {S_left S_low S_side : Nat → Int32} {S_howMany : Int32}
set_option maxHeartbeats 4000000 in
set_option maxRecDepth 100000 in
theorem tX5_area_4 (C : dk_C p s m meth c args cX5_area (some .long) 4 RX5 vsX5_area) (hK : va_K (dC, dI) vwCl (dk_ty cI cJ cZ) s) (hA : ∀ q : Nat, s.heap.size ≤ q → A q) {out : Int64} {st : Int64 × Int32} {y : (Int64) ⊕ (Int64 × Int32)} (h : bX5_area_4 S_side S_howMany st = some y) (hE : ∀ z : Int64, y = .inl z → ∀ (H : Heap) (locs : List Loc), va_P (dC, dI) vwCl (wX5 oS aS cI cJ cZ S_left S_low S_side S_howMany) H → va_D A (wX5 oS aS cI cJ cZ S_left S_low S_side S_howMany) → va_S A s.heap H locs → ∀ ls : Array Slot, lv_has ls 4 [(0, .ref oS), (1, .long z)] → W p l e rX5_area s m args below meth c H locs 0 0 (MQ below (dk_Ql (dC, dI) (dk_ty cI cJ cZ) (wX5 oS aS cI cJ cZ S_left S_low S_side S_howMany) out A) args s 0 0 A) (F0 m 36 ls [])) (hC : ∀ z : Int64 × Int32, y = .inr z → ∀ (H : Heap) (locs : List Loc), va_P (dC, dI) vwCl (wX5 oS aS cI cJ cZ S_left S_low S_side S_howMany) H → va_D A (wX5 oS aS cI cJ cZ S_left S_low S_side S_howMany) → va_S A s.heap H locs → ∀ ls : Array Slot, lv_has ls 4 [(0, .ref oS), (1, .long z.1), (3, .int z.2)] → W p l e rX5_area s m args below meth c H locs 0 0 (MQ below (dk_Ql (dC, dI) (dk_ty cI cJ cZ) (wX5 oS aS cI cJ cZ S_left S_low S_side S_howMany) out A) args s 0 0 A) (F0 m 4 ls [])) : ∀ (H : Heap) (locs : List Loc), va_P (dC, dI) vwCl (wX5 oS aS cI cJ cZ S_left S_low S_side S_howMany) H → va_D A (wX5 oS aS cI cJ cZ S_left S_low S_side S_howMany) → va_S A s.heap H locs → ∀ ls : Array Slot, lv_has ls 4 [(0, .ref oS), (1, .long st.1), (3, .int st.2)] → W p l e rX5_area s m args below meth c H locs 0 0 (MQ below (dk_Ql (dC, dI) (dk_ty cI cJ cZ) (wX5 oS aS cI cJ cZ S_left S_low S_side S_howMany) out A) args s 0 0 A) (F0 m 4 ls []) := by
  obtain ⟨hx, hb, hr, hml, hown, hts, hlocks⟩ := id C
  intro H locs hP hD hS ls hl
  unfold bX5_area_4 at h
  refine lv_iload_n hx hb dX5_area_4 rfl (lv_at hl 2 rfl) ?_
  refine lv_aload_n hx hb dX5_area_5 rfl (lv_at hl 0 rfl) ?_
  refine va_get (D := (dC, dI)) (ci := 5) (v := .int S_howMany) (C := RX5) (T := TX5) (N := 4) hx hb hts qX5_area_X5 hown hK hP 0 rfl rfl 3 (by decide) (hts _ qX5_area_f21) (fun _ h9 => h9) rfl dX5_area_6 ?_
  refine lv_icmp_ge (tgt := 36) hx hb dX5_area_9 (by decide) (fun c_2 => ?_) (fun c_2 => ?_)
  · replace h := dk_it c_2 h
    exact hE _ (Option.some.inj h).symm _ _ hP hD hS ls (lv_sub hl [0, 1] rfl)
  · replace h := dk_ie c_2 h
    refine lv_lload_n hx hb dX5_area_12 rfl (lv_at hl 1 rfl) ?_
    refine lv_aload_n hx hb dX5_area_13 rfl (lv_at hl 0 rfl) ?_
    refine va_get (D := (dC, dI)) (ci := 5) (v := .ref (aS 2)) (C := RX5) (T := TX5) (N := 4) hx hb hts qX5_area_X5 hown hK hP 0 rfl rfl 2 (by decide) (hts _ qX5_area_f18) (fun _ h9 => h9) rfl dX5_area_14 ?_
    refine lv_iload_n hx hb dX5_area_17 rfl (lv_at hl 2 rfl) ?_
    obtain ⟨g_3, h⟩ := dk_gd_to h
    have g_3 := dk_in_to g_3
    refine va_iald hx hb hK hP 3 0 rfl rfl g_3 dX5_area_18 ?_
    refine lv_i2l hx hb dX5_area_19 rfl ?_
    refine lv_aload_n hx hb dX5_area_20 rfl (lv_at hl 0 rfl) ?_
    refine va_get (D := (dC, dI)) (ci := 5) (v := .ref (aS 2)) (C := RX5) (T := TX5) (N := 4) hx hb hts qX5_area_X5 hown hK hP 0 rfl rfl 2 (by decide) (hts _ qX5_area_f18) (fun _ h9 => h9) rfl dX5_area_21 ?_
    refine lv_iload_n hx hb dX5_area_24 rfl (lv_at hl 2 rfl) ?_
    refine va_iald hx hb hK hP 3 0 rfl rfl g_3 dX5_area_25 ?_
    refine lv_i2l hx hb dX5_area_26 rfl ?_
    refine lv_lmul hx hb dX5_area_27 ?_
    refine lv_ladd hx hb dX5_area_28 ?_
    refine lv_topl (fun x1_4 ex1_4 => ?_)
    replace h := dk_let_to ex1_4 h
    refine lv_lstore_n (lv' := [(1, .long x1_4), (0, .ref oS), (3, .int st.2)]) hx hb dX5_area_29 rfl hl (by decide) rfl (fun ls hl => ?_)
    obtain ⟨x3_5, ex3_5⟩ : ∃ z : Int32, z = st.2 + 1 := ⟨_, rfl⟩
    replace h := dk_let_to ex3_5 h
    refine lv_iinc (v := x3_5) (lv' := [(3, .int x3_5), (1, .long x1_4), (0, .ref oS)]) hx hb dX5_area_30 hl (k := 2) rfl (by rw [ex3_5]; rfl) (by decide) rfl (fun ls hl => ?_)
    refine lv_goto (tgt := 4) hx hb dX5_area_33 (by decide) ?_
    exact hC _ (Option.some.inj h).symm _ _ hP hD hS ls (lv_sub hl [2, 1, 0] rfl)
set_option maxHeartbeats 4000000 in
set_option maxRecDepth 100000 in
theorem lX5_area_4 (C : dk_C p s m meth c args cX5_area (some .long) 4 RX5 vsX5_area) (hK : va_K (dC, dI) vwCl (dk_ty cI cJ cZ) s) (hA : ∀ q : Nat, s.heap.size ≤ q → A q) {out : Int64} {n : Nat} {st : Int64 × Int32} {r : Int64} (h : dk_loop (bX5_area_4 S_side S_howMany) n st = some r) (hE : ∀ (H : Heap) (locs : List Loc), va_P (dC, dI) vwCl (wX5 oS aS cI cJ cZ S_left S_low S_side S_howMany) H → va_D A (wX5 oS aS cI cJ cZ S_left S_low S_side S_howMany) → va_S A s.heap H locs → ∀ ls : Array Slot, lv_has ls 4 [(0, .ref oS), (1, .long r)] → W p l e rX5_area s m args below meth c H locs 0 0 (MQ below (dk_Ql (dC, dI) (dk_ty cI cJ cZ) (wX5 oS aS cI cJ cZ S_left S_low S_side S_howMany) out A) args s 0 0 A) (F0 m 36 ls [])) : ∀ (H : Heap) (locs : List Loc), va_P (dC, dI) vwCl (wX5 oS aS cI cJ cZ S_left S_low S_side S_howMany) H → va_D A (wX5 oS aS cI cJ cZ S_left S_low S_side S_howMany) → va_S A s.heap H locs → ∀ ls : Array Slot, lv_has ls 4 [(0, .ref oS), (1, .long st.1), (3, .int st.2)] → W p l e rX5_area s m args below meth c H locs 0 0 (MQ below (dk_Ql (dC, dI) (dk_ty cI cJ cZ) (wX5 oS aS cI cJ cZ S_left S_low S_side S_howMany) out A) args s 0 0 A) (F0 m 4 ls []) :=
  dk_loopW (P := fun st => ∀ (H : Heap) (locs : List Loc), va_P (dC, dI) vwCl (wX5 oS aS cI cJ cZ S_left S_low S_side S_howMany) H → va_D A (wX5 oS aS cI cJ cZ S_left S_low S_side S_howMany) → va_S A s.heap H locs → ∀ ls : Array Slot, lv_has ls 4 [(0, .ref oS), (1, .long st.1), (3, .int st.2)] → W p l e rX5_area s m args below meth c H locs 0 0 (MQ below (dk_Ql (dC, dI) (dk_ty cI cJ cZ) (wX5 oS aS cI cJ cZ S_left S_low S_side S_howMany) out A) args s 0 0 A) (F0 m 4 ls [])) (K := fun r => ∀ (H : Heap) (locs : List Loc), va_P (dC, dI) vwCl (wX5 oS aS cI cJ cZ S_left S_low S_side S_howMany) H → va_D A (wX5 oS aS cI cJ cZ S_left S_low S_side S_howMany) → va_S A s.heap H locs → ∀ ls : Array Slot, lv_has ls 4 [(0, .ref oS), (1, .long r)] → W p l e rX5_area s m args below meth c H locs 0 0 (MQ below (dk_Ql (dC, dI) (dk_ty cI cJ cZ) (wX5 oS aS cI cJ cZ S_left S_low S_side S_howMany) out A) args s 0 0 A) (F0 m 36 ls [])) (fun st y hy k1 k2 => tX5_area_4 C hK hA hy k1 k2) n st r h hE
end
set_option maxHeartbeats 4000000 in
set_option maxRecDepth 100000 in
theorem mX5_area (l : Launch) (dC : Nat → ClassId) (dI : Nat → Nat → Nat) (cI cJ cZ : ClassId) {oS : Nat} {aS : Nat → Nat} {S_left S_low S_side : Nat → Int32} {S_howMany : Int32} {out : Int64} (h : fX5_area S_side S_howMany = some out) (sz : Nat) : Met l yX5_area vsX5_area rX5_area (va_Pc [.ref oS] (dk_Pre (dC, dI) (dk_ty cI cJ cZ) (wX5 oS aS cI cJ cZ S_left S_low S_side S_howMany) sz)) (dk_Ql (dC, dI) (dk_ty cI cJ cZ) (wX5 oS aS cI cJ cZ S_left S_low S_side S_howMany) out (va_A (wX5 oS aS cI cJ cZ S_left S_low S_side S_howMany) sz)) 0 0 (va_A (wX5 oS aS cI cJ cZ S_left S_low S_side S_howMany) sz) := by
  refine dk_met (cc := cX5_area) (maxL := 4) (ret := (some .long)) (Qc := fun A => dk_Ql (dC, dI) (dk_ty cI cJ cZ) (wX5 oS aS cI cJ cZ S_left S_low S_side S_howMany) out A) (by decide) rfl (Nat.le_of_ble_eq_true rfl) ?_
  intro p e s m below meth c A C hnm hA hK hP hD hS ls hl
  have C : dk_C p s m meth c _ cX5_area (some .long) 4 RX5 vsX5_area := C
  obtain ⟨hx, hb, hr, hml, hown, hts, hlocks⟩ := id C
  have hl : lv_has ls 4 [(0, .ref oS)] := hl
  unfold fX5_area at h
  refine lv_lconst (v := 0) hx hb dX5_area_0 (by decide) ?_
  refine lv_lstore_n (lv' := [(1, .long 0), (0, .ref oS)]) hx hb dX5_area_1 rfl hl (by decide) rfl (fun ls hl => ?_)
  refine lv_iconst (v := 0) hx hb dX5_area_2 (by decide) ?_
  refine lv_istore_n (lv' := [(3, .int 0), (1, .long 0), (0, .ref oS)]) hx hb dX5_area_3 rfl hl (by decide) rfl (fun ls hl => ?_)
  obtain ⟨r_1, hLr_1, h⟩ := dk_bnd_to h
  refine lX5_area_4 C hK hA hLr_1 (fun H locs hP hD hS ls hl => ?_) _ _ hP hD hS ls (lv_sub hl [2, 1, 0] rfl)
  refine lv_lload_n hx hb dX5_area_36 rfl (lv_at hl 1 rfl) ?_
  have e9 := Option.some.inj h
  subst e9
  exact dk_lret C hK hP hD hS rfl dX5_area_37
/-! ===== SquareTiler$Squares.findFault ===== -/
abbrev rX5_findFault : Room := { frames := 2, cells := 0, slots := 0, locals := 43 }
def ovX5_findFault : List Cond := [Cond.fieldLink RX5 21 "SquareTiler$Squares" "howMany" "I", Cond.methodLink RX5 43 yX5_area, Cond.instanceMethod yX5_area, Cond.selects RX5 yX5_area yX5_area, Cond.initialized RX5, Cond.methodLink RX5 32 yX5_right, Cond.instanceMethod yX5_right, Cond.selects RX5 yX5_right yX5_right, Cond.methodLink RX5 36 yX5_top, Cond.instanceMethod yX5_top, Cond.selects RX5 yX5_top yX5_top, Cond.methodLink RX5 39 yX5_overlap, Cond.instanceMethod yX5_overlap, Cond.selects RX5 yX5_overlap yX5_overlap]
def vsX5_findFault : List Cond := .code yX5_findFault cX5_findFault 5 (some .int) :: (ovX5_findFault ++ (wsX50 ++ (vsX5_area ++ (vsX5_right ++ (vsX5_top ++ (vsX5_overlap ++ []))))))
theorem qX5_findFault_f21 : Cond.fieldLink RX5 21 "SquareTiler$Squares" "howMany" "I" ∈ vsX5_findFault := List.mem_cons_of_mem _ (List.mem_append_left _ (List.mem_of_getElem? (i := 0) rfl))
theorem qX5_findFault_w1 : Cond.methodLink RX5 43 yX5_area ∈ vsX5_findFault := List.mem_cons_of_mem _ (List.mem_append_left _ (List.mem_of_getElem? (i := 1) rfl))
theorem qX5_findFault_w2 : Cond.instanceMethod yX5_area ∈ vsX5_findFault := List.mem_cons_of_mem _ (List.mem_append_left _ (List.mem_of_getElem? (i := 2) rfl))
theorem qX5_findFault_w3 : Cond.selects RX5 yX5_area yX5_area ∈ vsX5_findFault := List.mem_cons_of_mem _ (List.mem_append_left _ (List.mem_of_getElem? (i := 3) rfl))
theorem qX5_findFault_w4 : Cond.initialized RX5 ∈ vsX5_findFault := List.mem_cons_of_mem _ (List.mem_append_left _ (List.mem_of_getElem? (i := 4) rfl))
theorem qX5_findFault_w5 : Cond.methodLink RX5 32 yX5_right ∈ vsX5_findFault := List.mem_cons_of_mem _ (List.mem_append_left _ (List.mem_of_getElem? (i := 5) rfl))
theorem qX5_findFault_w6 : Cond.instanceMethod yX5_right ∈ vsX5_findFault := List.mem_cons_of_mem _ (List.mem_append_left _ (List.mem_of_getElem? (i := 6) rfl))
theorem qX5_findFault_w7 : Cond.selects RX5 yX5_right yX5_right ∈ vsX5_findFault := List.mem_cons_of_mem _ (List.mem_append_left _ (List.mem_of_getElem? (i := 7) rfl))
theorem qX5_findFault_w8 : Cond.methodLink RX5 36 yX5_top ∈ vsX5_findFault := List.mem_cons_of_mem _ (List.mem_append_left _ (List.mem_of_getElem? (i := 8) rfl))
theorem qX5_findFault_w9 : Cond.instanceMethod yX5_top ∈ vsX5_findFault := List.mem_cons_of_mem _ (List.mem_append_left _ (List.mem_of_getElem? (i := 9) rfl))
theorem qX5_findFault_w10 : Cond.selects RX5 yX5_top yX5_top ∈ vsX5_findFault := List.mem_cons_of_mem _ (List.mem_append_left _ (List.mem_of_getElem? (i := 10) rfl))
theorem qX5_findFault_w11 : Cond.methodLink RX5 39 yX5_overlap ∈ vsX5_findFault := List.mem_cons_of_mem _ (List.mem_append_left _ (List.mem_of_getElem? (i := 11) rfl))
theorem qX5_findFault_w12 : Cond.instanceMethod yX5_overlap ∈ vsX5_findFault := List.mem_cons_of_mem _ (List.mem_append_left _ (List.mem_of_getElem? (i := 12) rfl))
theorem qX5_findFault_w13 : Cond.selects RX5 yX5_overlap yX5_overlap ∈ vsX5_findFault := List.mem_cons_of_mem _ (List.mem_append_left _ (List.mem_of_getElem? (i := 13) rfl))
theorem qX5_findFault_X5 : ∀ w ∈ u_ws RX5 TX5 4, w ∈ vsX5_findFault := fun w h => List.mem_cons_of_mem _ (List.mem_append_right _ (List.mem_append_left _ h))
theorem gd_vsX5_findFault : ∀ w ∈ vsX5_findFault, goodWord w = true := dk_cons rfl (dk_app (dk_all (by decide +kernel)) (dk_app gd_wsX50 (dk_app gd_vsX5_area (dk_app gd_vsX5_right (dk_app gd_vsX5_top (dk_app gd_vsX5_overlap dk_nil))))))
theorem gvX5_findFault_X5_area : GoodIn vsX5_findFault (wsV RX5 43 RX5 yX5_area vsX5_area) := goodIn_app (dk_g4 qX5_findFault_w1 qX5_findFault_w2 qX5_findFault_w3 qX5_findFault_w4 rfl) (dk_gIn (fun w h => List.mem_cons_of_mem _ (List.mem_append_right _ (List.mem_append_right _ (List.mem_append_left _ h)))) gd_vsX5_area)
theorem gvX5_findFault_X5_right : GoodIn vsX5_findFault (wsV RX5 32 RX5 yX5_right vsX5_right) := goodIn_app (dk_g4 qX5_findFault_w5 qX5_findFault_w6 qX5_findFault_w7 qX5_findFault_w4 rfl) (dk_gIn (fun w h => List.mem_cons_of_mem _ (List.mem_append_right _ (List.mem_append_right _ (List.mem_append_right _ (List.mem_append_left _ h))))) gd_vsX5_right)
theorem gvX5_findFault_X5_top : GoodIn vsX5_findFault (wsV RX5 36 RX5 yX5_top vsX5_top) := goodIn_app (dk_g4 qX5_findFault_w8 qX5_findFault_w9 qX5_findFault_w10 qX5_findFault_w4 rfl) (dk_gIn (fun w h => List.mem_cons_of_mem _ (List.mem_append_right _ (List.mem_append_right _ (List.mem_append_right _ (List.mem_append_right _ (List.mem_append_left _ h)))))) gd_vsX5_top)
theorem gvX5_findFault_X5_overlap : GoodIn vsX5_findFault (wsV RX5 39 RX5 yX5_overlap vsX5_overlap) := goodIn_app (dk_g4 qX5_findFault_w11 qX5_findFault_w12 qX5_findFault_w13 qX5_findFault_w4 rfl) (dk_gIn (fun w h => List.mem_cons_of_mem _ (List.mem_append_right _ (List.mem_append_right _ (List.mem_append_right _ (List.mem_append_right _ (List.mem_append_right _ (List.mem_append_left _ h))))))) gd_vsX5_overlap)
def bX5_findFault_2 (S_left S_low S_side : Nat → Int32) (S_howMany x1 x2 : Int32) (st : Int32) : Option (((Int32) ⊕ (Unit)) ⊕ (Int32)) := if S_howMany ≤ st then some (.inl (.inr ())) else dk_bnd (fX5_right S_left S_side st) (fun r_8 => if x1 < r_8 then some (.inl (.inl (100 + st))) else dk_bnd (fX5_top S_low S_side st) (fun r_10 => if r_10 ≤ x2 then dk_let (st + 1) (fun x3_12 => some (.inr x3_12)) else some (.inl (.inl (100 + st)))))
def bX5_findFault_54 (S_left S_low S_side : Nat → Int32) (S_howMany x1 x2 x3 : Int32) (st : Int32) : Option (((Int32) ⊕ (Unit)) ⊕ (Int32)) := if S_howMany ≤ st then some (.inl (.inr ())) else dk_bnd (fX5_overlap S_left S_low S_side x3 st) (fun r_19 => if r_19 = 0 then dk_let (st + 1) (fun x4_21 => some (.inr x4_21)) else some (.inl (.inl ((1000 + (30 * x3)) + st))))
def bX5_findFault_41 (S_left S_low S_side : Nat → Int32) (S_howMany x1 x2 : Int32) (st : Int32) : Option (((Int32) ⊕ (Unit)) ⊕ (Int32)) := if S_howMany ≤ st then some (.inl (.inr ())) else dk_let ((st + 1)) (fun x4_14 => dk_bnd (dk_loop (bX5_findFault_54 S_left S_low S_side S_howMany x1 x2 st) 1000 x4_14) (fun r_15 => dk_sum r_15 (fun zz => some (.inl (.inl zz))) (fun z_16 => dk_let (st + 1) (fun x3_17 => some (.inr x3_17)))))
def fX5_findFault (S_left S_low S_side : Nat → Int32) (S_howMany x1 x2 : Int32) : Option (Int32) := dk_bnd (dk_loop (bX5_findFault_2 S_left S_low S_side S_howMany x1 x2) 1000 0) (fun r_1 => dk_sum r_1 (fun zz => some zz) (fun z_2 => dk_bnd (dk_loop (bX5_findFault_41 S_left S_low S_side S_howMany x1 x2) 1000 0) (fun r_3 => dk_sum r_3 (fun zz => some zz) (fun z_4 => dk_bnd (fX5_area S_side S_howMany) (fun r_5 => if (lg_cmp r_5 ((x1.toInt64) * (x2.toInt64))) = 0 then some 0 else some 3)))))
section
variable {p : Program} {l : Launch} {e : Env} {s : State} {m : MethodId} {args : Array Value} {below : List Frame} {meth : Method} {c : Code} {dC : Nat → ClassId} {dI : Nat → Nat → Nat} {cI cJ cZ : ClassId} {A : Nat → Prop} {oS : Nat} {aS : Nat → Nat} {S_left S_low S_side : Nat → Int32} {S_howMany : Int32}
set_option maxHeartbeats 4000000 in
set_option maxRecDepth 100000 in
theorem tX5_findFault_2 (C : dk_C p s m meth c args cX5_findFault (some .int) 5 RX5 vsX5_findFault) (hK : va_K (dC, dI) vwCl (dk_ty cI cJ cZ) s) (hA : ∀ q : Nat, s.heap.size ≤ q → A q) {out : Int32} {x1 x2 : Int32} {st : Int32} {y : ((Int32) ⊕ (Unit)) ⊕ (Int32)} (h : bX5_findFault_2 S_left S_low S_side S_howMany x1 x2 st = some y) (hR : ∀ z : Int32, y = .inl (.inl z) → z = out) (hE : ∀ z : Unit, y = .inl (.inr z) → ∀ (H : Heap) (locs : List Loc), va_P (dC, dI) vwCl (wX5 oS aS cI cJ cZ S_left S_low S_side S_howMany) H → va_D A (wX5 oS aS cI cJ cZ S_left S_low S_side S_howMany) → va_S A s.heap H locs → ∀ ls : Array Slot, lv_has ls 5 [(0, .ref oS), (1, .int x1), (2, .int x2)] → W p l e rX5_findFault s m args below meth c H locs 0 0 (MQ below (dk_Qi (dC, dI) (dk_ty cI cJ cZ) (wX5 oS aS cI cJ cZ S_left S_low S_side S_howMany) out A) args s 0 0 A) (F0 m 39 ls [])) (hC : ∀ z : Int32, y = .inr z → ∀ (H : Heap) (locs : List Loc), va_P (dC, dI) vwCl (wX5 oS aS cI cJ cZ S_left S_low S_side S_howMany) H → va_D A (wX5 oS aS cI cJ cZ S_left S_low S_side S_howMany) → va_S A s.heap H locs → ∀ ls : Array Slot, lv_has ls 5 [(0, .ref oS), (1, .int x1), (2, .int x2), (3, .int z)] → W p l e rX5_findFault s m args below meth c H locs 0 0 (MQ below (dk_Qi (dC, dI) (dk_ty cI cJ cZ) (wX5 oS aS cI cJ cZ S_left S_low S_side S_howMany) out A) args s 0 0 A) (F0 m 2 ls [])) : ∀ (H : Heap) (locs : List Loc), va_P (dC, dI) vwCl (wX5 oS aS cI cJ cZ S_left S_low S_side S_howMany) H → va_D A (wX5 oS aS cI cJ cZ S_left S_low S_side S_howMany) → va_S A s.heap H locs → ∀ ls : Array Slot, lv_has ls 5 [(0, .ref oS), (1, .int x1), (2, .int x2), (3, .int st)] → W p l e rX5_findFault s m args below meth c H locs 0 0 (MQ below (dk_Qi (dC, dI) (dk_ty cI cJ cZ) (wX5 oS aS cI cJ cZ S_left S_low S_side S_howMany) out A) args s 0 0 A) (F0 m 2 ls []) := by
  obtain ⟨hx, hb, hr, hml, hown, hts, hlocks⟩ := id C
  intro H locs hP hD hS ls hl
  unfold bX5_findFault_2 at h
  refine lv_iload_n hx hb dX5_findFault_2 rfl (lv_at hl 3 rfl) ?_
  refine lv_aload_n hx hb dX5_findFault_3 rfl (lv_at hl 0 rfl) ?_
  refine va_get (D := (dC, dI)) (ci := 5) (v := .int S_howMany) (C := RX5) (T := TX5) (N := 4) hx hb hts qX5_findFault_X5 hown hK hP 0 rfl rfl 3 (by decide) (hts _ qX5_findFault_f21) (fun _ h9 => h9) rfl dX5_findFault_4 ?_
  refine lv_icmp_ge (tgt := 39) hx hb dX5_findFault_7 (by decide) (fun c_7 => ?_) (fun c_7 => ?_)
  · replace h := dk_it c_7 h
    exact hE _ (Option.some.inj h).symm _ _ hP hD hS ls (lv_sub hl [0, 1, 2] rfl)
  · replace h := dk_ie c_7 h
    refine lv_aload_n hx hb dX5_findFault_10 rfl (lv_at hl 0 rfl) ?_
    refine lv_iload_n hx hb dX5_findFault_11 rfl (lv_at hl 3 rfl) ?_
    obtain ⟨r_8, hcr_8, h⟩ := dk_bnd_to h
    refine dk_rVi (b := oS) (As := [.int st]) (rest := []) (wc := (wX5 oS aS cI cJ cZ S_left S_low S_side S_howMany)) C hK hP hD hS hA (mX5_right l dC dI cI cJ cZ hcr_8 _) (cwV 1 hts gvX5_findFault_X5_right rfl rfl rfl (by decide +kernel) ⟨Nat.le_of_ble_eq_true rfl, Nat.le_of_ble_eq_true rfl⟩) [0, 1, 2, 3] rfl (by decide) 0 5 rfl rfl rfl hl.1 rfl (Nat.le_of_ble_eq_true rfl) ⟨Nat.le_of_ble_eq_true rfl, Nat.le_of_ble_eq_true rfl⟩ dX5_findFault_12 (fun H locs hP hD hS => ?_)
    refine lv_iload_n hx hb dX5_findFault_15 rfl (lv_at hl 1 rfl) ?_
    refine lv_icmp_gt (tgt := 28) hx hb dX5_findFault_16 (by decide) (fun c_9 => ?_) (fun c_9 => ?_)
    · replace h := dk_it c_9 h
      refine lv_bipush (v := 100) hx hb dX5_findFault_28 (by decide) ?_
      refine lv_iload_n hx hb dX5_findFault_30 rfl (lv_at hl 3 rfl) ?_
      refine lv_iadd hx hb dX5_findFault_31 ?_
      have e9 := hR _ (Option.some.inj h).symm
      subst e9
      exact dk_iret C hK hP hD hS rfl dX5_findFault_32
    · replace h := dk_ie c_9 h
      refine lv_aload_n hx hb dX5_findFault_19 rfl (lv_at hl 0 rfl) ?_
      refine lv_iload_n hx hb dX5_findFault_20 rfl (lv_at hl 3 rfl) ?_
      obtain ⟨r_10, hcr_10, h⟩ := dk_bnd_to h
      refine dk_rVi (b := oS) (As := [.int st]) (rest := []) (wc := (wX5 oS aS cI cJ cZ S_left S_low S_side S_howMany)) C hK hP hD hS hA (mX5_top l dC dI cI cJ cZ hcr_10 _) (cwV 1 hts gvX5_findFault_X5_top rfl rfl rfl (by decide +kernel) ⟨Nat.le_of_ble_eq_true rfl, Nat.le_of_ble_eq_true rfl⟩) [0, 1, 2, 3] rfl (by decide) 0 5 rfl rfl rfl hl.1 rfl (Nat.le_of_ble_eq_true rfl) ⟨Nat.le_of_ble_eq_true rfl, Nat.le_of_ble_eq_true rfl⟩ dX5_findFault_21 (fun H locs hP hD hS => ?_)
      refine lv_iload_n hx hb dX5_findFault_24 rfl (lv_at hl 2 rfl) ?_
      refine lv_icmp_le (tgt := 33) hx hb dX5_findFault_25 (by decide) (fun c_11 => ?_) (fun c_11 => ?_)
      · replace h := dk_it c_11 h
        obtain ⟨x3_12, ex3_12⟩ : ∃ z : Int32, z = st + 1 := ⟨_, rfl⟩
        replace h := dk_let_to ex3_12 h
        refine lv_iinc (v := x3_12) (lv' := [(3, .int x3_12), (0, .ref oS), (1, .int x1), (2, .int x2)]) hx hb dX5_findFault_33 hl (k := 3) rfl (by rw [ex3_12]; rfl) (by decide) rfl (fun ls hl => ?_)
        refine lv_goto (tgt := 2) hx hb dX5_findFault_36 (by decide) ?_
        exact hC _ (Option.some.inj h).symm _ _ hP hD hS ls (lv_sub hl [1, 2, 3, 0] rfl)
      · replace h := dk_ie c_11 h
        refine lv_bipush (v := 100) hx hb dX5_findFault_28 (by decide) ?_
        refine lv_iload_n hx hb dX5_findFault_30 rfl (lv_at hl 3 rfl) ?_
        refine lv_iadd hx hb dX5_findFault_31 ?_
        have e9 := hR _ (Option.some.inj h).symm
        subst e9
        exact dk_iret C hK hP hD hS rfl dX5_findFault_32
set_option maxHeartbeats 4000000 in
set_option maxRecDepth 100000 in
theorem lX5_findFault_2 (C : dk_C p s m meth c args cX5_findFault (some .int) 5 RX5 vsX5_findFault) (hK : va_K (dC, dI) vwCl (dk_ty cI cJ cZ) s) (hA : ∀ q : Nat, s.heap.size ≤ q → A q) {out : Int32} {x1 x2 : Int32} {n : Nat} {st : Int32} {r : (Int32) ⊕ (Unit)} (h : dk_loop (bX5_findFault_2 S_left S_low S_side S_howMany x1 x2) n st = some r) (hR : ∀ z : Int32, r = .inl z → z = out) (hE : ∀ z : Unit, r = .inr z → ∀ (H : Heap) (locs : List Loc), va_P (dC, dI) vwCl (wX5 oS aS cI cJ cZ S_left S_low S_side S_howMany) H → va_D A (wX5 oS aS cI cJ cZ S_left S_low S_side S_howMany) → va_S A s.heap H locs → ∀ ls : Array Slot, lv_has ls 5 [(0, .ref oS), (1, .int x1), (2, .int x2)] → W p l e rX5_findFault s m args below meth c H locs 0 0 (MQ below (dk_Qi (dC, dI) (dk_ty cI cJ cZ) (wX5 oS aS cI cJ cZ S_left S_low S_side S_howMany) out A) args s 0 0 A) (F0 m 39 ls [])) : ∀ (H : Heap) (locs : List Loc), va_P (dC, dI) vwCl (wX5 oS aS cI cJ cZ S_left S_low S_side S_howMany) H → va_D A (wX5 oS aS cI cJ cZ S_left S_low S_side S_howMany) → va_S A s.heap H locs → ∀ ls : Array Slot, lv_has ls 5 [(0, .ref oS), (1, .int x1), (2, .int x2), (3, .int st)] → W p l e rX5_findFault s m args below meth c H locs 0 0 (MQ below (dk_Qi (dC, dI) (dk_ty cI cJ cZ) (wX5 oS aS cI cJ cZ S_left S_low S_side S_howMany) out A) args s 0 0 A) (F0 m 2 ls []) :=
  dk_loopW (P := fun st => ∀ (H : Heap) (locs : List Loc), va_P (dC, dI) vwCl (wX5 oS aS cI cJ cZ S_left S_low S_side S_howMany) H → va_D A (wX5 oS aS cI cJ cZ S_left S_low S_side S_howMany) → va_S A s.heap H locs → ∀ ls : Array Slot, lv_has ls 5 [(0, .ref oS), (1, .int x1), (2, .int x2), (3, .int st)] → W p l e rX5_findFault s m args below meth c H locs 0 0 (MQ below (dk_Qi (dC, dI) (dk_ty cI cJ cZ) (wX5 oS aS cI cJ cZ S_left S_low S_side S_howMany) out A) args s 0 0 A) (F0 m 2 ls [])) (K := fun r => (∀ z : Int32, r = .inl z → z = out) ∧ (∀ z : Unit, r = .inr z → ∀ (H : Heap) (locs : List Loc), va_P (dC, dI) vwCl (wX5 oS aS cI cJ cZ S_left S_low S_side S_howMany) H → va_D A (wX5 oS aS cI cJ cZ S_left S_low S_side S_howMany) → va_S A s.heap H locs → ∀ ls : Array Slot, lv_has ls 5 [(0, .ref oS), (1, .int x1), (2, .int x2)] → W p l e rX5_findFault s m args below meth c H locs 0 0 (MQ below (dk_Qi (dC, dI) (dk_ty cI cJ cZ) (wX5 oS aS cI cJ cZ S_left S_low S_side S_howMany) out A) args s 0 0 A) (F0 m 39 ls []))) (fun st y hy k1 k2 => tX5_findFault_2 C hK hA hy (fun z e1 => (k1 _ e1).1 z rfl) (fun z e1 => (k1 _ e1).2 z rfl) k2) n st r h ⟨hR, hE⟩
set_option maxHeartbeats 4000000 in
set_option maxRecDepth 100000 in
theorem tX5_findFault_54 (C : dk_C p s m meth c args cX5_findFault (some .int) 5 RX5 vsX5_findFault) (hK : va_K (dC, dI) vwCl (dk_ty cI cJ cZ) s) (hA : ∀ q : Nat, s.heap.size ≤ q → A q) {out : Int32} {x1 x2 x3 : Int32} {st : Int32} {y : ((Int32) ⊕ (Unit)) ⊕ (Int32)} (h : bX5_findFault_54 S_left S_low S_side S_howMany x1 x2 x3 st = some y) (hR : ∀ z : Int32, y = .inl (.inl z) → z = out) (hE : ∀ z : Unit, y = .inl (.inr z) → ∀ (H : Heap) (locs : List Loc), va_P (dC, dI) vwCl (wX5 oS aS cI cJ cZ S_left S_low S_side S_howMany) H → va_D A (wX5 oS aS cI cJ cZ S_left S_low S_side S_howMany) → va_S A s.heap H locs → ∀ ls : Array Slot, lv_has ls 5 [(0, .ref oS), (1, .int x1), (2, .int x2), (3, .int x3)] → W p l e rX5_findFault s m args below meth c H locs 0 0 (MQ below (dk_Qi (dC, dI) (dk_ty cI cJ cZ) (wX5 oS aS cI cJ cZ S_left S_low S_side S_howMany) out A) args s 0 0 A) (F0 m 91 ls [])) (hC : ∀ z : Int32, y = .inr z → ∀ (H : Heap) (locs : List Loc), va_P (dC, dI) vwCl (wX5 oS aS cI cJ cZ S_left S_low S_side S_howMany) H → va_D A (wX5 oS aS cI cJ cZ S_left S_low S_side S_howMany) → va_S A s.heap H locs → ∀ ls : Array Slot, lv_has ls 5 [(0, .ref oS), (1, .int x1), (2, .int x2), (3, .int x3), (4, .int z)] → W p l e rX5_findFault s m args below meth c H locs 0 0 (MQ below (dk_Qi (dC, dI) (dk_ty cI cJ cZ) (wX5 oS aS cI cJ cZ S_left S_low S_side S_howMany) out A) args s 0 0 A) (F0 m 54 ls [])) : ∀ (H : Heap) (locs : List Loc), va_P (dC, dI) vwCl (wX5 oS aS cI cJ cZ S_left S_low S_side S_howMany) H → va_D A (wX5 oS aS cI cJ cZ S_left S_low S_side S_howMany) → va_S A s.heap H locs → ∀ ls : Array Slot, lv_has ls 5 [(0, .ref oS), (1, .int x1), (2, .int x2), (3, .int x3), (4, .int st)] → W p l e rX5_findFault s m args below meth c H locs 0 0 (MQ below (dk_Qi (dC, dI) (dk_ty cI cJ cZ) (wX5 oS aS cI cJ cZ S_left S_low S_side S_howMany) out A) args s 0 0 A) (F0 m 54 ls []) := by
  obtain ⟨hx, hb, hr, hml, hown, hts, hlocks⟩ := id C
  intro H locs hP hD hS ls hl
  unfold bX5_findFault_54 at h
  refine lv_iload hx hb dX5_findFault_54 (lv_at hl 4 rfl) ?_
  refine lv_aload_n hx hb dX5_findFault_56 rfl (lv_at hl 0 rfl) ?_
  refine va_get (D := (dC, dI)) (ci := 5) (v := .int S_howMany) (C := RX5) (T := TX5) (N := 4) hx hb hts qX5_findFault_X5 hown hK hP 0 rfl rfl 3 (by decide) (hts _ qX5_findFault_f21) (fun _ h9 => h9) rfl dX5_findFault_57 ?_
  refine lv_icmp_ge (tgt := 91) hx hb dX5_findFault_60 (by decide) (fun c_18 => ?_) (fun c_18 => ?_)
  · replace h := dk_it c_18 h
    exact hE _ (Option.some.inj h).symm _ _ hP hD hS ls (lv_sub hl [0, 1, 2, 3] rfl)
  · replace h := dk_ie c_18 h
    refine lv_aload_n hx hb dX5_findFault_63 rfl (lv_at hl 0 rfl) ?_
    refine lv_iload_n hx hb dX5_findFault_64 rfl (lv_at hl 3 rfl) ?_
    refine lv_iload hx hb dX5_findFault_65 (lv_at hl 4 rfl) ?_
    obtain ⟨r_19, hcr_19, h⟩ := dk_bnd_to h
    refine dk_rVi (b := oS) (As := [.int x3, .int st]) (rest := []) (wc := (wX5 oS aS cI cJ cZ S_left S_low S_side S_howMany)) C hK hP hD hS hA (mX5_overlap l dC dI cI cJ cZ hcr_19 _) (cwV 2 hts gvX5_findFault_X5_overlap rfl rfl rfl (by decide +kernel) ⟨Nat.le_of_ble_eq_true rfl, Nat.le_of_ble_eq_true rfl⟩) [0, 1, 2, 3] rfl (by decide) 0 5 rfl rfl rfl hl.1 rfl (Nat.le_of_ble_eq_true rfl) ⟨Nat.le_of_ble_eq_true rfl, Nat.le_of_ble_eq_true rfl⟩ dX5_findFault_67 (fun H locs hP hD hS => ?_)
    refine lv_if_eq (tgt := 85) hx hb dX5_findFault_70 (by decide) (fun c_20 => ?_) (fun c_20 => ?_)
    · replace h := dk_it c_20 h
      obtain ⟨x4_21, ex4_21⟩ : ∃ z : Int32, z = st + 1 := ⟨_, rfl⟩
      replace h := dk_let_to ex4_21 h
      refine lv_iinc (v := x4_21) (lv' := [(4, .int x4_21), (0, .ref oS), (1, .int x1), (2, .int x2), (3, .int x3)]) hx hb dX5_findFault_85 hl (k := 4) rfl (by rw [ex4_21]; rfl) (by decide) rfl (fun ls hl => ?_)
      refine lv_goto (tgt := 54) hx hb dX5_findFault_88 (by decide) ?_
      exact hC _ (Option.some.inj h).symm _ _ hP hD hS ls (lv_sub hl [1, 2, 3, 4, 0] rfl)
    · replace h := dk_ie c_20 h
      refine lv_sipush (v := 1000) hx hb dX5_findFault_73 (by decide) ?_
      refine lv_bipush (v := 30) hx hb dX5_findFault_76 (by decide) ?_
      refine lv_iload_n hx hb dX5_findFault_78 rfl (lv_at hl 3 rfl) ?_
      refine lv_imul hx hb dX5_findFault_79 ?_
      refine lv_iadd hx hb dX5_findFault_80 ?_
      refine lv_iload hx hb dX5_findFault_81 (lv_at hl 4 rfl) ?_
      refine lv_iadd hx hb dX5_findFault_83 ?_
      have e9 := hR _ (Option.some.inj h).symm
      subst e9
      exact dk_iret C hK hP hD hS rfl dX5_findFault_84
set_option maxHeartbeats 4000000 in
set_option maxRecDepth 100000 in
theorem lX5_findFault_54 (C : dk_C p s m meth c args cX5_findFault (some .int) 5 RX5 vsX5_findFault) (hK : va_K (dC, dI) vwCl (dk_ty cI cJ cZ) s) (hA : ∀ q : Nat, s.heap.size ≤ q → A q) {out : Int32} {x1 x2 x3 : Int32} {n : Nat} {st : Int32} {r : (Int32) ⊕ (Unit)} (h : dk_loop (bX5_findFault_54 S_left S_low S_side S_howMany x1 x2 x3) n st = some r) (hR : ∀ z : Int32, r = .inl z → z = out) (hE : ∀ z : Unit, r = .inr z → ∀ (H : Heap) (locs : List Loc), va_P (dC, dI) vwCl (wX5 oS aS cI cJ cZ S_left S_low S_side S_howMany) H → va_D A (wX5 oS aS cI cJ cZ S_left S_low S_side S_howMany) → va_S A s.heap H locs → ∀ ls : Array Slot, lv_has ls 5 [(0, .ref oS), (1, .int x1), (2, .int x2), (3, .int x3)] → W p l e rX5_findFault s m args below meth c H locs 0 0 (MQ below (dk_Qi (dC, dI) (dk_ty cI cJ cZ) (wX5 oS aS cI cJ cZ S_left S_low S_side S_howMany) out A) args s 0 0 A) (F0 m 91 ls [])) : ∀ (H : Heap) (locs : List Loc), va_P (dC, dI) vwCl (wX5 oS aS cI cJ cZ S_left S_low S_side S_howMany) H → va_D A (wX5 oS aS cI cJ cZ S_left S_low S_side S_howMany) → va_S A s.heap H locs → ∀ ls : Array Slot, lv_has ls 5 [(0, .ref oS), (1, .int x1), (2, .int x2), (3, .int x3), (4, .int st)] → W p l e rX5_findFault s m args below meth c H locs 0 0 (MQ below (dk_Qi (dC, dI) (dk_ty cI cJ cZ) (wX5 oS aS cI cJ cZ S_left S_low S_side S_howMany) out A) args s 0 0 A) (F0 m 54 ls []) :=
  dk_loopW (P := fun st => ∀ (H : Heap) (locs : List Loc), va_P (dC, dI) vwCl (wX5 oS aS cI cJ cZ S_left S_low S_side S_howMany) H → va_D A (wX5 oS aS cI cJ cZ S_left S_low S_side S_howMany) → va_S A s.heap H locs → ∀ ls : Array Slot, lv_has ls 5 [(0, .ref oS), (1, .int x1), (2, .int x2), (3, .int x3), (4, .int st)] → W p l e rX5_findFault s m args below meth c H locs 0 0 (MQ below (dk_Qi (dC, dI) (dk_ty cI cJ cZ) (wX5 oS aS cI cJ cZ S_left S_low S_side S_howMany) out A) args s 0 0 A) (F0 m 54 ls [])) (K := fun r => (∀ z : Int32, r = .inl z → z = out) ∧ (∀ z : Unit, r = .inr z → ∀ (H : Heap) (locs : List Loc), va_P (dC, dI) vwCl (wX5 oS aS cI cJ cZ S_left S_low S_side S_howMany) H → va_D A (wX5 oS aS cI cJ cZ S_left S_low S_side S_howMany) → va_S A s.heap H locs → ∀ ls : Array Slot, lv_has ls 5 [(0, .ref oS), (1, .int x1), (2, .int x2), (3, .int x3)] → W p l e rX5_findFault s m args below meth c H locs 0 0 (MQ below (dk_Qi (dC, dI) (dk_ty cI cJ cZ) (wX5 oS aS cI cJ cZ S_left S_low S_side S_howMany) out A) args s 0 0 A) (F0 m 91 ls []))) (fun st y hy k1 k2 => tX5_findFault_54 C hK hA hy (fun z e1 => (k1 _ e1).1 z rfl) (fun z e1 => (k1 _ e1).2 z rfl) k2) n st r h ⟨hR, hE⟩
set_option maxHeartbeats 4000000 in
set_option maxRecDepth 100000 in
theorem tX5_findFault_41 (C : dk_C p s m meth c args cX5_findFault (some .int) 5 RX5 vsX5_findFault) (hK : va_K (dC, dI) vwCl (dk_ty cI cJ cZ) s) (hA : ∀ q : Nat, s.heap.size ≤ q → A q) {out : Int32} {x1 x2 : Int32} {st : Int32} {y : ((Int32) ⊕ (Unit)) ⊕ (Int32)} (h : bX5_findFault_41 S_left S_low S_side S_howMany x1 x2 st = some y) (hR : ∀ z : Int32, y = .inl (.inl z) → z = out) (hE : ∀ z : Unit, y = .inl (.inr z) → ∀ (H : Heap) (locs : List Loc), va_P (dC, dI) vwCl (wX5 oS aS cI cJ cZ S_left S_low S_side S_howMany) H → va_D A (wX5 oS aS cI cJ cZ S_left S_low S_side S_howMany) → va_S A s.heap H locs → ∀ ls : Array Slot, lv_has ls 5 [(0, .ref oS), (1, .int x1), (2, .int x2)] → W p l e rX5_findFault s m args below meth c H locs 0 0 (MQ below (dk_Qi (dC, dI) (dk_ty cI cJ cZ) (wX5 oS aS cI cJ cZ S_left S_low S_side S_howMany) out A) args s 0 0 A) (F0 m 97 ls [])) (hC : ∀ z : Int32, y = .inr z → ∀ (H : Heap) (locs : List Loc), va_P (dC, dI) vwCl (wX5 oS aS cI cJ cZ S_left S_low S_side S_howMany) H → va_D A (wX5 oS aS cI cJ cZ S_left S_low S_side S_howMany) → va_S A s.heap H locs → ∀ ls : Array Slot, lv_has ls 5 [(0, .ref oS), (1, .int x1), (2, .int x2), (3, .int z)] → W p l e rX5_findFault s m args below meth c H locs 0 0 (MQ below (dk_Qi (dC, dI) (dk_ty cI cJ cZ) (wX5 oS aS cI cJ cZ S_left S_low S_side S_howMany) out A) args s 0 0 A) (F0 m 41 ls [])) : ∀ (H : Heap) (locs : List Loc), va_P (dC, dI) vwCl (wX5 oS aS cI cJ cZ S_left S_low S_side S_howMany) H → va_D A (wX5 oS aS cI cJ cZ S_left S_low S_side S_howMany) → va_S A s.heap H locs → ∀ ls : Array Slot, lv_has ls 5 [(0, .ref oS), (1, .int x1), (2, .int x2), (3, .int st)] → W p l e rX5_findFault s m args below meth c H locs 0 0 (MQ below (dk_Qi (dC, dI) (dk_ty cI cJ cZ) (wX5 oS aS cI cJ cZ S_left S_low S_side S_howMany) out A) args s 0 0 A) (F0 m 41 ls []) := by
  obtain ⟨hx, hb, hr, hml, hown, hts, hlocks⟩ := id C
  intro H locs hP hD hS ls hl
  unfold bX5_findFault_41 at h
  refine lv_iload_n hx hb dX5_findFault_41 rfl (lv_at hl 3 rfl) ?_
  refine lv_aload_n hx hb dX5_findFault_42 rfl (lv_at hl 0 rfl) ?_
  refine va_get (D := (dC, dI)) (ci := 5) (v := .int S_howMany) (C := RX5) (T := TX5) (N := 4) hx hb hts qX5_findFault_X5 hown hK hP 0 rfl rfl 3 (by decide) (hts _ qX5_findFault_f21) (fun _ h9 => h9) rfl dX5_findFault_43 ?_
  refine lv_icmp_ge (tgt := 97) hx hb dX5_findFault_46 (by decide) (fun c_13 => ?_) (fun c_13 => ?_)
  · replace h := dk_it c_13 h
    exact hE _ (Option.some.inj h).symm _ _ hP hD hS ls (lv_sub hl [0, 1, 2] rfl)
  · replace h := dk_ie c_13 h
    refine lv_iload_n hx hb dX5_findFault_49 rfl (lv_at hl 3 rfl) ?_
    refine lv_iconst (v := 1) hx hb dX5_findFault_50 (by decide) ?_
    refine lv_iadd hx hb dX5_findFault_51 ?_
    refine lv_topi (fun x4_14 ex4_14 => ?_)
    replace h := dk_let_to ex4_14 h
    refine lv_istore (lv' := [(4, .int x4_14), (0, .ref oS), (1, .int x1), (2, .int x2), (3, .int st)]) hx hb dX5_findFault_52 hl (by decide) rfl (fun ls hl => ?_)
    obtain ⟨r_15, hLr_15, h⟩ := dk_bnd_to h
    cases r_15 with
    | inl zz =>
      replace h := dk_sum_l h
      have hz := hR _ (Option.some.inj h).symm
      exact lX5_findFault_54 C hK hA hLr_15 (fun z1 e1 => by cases e1; exact hz) (fun z1 e1 => by cases e1) _ _ hP hD hS ls (lv_sub hl [1, 2, 3, 4, 0] rfl)
    | inr z_16 =>
      replace h := dk_sum_r h
      refine lX5_findFault_54 C hK hA hLr_15 (fun z1 e1 => by cases e1) (fun z1 e1 => ?_) _ _ hP hD hS ls (lv_sub hl [1, 2, 3, 4, 0] rfl)
      have e2 := Sum.inr.inj e1
      subst e2
      intro H locs hP hD hS ls hl
      obtain ⟨x3_17, ex3_17⟩ : ∃ z : Int32, z = st + 1 := ⟨_, rfl⟩
      replace h := dk_let_to ex3_17 h
      refine lv_iinc (v := x3_17) (lv' := [(3, .int x3_17), (0, .ref oS), (1, .int x1), (2, .int x2)]) hx hb dX5_findFault_91 hl (k := 3) rfl (by rw [ex3_17]; rfl) (by decide) rfl (fun ls hl => ?_)
      refine lv_goto (tgt := 41) hx hb dX5_findFault_94 (by decide) ?_
      exact hC _ (Option.some.inj h).symm _ _ hP hD hS ls (lv_sub hl [1, 2, 3, 0] rfl)
set_option maxHeartbeats 4000000 in
set_option maxRecDepth 100000 in
theorem lX5_findFault_41 (C : dk_C p s m meth c args cX5_findFault (some .int) 5 RX5 vsX5_findFault) (hK : va_K (dC, dI) vwCl (dk_ty cI cJ cZ) s) (hA : ∀ q : Nat, s.heap.size ≤ q → A q) {out : Int32} {x1 x2 : Int32} {n : Nat} {st : Int32} {r : (Int32) ⊕ (Unit)} (h : dk_loop (bX5_findFault_41 S_left S_low S_side S_howMany x1 x2) n st = some r) (hR : ∀ z : Int32, r = .inl z → z = out) (hE : ∀ z : Unit, r = .inr z → ∀ (H : Heap) (locs : List Loc), va_P (dC, dI) vwCl (wX5 oS aS cI cJ cZ S_left S_low S_side S_howMany) H → va_D A (wX5 oS aS cI cJ cZ S_left S_low S_side S_howMany) → va_S A s.heap H locs → ∀ ls : Array Slot, lv_has ls 5 [(0, .ref oS), (1, .int x1), (2, .int x2)] → W p l e rX5_findFault s m args below meth c H locs 0 0 (MQ below (dk_Qi (dC, dI) (dk_ty cI cJ cZ) (wX5 oS aS cI cJ cZ S_left S_low S_side S_howMany) out A) args s 0 0 A) (F0 m 97 ls [])) : ∀ (H : Heap) (locs : List Loc), va_P (dC, dI) vwCl (wX5 oS aS cI cJ cZ S_left S_low S_side S_howMany) H → va_D A (wX5 oS aS cI cJ cZ S_left S_low S_side S_howMany) → va_S A s.heap H locs → ∀ ls : Array Slot, lv_has ls 5 [(0, .ref oS), (1, .int x1), (2, .int x2), (3, .int st)] → W p l e rX5_findFault s m args below meth c H locs 0 0 (MQ below (dk_Qi (dC, dI) (dk_ty cI cJ cZ) (wX5 oS aS cI cJ cZ S_left S_low S_side S_howMany) out A) args s 0 0 A) (F0 m 41 ls []) :=
  dk_loopW (P := fun st => ∀ (H : Heap) (locs : List Loc), va_P (dC, dI) vwCl (wX5 oS aS cI cJ cZ S_left S_low S_side S_howMany) H → va_D A (wX5 oS aS cI cJ cZ S_left S_low S_side S_howMany) → va_S A s.heap H locs → ∀ ls : Array Slot, lv_has ls 5 [(0, .ref oS), (1, .int x1), (2, .int x2), (3, .int st)] → W p l e rX5_findFault s m args below meth c H locs 0 0 (MQ below (dk_Qi (dC, dI) (dk_ty cI cJ cZ) (wX5 oS aS cI cJ cZ S_left S_low S_side S_howMany) out A) args s 0 0 A) (F0 m 41 ls [])) (K := fun r => (∀ z : Int32, r = .inl z → z = out) ∧ (∀ z : Unit, r = .inr z → ∀ (H : Heap) (locs : List Loc), va_P (dC, dI) vwCl (wX5 oS aS cI cJ cZ S_left S_low S_side S_howMany) H → va_D A (wX5 oS aS cI cJ cZ S_left S_low S_side S_howMany) → va_S A s.heap H locs → ∀ ls : Array Slot, lv_has ls 5 [(0, .ref oS), (1, .int x1), (2, .int x2)] → W p l e rX5_findFault s m args below meth c H locs 0 0 (MQ below (dk_Qi (dC, dI) (dk_ty cI cJ cZ) (wX5 oS aS cI cJ cZ S_left S_low S_side S_howMany) out A) args s 0 0 A) (F0 m 97 ls []))) (fun st y hy k1 k2 => tX5_findFault_41 C hK hA hy (fun z e1 => (k1 _ e1).1 z rfl) (fun z e1 => (k1 _ e1).2 z rfl) k2) n st r h ⟨hR, hE⟩
end
set_option maxHeartbeats 4000000 in
set_option maxRecDepth 100000 in
theorem mX5_findFault (l : Launch) (dC : Nat → ClassId) (dI : Nat → Nat → Nat) (cI cJ cZ : ClassId) {oS : Nat} {aS : Nat → Nat} {S_left S_low S_side : Nat → Int32} {S_howMany : Int32} {x1 x2 : Int32} {out : Int32} (h : fX5_findFault S_left S_low S_side S_howMany x1 x2 = some out) (sz : Nat) : Met l yX5_findFault vsX5_findFault rX5_findFault (va_Pc [.ref oS, .int x1, .int x2] (dk_Pre (dC, dI) (dk_ty cI cJ cZ) (wX5 oS aS cI cJ cZ S_left S_low S_side S_howMany) sz)) (dk_Qi (dC, dI) (dk_ty cI cJ cZ) (wX5 oS aS cI cJ cZ S_left S_low S_side S_howMany) out (va_A (wX5 oS aS cI cJ cZ S_left S_low S_side S_howMany) sz)) 0 0 (va_A (wX5 oS aS cI cJ cZ S_left S_low S_side S_howMany) sz) := by
  refine dk_met (cc := cX5_findFault) (maxL := 5) (ret := (some .int)) (Qc := fun A => dk_Qi (dC, dI) (dk_ty cI cJ cZ) (wX5 oS aS cI cJ cZ S_left S_low S_side S_howMany) out A) (by decide) rfl (Nat.le_of_ble_eq_true rfl) ?_
  intro p e s m below meth c A C hnm hA hK hP hD hS ls hl
  have C : dk_C p s m meth c _ cX5_findFault (some .int) 5 RX5 vsX5_findFault := C
  obtain ⟨hx, hb, hr, hml, hown, hts, hlocks⟩ := id C
  have hl : lv_has ls 5 [(0, .ref oS), (1, .int x1), (2, .int x2)] := hl
  unfold fX5_findFault at h
  refine lv_iconst (v := 0) hx hb dX5_findFault_0 (by decide) ?_
  refine lv_istore_n (lv' := [(3, .int 0), (0, .ref oS), (1, .int x1), (2, .int x2)]) hx hb dX5_findFault_1 rfl hl (by decide) rfl (fun ls hl => ?_)
  obtain ⟨r_1, hLr_1, h⟩ := dk_bnd_to h
  cases r_1 with
  | inl zz =>
    replace h := dk_sum_l h
    have hz := Option.some.inj h
    exact lX5_findFault_2 C hK hA hLr_1 (fun z1 e1 => by cases e1; exact hz) (fun z1 e1 => by cases e1) _ _ hP hD hS ls (lv_sub hl [1, 2, 3, 0] rfl)
  | inr z_2 =>
    replace h := dk_sum_r h
    refine lX5_findFault_2 C hK hA hLr_1 (fun z1 e1 => by cases e1) (fun z1 e1 => ?_) _ _ hP hD hS ls (lv_sub hl [1, 2, 3, 0] rfl)
    have e2 := Sum.inr.inj e1
    subst e2
    intro H locs hP hD hS ls hl
    refine lv_iconst (v := 0) hx hb dX5_findFault_39 (by decide) ?_
    refine lv_istore_n (lv' := [(3, .int 0), (0, .ref oS), (1, .int x1), (2, .int x2)]) hx hb dX5_findFault_40 rfl hl (by decide) rfl (fun ls hl => ?_)
    obtain ⟨r_3, hLr_3, h⟩ := dk_bnd_to h
    cases r_3 with
    | inl zz =>
      replace h := dk_sum_l h
      have hz := Option.some.inj h
      exact lX5_findFault_41 C hK hA hLr_3 (fun z1 e1 => by cases e1; exact hz) (fun z1 e1 => by cases e1) _ _ hP hD hS ls (lv_sub hl [1, 2, 3, 0] rfl)
    | inr z_4 =>
      replace h := dk_sum_r h
      refine lX5_findFault_41 C hK hA hLr_3 (fun z1 e1 => by cases e1) (fun z1 e1 => ?_) _ _ hP hD hS ls (lv_sub hl [1, 2, 3, 0] rfl)
      have e2 := Sum.inr.inj e1
      subst e2
      intro H locs hP hD hS ls hl
      refine lv_aload_n hx hb dX5_findFault_97 rfl (lv_at hl 0 rfl) ?_
      obtain ⟨r_5, hcr_5, h⟩ := dk_bnd_to h
      refine dk_rVl (b := oS) (As := []) (rest := []) (wc := (wX5 oS aS cI cJ cZ S_left S_low S_side S_howMany)) C hK hP hD hS hA (mX5_area l dC dI cI cJ cZ hcr_5 _) (cwV 0 hts gvX5_findFault_X5_area rfl rfl rfl (by decide +kernel) ⟨Nat.le_of_ble_eq_true rfl, Nat.le_of_ble_eq_true rfl⟩) [0, 1, 2, 3] rfl (by decide) 0 5 rfl rfl rfl hl.1 rfl (Nat.le_of_ble_eq_true rfl) ⟨Nat.le_of_ble_eq_true rfl, Nat.le_of_ble_eq_true rfl⟩ dX5_findFault_98 (fun H locs hP hD hS => ?_)
      refine lv_iload_n hx hb dX5_findFault_101 rfl (lv_at hl 1 rfl) ?_
      refine lv_i2l hx hb dX5_findFault_102 rfl ?_
      refine lv_iload_n hx hb dX5_findFault_103 rfl (lv_at hl 2 rfl) ?_
      refine lv_i2l hx hb dX5_findFault_104 rfl ?_
      refine lv_lmul hx hb dX5_findFault_105 ?_
      refine W.lcmp hx hb dX5_findFault_106 ?_
      refine lv_if_ne (tgt := 114) hx hb dX5_findFault_107 (by decide) (fun c_6 => ?_) (fun c_6 => ?_)
      · replace h := dk_ie c_6 h
        refine lv_iconst (v := 3) hx hb dX5_findFault_114 (by decide) ?_
        have e9 := Option.some.inj h
        subst e9
        exact dk_iret C hK hP hD hS rfl dX5_findFault_115
      · replace h := dk_it c_6 h
        refine lv_iconst (v := 0) hx hb dX5_findFault_110 (by decide) ?_
        refine lv_goto (tgt := 115) hx hb dX5_findFault_111 (by decide) ?_
        have e9 := Option.some.inj h
        subst e9
        exact dk_iret C hK hP hD hS rfl dX5_findFault_115

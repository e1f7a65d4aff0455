/-! ===== SquareTiler$Lines.levelOf ===== -/
abbrev rX3_levelOf : Room := { frames := 1, cells := 0, slots := 0, locals := 21 }
def ovX3_levelOf : List Cond := [Cond.fieldLink RX3 53 "SquareTiler$Squares" "low" "[I", Cond.methodLink RX3 50 yX5_top, Cond.instanceMethod yX5_top, Cond.selects RX5 yX5_top yX5_top, Cond.initialized RX5]
def vsX3_levelOf : List Cond := .code yX3_levelOf cX3_levelOf 2 (some .int) :: (ovX3_levelOf ++ (wsX50 ++ (vsX5_top ++ [])))
theorem qX3_levelOf_f53 : Cond.fieldLink RX3 53 "SquareTiler$Squares" "low" "[I" ∈ vsX3_levelOf := List.mem_cons_of_mem _ (List.mem_append_left _ (List.mem_of_getElem? (i := 0) rfl))
theorem qX3_levelOf_w1 : Cond.methodLink RX3 50 yX5_top ∈ vsX3_levelOf := List.mem_cons_of_mem _ (List.mem_append_left _ (List.mem_of_getElem? (i := 1) rfl))
theorem qX3_levelOf_w2 : Cond.instanceMethod yX5_top ∈ vsX3_levelOf := List.mem_cons_of_mem _ (List.mem_append_left _ (List.mem_of_getElem? (i := 2) rfl))
theorem qX3_levelOf_w3 : Cond.selects RX5 yX5_top yX5_top ∈ vsX3_levelOf := List.mem_cons_of_mem _ (List.mem_append_left _ (List.mem_of_getElem? (i := 3) rfl))
theorem qX3_levelOf_w4 : Cond.initialized RX5 ∈ vsX3_levelOf := List.mem_cons_of_mem _ (List.mem_append_left _ (List.mem_of_getElem? (i := 4) rfl))
theorem qX3_levelOf_X5 : ∀ w ∈ u_ws RX5 TX5 4, w ∈ vsX3_levelOf := fun w h => List.mem_cons_of_mem _ (List.mem_append_right _ (List.mem_append_left _ h))
theorem gd_vsX3_levelOf : ∀ w ∈ vsX3_levelOf, goodWord w = true := dk_cons rfl (dk_app (dk_all (by decide +kernel)) (dk_app gd_wsX50 (dk_app gd_vsX5_top dk_nil)))
theorem gvX3_levelOf_X5_top : GoodIn vsX3_levelOf (wsV RX3 50 RX5 yX5_top vsX5_top) := goodIn_app (dk_g4 qX3_levelOf_w1 qX3_levelOf_w2 qX3_levelOf_w3 qX3_levelOf_w4 rfl) (dk_gIn (fun w h => List.mem_cons_of_mem _ (List.mem_append_right _ (List.mem_append_right _ (List.mem_append_left _ h)))) gd_vsX5_top)
def fX3_levelOf (S_low S_side : Nat → Int32) (x1 : Int32) : Option (Int32) := if (x1 &&& 1) = 0 then dk_bnd (fX5_top S_low S_side (x1 >>> ((1 : Int32) &&& 31))) (fun r_3 => some r_3) else dk_gd (dk_in (x1 >>> ((1 : Int32) &&& 31)) 21) (some (S_low (x1 >>> ((1 : Int32) &&& 31)).toNatClampNeg))
section
variable {p : Program} {l : Launch} {e : Env} {s : State} {m : MethodId} {args : Array Value} {below : List Frame} {meth : Method} {c : Code} {dC : Nat → ClassId} {dI : Nat → Nat → Nat} {cI cJ cZ : ClassId} {A : Nat → Prop} {oS : Nat} {aS : Nat → Nat} {S_left S_low S_side : Nat → Int32} {S_howMany : Int32}
end
set_option maxHeartbeats 4000000 in
set_option maxRecDepth 100000 in
theorem mX3_levelOf (l : Launch) (dC : Nat → ClassId) (dI : Nat → Nat → Nat) (cI cJ cZ : ClassId) {oS : Nat} {aS : Nat → Nat} {S_left S_low S_side : Nat → Int32} {S_howMany : Int32} {x1 : Int32} {out : Int32} (h : fX3_levelOf S_low S_side x1 = some out) (sz : Nat) : Met l yX3_levelOf vsX3_levelOf rX3_levelOf (va_Pc [.ref oS, .int x1] (dk_Pre (dC, dI) (dk_ty cI cJ cZ) (wX5 oS aS cI cJ cZ S_left S_low S_side S_howMany) sz)) (dk_Qi (dC, dI) (dk_ty cI cJ cZ) (wX5 oS aS cI cJ cZ S_left S_low S_side S_howMany) out (va_A (wX5 oS aS cI cJ cZ S_left S_low S_side S_howMany) sz)) 0 0 (va_A (wX5 oS aS cI cJ cZ S_left S_low S_side S_howMany) sz) := by
  refine dk_met (cc := cX3_levelOf) (maxL := 2) (ret := (some .int)) (Qc := fun A => dk_Qi (dC, dI) (dk_ty cI cJ cZ) (wX5 oS aS cI cJ cZ S_left S_low S_side S_howMany) out A) (by decide) rfl (Nat.le_of_ble_eq_true rfl) ?_
  intro p e s m below meth c A C hnm hA hK hP hD hS ls hl
  have C : dk_C p s m meth c _ cX3_levelOf (some .int) 2 RX3 vsX3_levelOf := C
  obtain ⟨hx, hb, hr, hml, hown, hts, hlocks⟩ := id C
  have hl : lv_has ls 2 [(0, .ref oS), (1, .int x1)] := hl
  unfold fX3_levelOf at h
  refine lv_iload_n hx hb dX3_levelOf_0 rfl (lv_at hl 1 rfl) ?_
  refine lv_iconst (v := 1) hx hb dX3_levelOf_1 (by decide) ?_
  refine lv_iand hx hb dX3_levelOf_2 ?_
  refine lv_if_ne (tgt := 16) hx hb dX3_levelOf_3 (by decide) (fun c_1 => ?_) (fun c_1 => ?_)
  · replace h := dk_ie c_1 h
    refine lv_aload_n hx hb dX3_levelOf_16 rfl (lv_at hl 0 rfl) ?_
    refine va_get (D := (dC, dI)) (ci := 5) (v := .ref (aS 1)) (C := RX5) (T := TX5) (N := 4) hx hb hts qX3_levelOf_X5 hown hK hP 0 rfl rfl 1 (by decide) (hts _ qX3_levelOf_f53) (fun _ h9 => h9) rfl dX3_levelOf_17 ?_
    refine lv_iload_n hx hb dX3_levelOf_20 rfl (lv_at hl 1 rfl) ?_
    refine lv_iconst (v := 1) hx hb dX3_levelOf_21 (by decide) ?_
    refine lv_ishr hx hb dX3_levelOf_22 ?_
    obtain ⟨g_2, h⟩ := dk_gd_to h
    have g_2 := dk_in_to g_2
    refine va_iald hx hb hK hP 2 0 rfl rfl g_2 dX3_levelOf_23 ?_
    have e9 := Option.some.inj h
    subst e9
    exact dk_iret C hK hP hD hS rfl dX3_levelOf_24
  · replace h := dk_it c_1 h
    refine lv_aload_n hx hb dX3_levelOf_6 rfl (lv_at hl 0 rfl) ?_
    refine lv_iload_n hx hb dX3_levelOf_7 rfl (lv_at hl 1 rfl) ?_
    refine lv_iconst (v := 1) hx hb dX3_levelOf_8 (by decide) ?_
    refine lv_ishr hx hb dX3_levelOf_9 ?_
    obtain ⟨r_3, hcr_3, h⟩ := dk_bnd_to h
    refine dk_rVi (b := oS) (As := [.int (x1 >>> ((1 : Int32) &&& 31))]) (rest := []) (wc := (wX5 oS aS cI cJ cZ S_left S_low S_side S_howMany)) C hK hP hD hS hA (mX5_top l dC dI cI cJ cZ hcr_3 _) (cwV 1 hts gvX3_levelOf_X5_top rfl rfl rfl (by decide +kernel) ⟨Nat.le_of_ble_eq_true rfl, Nat.le_of_ble_eq_true rfl⟩) [0, 1, 2, 3] rfl (by decide) 0 5 rfl rfl rfl hl.1 rfl (Nat.le_of_ble_eq_true rfl) ⟨Nat.le_of_ble_eq_true rfl, Nat.le_of_ble_eq_true rfl⟩ dX3_levelOf_10 (fun H locs hP hD hS => ?_)
    refine lv_goto (tgt := 24) hx hb dX3_levelOf_13 (by decide) ?_
    have e9 := Option.some.inj h
    subst e9
    exact dk_iret C hK hP hD hS rfl dX3_levelOf_24
/-! ===== SquareTiler$Lines.isEarlier ===== -/
abbrev rX3_isEarlier : Room := { frames := 2, cells := 0, slots := 0, locals := 42 }
def ovX3_isEarlier : List Cond := [Cond.fieldLink RX3 33 "SquareTiler$Squares" "left" "[I", Cond.methodLink RX3 29 yX3_levelOf, Cond.static yX3_levelOf, Cond.initialized RX3]
def vsX3_isEarlier : List Cond := .code yX3_isEarlier cX3_isEarlier 5 (some .boolean) :: (ovX3_isEarlier ++ (wsX50 ++ (vsX3_levelOf ++ [])))
theorem qX3_isEarlier_f33 : Cond.fieldLink RX3 33 "SquareTiler$Squares" "left" "[I" ∈ vsX3_isEarlier := List.mem_cons_of_mem _ (List.mem_append_left _ (List.mem_of_getElem? (i := 0) rfl))
theorem qX3_isEarlier_w1 : Cond.methodLink RX3 29 yX3_levelOf ∈ vsX3_isEarlier := List.mem_cons_of_mem _ (List.mem_append_left _ (List.mem_of_getElem? (i := 1) rfl))
theorem qX3_isEarlier_w2 : Cond.static yX3_levelOf ∈ vsX3_isEarlier := List.mem_cons_of_mem _ (List.mem_append_left _ (List.mem_of_getElem? (i := 2) rfl))
theorem qX3_isEarlier_w3 : Cond.initialized RX3 ∈ vsX3_isEarlier := List.mem_cons_of_mem _ (List.mem_append_left _ (List.mem_of_getElem? (i := 3) rfl))
theorem qX3_isEarlier_X5 : ∀ w ∈ u_ws RX5 TX5 4, w ∈ vsX3_isEarlier := fun w h => List.mem_cons_of_mem _ (List.mem_append_right _ (List.mem_append_left _ h))
theorem gd_vsX3_isEarlier : ∀ w ∈ vsX3_isEarlier, goodWord w = true := dk_cons rfl (dk_app (dk_all (by decide +kernel)) (dk_app gd_wsX50 (dk_app gd_vsX3_levelOf dk_nil)))
theorem gvX3_isEarlier_X3_levelOf : GoodIn vsX3_isEarlier (va_wsS RX3 29 yX3_levelOf vsX3_levelOf) := goodIn_app (dk_g3 qX3_isEarlier_w1 qX3_isEarlier_w2 qX3_isEarlier_w3 rfl) (dk_gIn (fun w h => List.mem_cons_of_mem _ (List.mem_append_right _ (List.mem_append_right _ (List.mem_append_left _ h)))) gd_vsX3_levelOf)
def fX3_isEarlier (S_left S_low S_side : Nat → Int32) (x1 x2 : Int32) : Option (Int32) := dk_bnd (fX3_levelOf S_low S_side x1) (fun r_1 => dk_bnd (fX3_levelOf S_low S_side x2) (fun r_2 => if r_1 = r_2 then dk_gd (dk_in (x1 >>> ((1 : Int32) &&& 31)) 21) (dk_gd (dk_in (x2 >>> ((1 : Int32) &&& 31)) 21) (if (S_left (x2 >>> ((1 : Int32) &&& 31)).toNatClampNeg) ≤ (S_left (x1 >>> ((1 : Int32) &&& 31)).toNatClampNeg) then some 0 else some 1)) else if r_1 ≤ r_2 then some 0 else some 1))
section
variable {p : Program} {l : Launch} {e : Env} {s : State} {m : MethodId} {args : Array Value} {below : List Frame} {meth : Method} {c : Code} {dC : Nat → ClassId} {dI : Nat → Nat → Nat} {cI cJ cZ : ClassId} {A : Nat → Prop} {oS : Nat} {aS : Nat → Nat} {S_left S_low S_side : Nat → Int32} {S_howMany : Int32}
end
set_option maxHeartbeats 4000000 in
set_option maxRecDepth 100000 in
theorem mX3_isEarlier (l : Launch) (dC : Nat → ClassId) (dI : Nat → Nat → Nat) (cI cJ cZ : ClassId) {oS : Nat} {aS : Nat → Nat} {S_left S_low S_side : Nat → Int32} {S_howMany : Int32} {x1 x2 : Int32} {out : Int32} (h : fX3_isEarlier S_left S_low S_side x1 x2 = some out) (sz : Nat) : Met l yX3_isEarlier vsX3_isEarlier rX3_isEarlier (va_Pc [.ref oS, .int x1, .int x2] (dk_Pre (dC, dI) (dk_ty cI cJ cZ) (wX5 oS aS cI cJ cZ S_left S_low S_side S_howMany) sz)) (dk_Qi (dC, dI) (dk_ty cI cJ cZ) (wX5 oS aS cI cJ cZ S_left S_low S_side S_howMany) out (va_A (wX5 oS aS cI cJ cZ S_left S_low S_side S_howMany) sz)) 0 0 (va_A (wX5 oS aS cI cJ cZ S_left S_low S_side S_howMany) sz) := by
  refine dk_met (cc := cX3_isEarlier) (maxL := 5) (ret := (some .boolean)) (Qc := fun A => dk_Qi (dC, dI) (dk_ty cI cJ cZ) (wX5 oS aS cI cJ cZ S_left S_low S_side S_howMany) out A) (by decide) rfl (Nat.le_of_ble_eq_true rfl) ?_
  intro p e s m below meth c A C hnm hA hK hP hD hS ls hl
  have C : dk_C p s m meth c _ cX3_isEarlier (some .boolean) 5 RX3 vsX3_isEarlier := C
  obtain ⟨hx, hb, hr, hml, hown, hts, hlocks⟩ := id C
  have hl : lv_has ls 5 [(0, .ref oS), (1, .int x1), (2, .int x2)] := hl
  unfold fX3_isEarlier at h
  refine lv_aload_n hx hb dX3_isEarlier_0 rfl (lv_at hl 0 rfl) ?_
  refine lv_iload_n hx hb dX3_isEarlier_1 rfl (lv_at hl 1 rfl) ?_
  obtain ⟨r_1, hcr_1, h⟩ := dk_bnd_to h
  refine dk_rSi (As := [.ref oS, .int x1]) (rest := []) (wc := (wX5 oS aS cI cJ cZ S_left S_low S_side S_howMany)) C hK hP hD hS hA (mX3_levelOf l dC dI cI cJ cZ hcr_1 _) (va_cwS 2 hts gvX3_isEarlier_X3_levelOf rfl rfl rfl (by decide +kernel) ⟨Nat.le_of_ble_eq_true rfl, Nat.le_of_ble_eq_true rfl⟩) [0, 1, 2, 3] rfl (by decide) rfl hl.1 rfl (Nat.le_of_ble_eq_true rfl) ⟨Nat.le_of_ble_eq_true rfl, Nat.le_of_ble_eq_true rfl⟩ dX3_isEarlier_2 (fun H locs hP hD hS => ?_)
  refine lv_istore_n (lv' := [(3, .int r_1), (0, .ref oS), (1, .int x1), (2, .int x2)]) hx hb dX3_isEarlier_5 rfl hl (by decide) rfl (fun ls hl => ?_)
  refine lv_aload_n hx hb dX3_isEarlier_6 rfl (lv_at hl 1 rfl) ?_
  refine lv_iload_n hx hb dX3_isEarlier_7 rfl (lv_at hl 3 rfl) ?_
  obtain ⟨r_2, hcr_2, h⟩ := dk_bnd_to h
  refine dk_rSi (As := [.ref oS, .int x2]) (rest := []) (wc := (wX5 oS aS cI cJ cZ S_left S_low S_side S_howMany)) C hK hP hD hS hA (mX3_levelOf l dC dI cI cJ cZ hcr_2 _) (va_cwS 2 hts gvX3_isEarlier_X3_levelOf rfl rfl rfl (by decide +kernel) ⟨Nat.le_of_ble_eq_true rfl, Nat.le_of_ble_eq_true rfl⟩) [0, 1, 2, 3] rfl (by decide) rfl hl.1 rfl (Nat.le_of_ble_eq_true rfl) ⟨Nat.le_of_ble_eq_true rfl, Nat.le_of_ble_eq_true rfl⟩ dX3_isEarlier_8 (fun H locs hP hD hS => ?_)
  refine lv_istore (lv' := [(4, .int r_2), (3, .int r_1), (0, .ref oS), (1, .int x1), (2, .int x2)]) hx hb dX3_isEarlier_11 hl (by decide) rfl (fun ls hl => ?_)
  refine lv_iload_n hx hb dX3_isEarlier_13 rfl (lv_at hl 1 rfl) ?_
  refine lv_iload hx hb dX3_isEarlier_14 (lv_at hl 0 rfl) ?_
  refine lv_icmp_eq (tgt := 33) hx hb dX3_isEarlier_16 (by decide) (fun c_3 => ?_) (fun c_3 => ?_)
  · replace h := dk_it c_3 h
    refine lv_aload_n hx hb dX3_isEarlier_33 rfl (lv_at hl 2 rfl) ?_
    refine va_get (D := (dC, dI)) (ci := 5) (v := .ref (aS 0)) (C := RX5) (T := TX5) (N := 4) hx hb hts qX3_isEarlier_X5 hown hK hP 0 rfl rfl 0 (by decide) (hts _ qX3_isEarlier_f33) (fun _ h9 => h9) rfl dX3_isEarlier_34 ?_
    refine lv_iload_n hx hb dX3_isEarlier_37 rfl (lv_at hl 3 rfl) ?_
    refine lv_iconst (v := 1) hx hb dX3_isEarlier_38 (by decide) ?_
    refine lv_ishr hx hb dX3_isEarlier_39 ?_
    obtain ⟨g_4, h⟩ := dk_gd_to h
    have g_4 := dk_in_to g_4
    refine va_iald hx hb hK hP 1 0 rfl rfl g_4 dX3_isEarlier_40 ?_
    refine lv_aload_n hx hb dX3_isEarlier_41 rfl (lv_at hl 2 rfl) ?_
    refine va_get (D := (dC, dI)) (ci := 5) (v := .ref (aS 0)) (C := RX5) (T := TX5) (N := 4) hx hb hts qX3_isEarlier_X5 hown hK hP 0 rfl rfl 0 (by decide) (hts _ qX3_isEarlier_f33) (fun _ h9 => h9) rfl dX3_isEarlier_42 ?_
    refine lv_iload_n hx hb dX3_isEarlier_45 rfl (lv_at hl 4 rfl) ?_
    refine lv_iconst (v := 1) hx hb dX3_isEarlier_46 (by decide) ?_
    refine lv_ishr hx hb dX3_isEarlier_47 ?_
    obtain ⟨g_5, h⟩ := dk_gd_to h
    have g_5 := dk_in_to g_5
    refine va_iald hx hb hK hP 1 0 rfl rfl g_5 dX3_isEarlier_48 ?_
    refine lv_icmp_ge (tgt := 56) hx hb dX3_isEarlier_49 (by decide) (fun c_6 => ?_) (fun c_6 => ?_)
    · replace h := dk_it c_6 h
      refine lv_iconst (v := 0) hx hb dX3_isEarlier_56 (by decide) ?_
      have e9 := Option.some.inj h
      subst e9
      exact dk_zret C hK hP hD hS (by decide +kernel) rfl dX3_isEarlier_57
    · replace h := dk_ie c_6 h
      refine lv_iconst (v := 1) hx hb dX3_isEarlier_52 (by decide) ?_
      refine lv_goto (tgt := 57) hx hb dX3_isEarlier_53 (by decide) ?_
      have e9 := Option.some.inj h
      subst e9
      exact dk_zret C hK hP hD hS (by decide +kernel) rfl dX3_isEarlier_57
  · replace h := dk_ie c_3 h
    refine lv_iload_n hx hb dX3_isEarlier_19 rfl (lv_at hl 1 rfl) ?_
    refine lv_iload hx hb dX3_isEarlier_20 (lv_at hl 0 rfl) ?_
    refine lv_icmp_le (tgt := 29) hx hb dX3_isEarlier_22 (by decide) (fun c_7 => ?_) (fun c_7 => ?_)
    · replace h := dk_it c_7 h
      refine lv_iconst (v := 0) hx hb dX3_isEarlier_29 (by decide) ?_
      refine lv_goto (tgt := 57) hx hb dX3_isEarlier_30 (by decide) ?_
      have e9 := Option.some.inj h
      subst e9
      exact dk_zret C hK hP hD hS (by decide +kernel) rfl dX3_isEarlier_57
    · replace h := dk_ie c_7 h
      refine lv_iconst (v := 1) hx hb dX3_isEarlier_25 (by decide) ?_
      refine lv_goto (tgt := 57) hx hb dX3_isEarlier_26 (by decide) ?_
      have e9 := Option.some.inj h
      subst e9
      exact dk_zret C hK hP hD hS (by decide +kernel) rfl dX3_isEarlier_57
/-! ===== SquareTiler$Lines.sortEdges ===== -/
abbrev rX3_sortEdges : Room := { frames := 3, cells := 0, slots := 0, locals := 66 }
def ovX3_sortEdges : List Cond := [Cond.fieldLink RX3 26 "SquareTiler$Squares" "howMany" "I", Cond.fieldLink RX3 9 "SquareTiler$Lines" "order" "[I", Cond.methodLink RX3 46 yX3_isEarlier, Cond.static yX3_isEarlier, Cond.initialized RX3]
def vsX3_sortEdges : List Cond := .code yX3_sortEdges cX3_sortEdges 4 none :: (ovX3_sortEdges ++ (wsX50 ++ (wsX30 ++ (vsX3_isEarlier ++ []))))
theorem qX3_sortEdges_f26 : Cond.fieldLink RX3 26 "SquareTiler$Squares" "howMany" "I" ∈ vsX3_sortEdges := List.mem_cons_of_mem _ (List.mem_append_left _ (List.mem_of_getElem? (i := 0) rfl))
theorem qX3_sortEdges_f9 : Cond.fieldLink RX3 9 "SquareTiler$Lines" "order" "[I" ∈ vsX3_sortEdges := List.mem_cons_of_mem _ (List.mem_append_left _ (List.mem_of_getElem? (i := 1) rfl))
theorem qX3_sortEdges_w2 : Cond.methodLink RX3 46 yX3_isEarlier ∈ vsX3_sortEdges := List.mem_cons_of_mem _ (List.mem_append_left _ (List.mem_of_getElem? (i := 2) rfl))
theorem qX3_sortEdges_w3 : Cond.static yX3_isEarlier ∈ vsX3_sortEdges := List.mem_cons_of_mem _ (List.mem_append_left _ (List.mem_of_getElem? (i := 3) rfl))
theorem qX3_sortEdges_w4 : Cond.initialized RX3 ∈ vsX3_sortEdges := List.mem_cons_of_mem _ (List.mem_append_left _ (List.mem_of_getElem? (i := 4) rfl))
theorem qX3_sortEdges_X5 : ∀ w ∈ u_ws RX5 TX5 4, w ∈ vsX3_sortEdges := fun w h => List.mem_cons_of_mem _ (List.mem_append_right _ (List.mem_append_left _ h))
theorem qX3_sortEdges_X3 : ∀ w ∈ u_ws RX3 TX3 3, w ∈ vsX3_sortEdges := fun w h => List.mem_cons_of_mem _ (List.mem_append_right _ (List.mem_append_right _ (List.mem_append_left _ h)))
theorem gd_vsX3_sortEdges : ∀ w ∈ vsX3_sortEdges, goodWord w = true := dk_cons rfl (dk_app (dk_all (by decide +kernel)) (dk_app gd_wsX50 (dk_app gd_wsX30 (dk_app gd_vsX3_isEarlier dk_nil))))
theorem gvX3_sortEdges_X3_isEarlier : GoodIn vsX3_sortEdges (va_wsS RX3 46 yX3_isEarlier vsX3_isEarlier) := goodIn_app (dk_g3 qX3_sortEdges_w2 qX3_sortEdges_w3 qX3_sortEdges_w4 rfl) (dk_gIn (fun w h => List.mem_cons_of_mem _ (List.mem_append_right _ (List.mem_append_right _ (List.mem_append_right _ (List.mem_append_left _ h))))) gd_vsX3_isEarlier)
def bX3_sortEdges_14 (S_left S_low S_side : Nat → Int32) (S_howMany x2 : Int32) (st : Int32 × (Nat → Int32)) : Option ((Int32 × (Nat → Int32)) ⊕ (Int32 × (Nat → Int32))) := if st.1 ≤ 0 then some (.inl (st.1, st.2)) else dk_gd (dk_in (st.1 - 1) 42) (dk_bnd (fX3_isEarlier S_left S_low S_side x2 (st.2 (st.1 - 1).toNatClampNeg)) (fun r_6 => if r_6 = 0 then some (.inl (st.1, st.2)) else dk_gd (dk_in st.1 42) (dk_let (upd st.2 st.1.toNatClampNeg (st.2 (st.1 - 1).toNatClampNeg)) (fun L_order_9 => dk_let (st.1 + (-1)) (fun x3_10 => some (.inr (x3_10, L_order_9)))))))
def jX3_sortEdges_54 (L_order S_left S_low S_side : Nat → Int32) (S_howMany x2 x3 : Int32) : Option (((Nat → Int32)) ⊕ (Int32 × (Nat → Int32))) := dk_gd (dk_in x3 42) (dk_let (upd L_order x3.toNatClampNeg x2) (fun L_order_12 => dk_let (x2 + 1) (fun x2_13 => some (.inr (x2_13, L_order_12)))))
def bX3_sortEdges_2 (S_left S_low S_side : Nat → Int32) (S_howMany : Int32) (st : Int32 × (Nat → Int32)) : Option (((Nat → Int32)) ⊕ (Int32 × (Nat → Int32))) := if (2 * S_howMany) ≤ st.1 then some (.inl st.2) else dk_bnd (dk_loop (bX3_sortEdges_14 S_left S_low S_side S_howMany st.1) 1000 (st.1, st.2)) (fun r_3 => jX3_sortEdges_54 r_3.2 S_left S_low S_side S_howMany st.1 r_3.1)
def fX3_sortEdges (L_order S_left S_low S_side : Nat → Int32) (S_howMany : Int32) : Option ((Nat → Int32)) := dk_bnd (dk_loop (bX3_sortEdges_2 S_left S_low S_side S_howMany) 1000 (0, L_order)) (fun r_1 => some r_1)
section
variable {p : Program} {l : Launch} {e : Env} {s : State} {m : MethodId} {args : Array Value} {below : List Frame} {meth : Method} {c : Code} {dC : Nat → ClassId} {dI : Nat → Nat → Nat} {cI cJ cZ : ClassId} {A : Nat → Prop} {oL : Nat} {aL : Nat → Nat} {oS : Nat} {aS : Nat → Nat} {L_order L_lineOf : Nat → Int32} {L_howMany : Int32} {S_left S_low S_side : Nat → Int32} {S_howMany : Int32}
set_option maxHeartbeats 4000000 in
set_option maxRecDepth 100000 in
theorem tX3_sortEdges_14 (C : dk_C p s m meth c args cX3_sortEdges none 4 RX3 vsX3_sortEdges) (hK : va_K (dC, dI) vwCl (dk_ty cI cJ cZ) s) (hA : ∀ q : Nat, s.heap.size ≤ q → A q) {out : (Nat → Int32)} {x2 : Int32} {st : Int32 × (Nat → Int32)} {y : (Int32 × (Nat → Int32)) ⊕ (Int32 × (Nat → Int32))} (h : bX3_sortEdges_14 S_left S_low S_side S_howMany x2 st = some y) (hE : ∀ z : Int32 × (Nat → Int32), y = .inl z → ∀ (H : Heap) (locs : List Loc), va_P (dC, dI) vwCl (wX3 oL aL cI cJ cZ z.2 L_lineOf L_howMany ++ (wX5 oS aS cI cJ cZ S_left S_low S_side S_howMany)) H → va_D A (wX3 oL aL cI cJ cZ z.2 L_lineOf L_howMany ++ (wX5 oS aS cI cJ cZ S_left S_low S_side S_howMany)) → va_S A s.heap H locs → ∀ ls : Array Slot, lv_has ls 4 [(0, .ref oL), (1, .ref oS), (2, .int x2), (3, .int z.1)] → W p l e rX3_sortEdges s m args below meth c H locs 0 0 (MQ below (dk_Qv (dC, dI) (dk_ty cI cJ cZ) (wX3 oL aL cI cJ cZ out L_lineOf L_howMany ++ (wX5 oS aS cI cJ cZ S_left S_low S_side S_howMany)) A) args s 0 0 A) (F0 m 54 ls [])) (hC : ∀ z : Int32 × (Nat → Int32), y = .inr z → ∀ (H : Heap) (locs : List Loc), va_P (dC, dI) vwCl (wX3 oL aL cI cJ cZ z.2 L_lineOf L_howMany ++ (wX5 oS aS cI cJ cZ S_left S_low S_side S_howMany)) H → va_D A (wX3 oL aL cI cJ cZ z.2 L_lineOf L_howMany ++ (wX5 oS aS cI cJ cZ S_left S_low S_side S_howMany)) → va_S A s.heap H locs → ∀ ls : Array Slot, lv_has ls 4 [(0, .ref oL), (1, .ref oS), (2, .int x2), (3, .int z.1)] → W p l e rX3_sortEdges s m args below meth c H locs 0 0 (MQ below (dk_Qv (dC, dI) (dk_ty cI cJ cZ) (wX3 oL aL cI cJ cZ out L_lineOf L_howMany ++ (wX5 oS aS cI cJ cZ S_left S_low S_side S_howMany)) A) args s 0 0 A) (F0 m 14 ls [])) : ∀ (H : Heap) (locs : List Loc), va_P (dC, dI) vwCl (wX3 oL aL cI cJ cZ st.2 L_lineOf L_howMany ++ (wX5 oS aS cI cJ cZ S_left S_low S_side S_howMany)) H → va_D A (wX3 oL aL cI cJ cZ st.2 L_lineOf L_howMany ++ (wX5 oS aS cI cJ cZ S_left S_low S_side S_howMany)) → va_S A s.heap H locs → ∀ ls : Array Slot, lv_has ls 4 [(0, .ref oL), (1, .ref oS), (2, .int x2), (3, .int st.1)] → W p l e rX3_sortEdges s m args below meth c H locs 0 0 (MQ below (dk_Qv (dC, dI) (dk_ty cI cJ cZ) (wX3 oL aL cI cJ cZ out L_lineOf L_howMany ++ (wX5 oS aS cI cJ cZ S_left S_low S_side S_howMany)) A) args s 0 0 A) (F0 m 14 ls []) := by
  obtain ⟨hx, hb, hr, hml, hown, hts, hlocks⟩ := id C
  intro H locs hP hD hS ls hl
  unfold bX3_sortEdges_14 at h
  refine lv_iload_n hx hb dX3_sortEdges_14 rfl (lv_at hl 3 rfl) ?_
  refine lv_if_le (tgt := 54) hx hb dX3_sortEdges_15 (by decide) (fun c_4 => ?_) (fun c_4 => ?_)
  · replace h := dk_it c_4 h
    exact hE _ (Option.some.inj h).symm _ _ hP hD hS ls (lv_sub hl [0, 1, 2, 3] rfl)
  · replace h := dk_ie c_4 h
    refine lv_aload_n hx hb dX3_sortEdges_18 rfl (lv_at hl 1 rfl) ?_
    refine lv_iload_n hx hb dX3_sortEdges_19 rfl (lv_at hl 2 rfl) ?_
    refine lv_aload_n hx hb dX3_sortEdges_20 rfl (lv_at hl 0 rfl) ?_
    refine va_get (D := (dC, dI)) (ci := 3) (v := .ref (aL 0)) (C := RX3) (T := TX3) (N := 3) hx hb hts qX3_sortEdges_X3 hown hK hP 0 rfl rfl 0 (by decide) (hts _ qX3_sortEdges_f9) (fun _ h9 => h9) rfl dX3_sortEdges_21 ?_
    refine lv_iload_n hx hb dX3_sortEdges_24 rfl (lv_at hl 3 rfl) ?_
    refine lv_iconst (v := 1) hx hb dX3_sortEdges_25 (by decide) ?_
    refine lv_isub hx hb dX3_sortEdges_26 ?_
    obtain ⟨g_5, h⟩ := dk_gd_to h
    have g_5 := dk_in_to g_5
    refine va_iald hx hb hK hP 1 0 rfl rfl g_5 dX3_sortEdges_27 ?_
    obtain ⟨r_6, hcr_6, h⟩ := dk_bnd_to h
    refine dk_rSi (As := [.ref oS, .int x2, .int (st.2 (st.1 - 1).toNatClampNeg)]) (rest := []) (wc := (wX5 oS aS cI cJ cZ S_left S_low S_side S_howMany)) C hK hP hD hS hA (mX3_isEarlier l dC dI cI cJ cZ hcr_6 _) (va_cwS 3 hts gvX3_sortEdges_X3_isEarlier rfl rfl rfl (by decide +kernel) ⟨Nat.le_of_ble_eq_true rfl, Nat.le_of_ble_eq_true rfl⟩) [3, 4, 5, 6] rfl (by decide) rfl hl.1 rfl (Nat.le_of_ble_eq_true rfl) ⟨Nat.le_of_ble_eq_true rfl, Nat.le_of_ble_eq_true rfl⟩ dX3_sortEdges_28 (fun H locs hP hD hS => ?_)
    refine lv_if_eq (tgt := 54) hx hb dX3_sortEdges_31 (by decide) (fun c_7 => ?_) (fun c_7 => ?_)
    · replace h := dk_it c_7 h
      exact hE _ (Option.some.inj h).symm _ _ hP hD hS ls (lv_sub hl [0, 1, 2, 3] rfl)
    · replace h := dk_ie c_7 h
      refine lv_aload_n hx hb dX3_sortEdges_34 rfl (lv_at hl 0 rfl) ?_
      refine va_get (D := (dC, dI)) (ci := 3) (v := .ref (aL 0)) (C := RX3) (T := TX3) (N := 3) hx hb hts qX3_sortEdges_X3 hown hK hP 0 rfl rfl 0 (by decide) (hts _ qX3_sortEdges_f9) (fun _ h9 => h9) rfl dX3_sortEdges_35 ?_
      refine lv_iload_n hx hb dX3_sortEdges_38 rfl (lv_at hl 3 rfl) ?_
      refine lv_aload_n hx hb dX3_sortEdges_39 rfl (lv_at hl 0 rfl) ?_
      refine va_get (D := (dC, dI)) (ci := 3) (v := .ref (aL 0)) (C := RX3) (T := TX3) (N := 3) hx hb hts qX3_sortEdges_X3 hown hK hP 0 rfl rfl 0 (by decide) (hts _ qX3_sortEdges_f9) (fun _ h9 => h9) rfl dX3_sortEdges_40 ?_
      refine lv_iload_n hx hb dX3_sortEdges_43 rfl (lv_at hl 3 rfl) ?_
      refine lv_iconst (v := 1) hx hb dX3_sortEdges_44 (by decide) ?_
      refine lv_isub hx hb dX3_sortEdges_45 ?_
      refine va_iald hx hb hK hP 1 0 rfl rfl g_5 dX3_sortEdges_46 ?_
      obtain ⟨g_8, h⟩ := dk_gd_to h
      have g_8 := dk_in_to g_8
      refine va_iast hx hb hK hP hD hS 1 0 rfl rfl g_8 dX3_sortEdges_47 (fun H locs hP hD hS => ?_)
      obtain ⟨L_order_9, eL_order_9⟩ : ∃ z : Nat → Int32, z = upd st.2 st.1.toNatClampNeg (st.2 (st.1 - 1).toNatClampNeg) := ⟨_, rfl⟩
      replace h := dk_let_to eL_order_9 h
      have hP : va_P (dC, dI) vwCl (wX3 oL aL cI cJ cZ L_order_9 L_lineOf L_howMany ++ (wX5 oS aS cI cJ cZ S_left S_low S_side S_howMany)) H := by rw [eL_order_9]; exact hP
      have hD : va_D A (wX3 oL aL cI cJ cZ L_order_9 L_lineOf L_howMany ++ (wX5 oS aS cI cJ cZ S_left S_low S_side S_howMany)) := by rw [eL_order_9]; exact hD
      obtain ⟨x3_10, ex3_10⟩ : ∃ z : Int32, z = st.1 + (-1) := ⟨_, rfl⟩
      replace h := dk_let_to ex3_10 h
      refine lv_iinc (v := x3_10) (lv' := [(3, .int x3_10), (0, .ref oL), (1, .ref oS), (2, .int x2)]) hx hb dX3_sortEdges_48 hl (k := 3) rfl (by rw [ex3_10]; rfl) (by decide) rfl (fun ls hl => ?_)
      refine lv_goto (tgt := 14) hx hb dX3_sortEdges_51 (by decide) ?_
      exact hC _ (Option.some.inj h).symm _ _ hP hD hS ls (lv_sub hl [1, 2, 3, 0] rfl)
set_option maxHeartbeats 4000000 in
set_option maxRecDepth 100000 in
theorem lX3_sortEdges_14 (C : dk_C p s m meth c args cX3_sortEdges none 4 RX3 vsX3_sortEdges) (hK : va_K (dC, dI) vwCl (dk_ty cI cJ cZ) s) (hA : ∀ q : Nat, s.heap.size ≤ q → A q) {out : (Nat → Int32)} {x2 : Int32} {n : Nat} {st : Int32 × (Nat → Int32)} {r : Int32 × (Nat → Int32)} (h : dk_loop (bX3_sortEdges_14 S_left S_low S_side S_howMany x2) n st = some r) (hE : ∀ (H : Heap) (locs : List Loc), va_P (dC, dI) vwCl (wX3 oL aL cI cJ cZ r.2 L_lineOf L_howMany ++ (wX5 oS aS cI cJ cZ S_left S_low S_side S_howMany)) H → va_D A (wX3 oL aL cI cJ cZ r.2 L_lineOf L_howMany ++ (wX5 oS aS cI cJ cZ S_left S_low S_side S_howMany)) → va_S A s.heap H locs → ∀ ls : Array Slot, lv_has ls 4 [(0, .ref oL), (1, .ref oS), (2, .int x2), (3, .int r.1)] → W p l e rX3_sortEdges s m args below meth c H locs 0 0 (MQ below (dk_Qv (dC, dI) (dk_ty cI cJ cZ) (wX3 oL aL cI cJ cZ out L_lineOf L_howMany ++ (wX5 oS aS cI cJ cZ S_left S_low S_side S_howMany)) A) args s 0 0 A) (F0 m 54 ls [])) : ∀ (H : Heap) (locs : List Loc), va_P (dC, dI) vwCl (wX3 oL aL cI cJ cZ st.2 L_lineOf L_howMany ++ (wX5 oS aS cI cJ cZ S_left S_low S_side S_howMany)) H → va_D A (wX3 oL aL cI cJ cZ st.2 L_lineOf L_howMany ++ (wX5 oS aS cI cJ cZ S_left S_low S_side S_howMany)) → va_S A s.heap H locs → ∀ ls : Array Slot, lv_has ls 4 [(0, .ref oL), (1, .ref oS), (2, .int x2), (3, .int st.1)] → W p l e rX3_sortEdges s m args below meth c H locs 0 0 (MQ below (dk_Qv (dC, dI) (dk_ty cI cJ cZ) (wX3 oL aL cI cJ cZ out L_lineOf L_howMany ++ (wX5 oS aS cI cJ cZ S_left S_low S_side S_howMany)) A) args s 0 0 A) (F0 m 14 ls []) :=
  dk_loopW (P := fun st => ∀ (H : Heap) (locs : List Loc), va_P (dC, dI) vwCl (wX3 oL aL cI cJ cZ st.2 L_lineOf L_howMany ++ (wX5 oS aS cI cJ cZ S_left S_low S_side S_howMany)) H → va_D A (wX3 oL aL cI cJ cZ st.2 L_lineOf L_howMany ++ (wX5 oS aS cI cJ cZ S_left S_low S_side S_howMany)) → va_S A s.heap H locs → ∀ ls : Array Slot, lv_has ls 4 [(0, .ref oL), (1, .ref oS), (2, .int x2), (3, .int st.1)] → W p l e rX3_sortEdges s m args below meth c H locs 0 0 (MQ below (dk_Qv (dC, dI) (dk_ty cI cJ cZ) (wX3 oL aL cI cJ cZ out L_lineOf L_howMany ++ (wX5 oS aS cI cJ cZ S_left S_low S_side S_howMany)) A) args s 0 0 A) (F0 m 14 ls [])) (K := fun r => ∀ (H : Heap) (locs : List Loc), va_P (dC, dI) vwCl (wX3 oL aL cI cJ cZ r.2 L_lineOf L_howMany ++ (wX5 oS aS cI cJ cZ S_left S_low S_side S_howMany)) H → va_D A (wX3 oL aL cI cJ cZ r.2 L_lineOf L_howMany ++ (wX5 oS aS cI cJ cZ S_left S_low S_side S_howMany)) → va_S A s.heap H locs → ∀ ls : Array Slot, lv_has ls 4 [(0, .ref oL), (1, .ref oS), (2, .int x2), (3, .int r.1)] → W p l e rX3_sortEdges s m args below meth c H locs 0 0 (MQ below (dk_Qv (dC, dI) (dk_ty cI cJ cZ) (wX3 oL aL cI cJ cZ out L_lineOf L_howMany ++ (wX5 oS aS cI cJ cZ S_left S_low S_side S_howMany)) A) args s 0 0 A) (F0 m 54 ls [])) (fun st y hy k1 k2 => tX3_sortEdges_14 C hK hA hy k1 k2) n st r h hE
set_option maxHeartbeats 4000000 in
set_option maxRecDepth 100000 in
theorem kX3_sortEdges_54 (C : dk_C p s m meth c args cX3_sortEdges none 4 RX3 vsX3_sortEdges) (hK : va_K (dC, dI) vwCl (dk_ty cI cJ cZ) s) (hA : ∀ q : Nat, s.heap.size ≤ q → A q) {out : (Nat → Int32)} {x2 x3 : Int32} {y : ((Nat → Int32)) ⊕ (Int32 × (Nat → Int32))} (h : jX3_sortEdges_54 L_order S_left S_low S_side S_howMany x2 x3 = some y) (hE : ∀ z : (Nat → Int32), y = .inl z → ∀ (H : Heap) (locs : List Loc), va_P (dC, dI) vwCl (wX3 oL aL cI cJ cZ z L_lineOf L_howMany ++ (wX5 oS aS cI cJ cZ S_left S_low S_side S_howMany)) H → va_D A (wX3 oL aL cI cJ cZ z L_lineOf L_howMany ++ (wX5 oS aS cI cJ cZ S_left S_low S_side S_howMany)) → va_S A s.heap H locs → ∀ ls : Array Slot, lv_has ls 4 [(0, .ref oL), (1, .ref oS)] → W p l e rX3_sortEdges s m args below meth c H locs 0 0 (MQ below (dk_Qv (dC, dI) (dk_ty cI cJ cZ) (wX3 oL aL cI cJ cZ out L_lineOf L_howMany ++ (wX5 oS aS cI cJ cZ S_left S_low S_side S_howMany)) A) args s 0 0 A) (F0 m 67 ls [])) (hC : ∀ z : Int32 × (Nat → Int32), y = .inr z → ∀ (H : Heap) (locs : List Loc), va_P (dC, dI) vwCl (wX3 oL aL cI cJ cZ z.2 L_lineOf L_howMany ++ (wX5 oS aS cI cJ cZ S_left S_low S_side S_howMany)) H → va_D A (wX3 oL aL cI cJ cZ z.2 L_lineOf L_howMany ++ (wX5 oS aS cI cJ cZ S_left S_low S_side S_howMany)) → va_S A s.heap H locs → ∀ ls : Array Slot, lv_has ls 4 [(0, .ref oL), (1, .ref oS), (2, .int z.1)] → W p l e rX3_sortEdges s m args below meth c H locs 0 0 (MQ below (dk_Qv (dC, dI) (dk_ty cI cJ cZ) (wX3 oL aL cI cJ cZ out L_lineOf L_howMany ++ (wX5 oS aS cI cJ cZ S_left S_low S_side S_howMany)) A) args s 0 0 A) (F0 m 2 ls [])) : ∀ (H : Heap) (locs : List Loc), va_P (dC, dI) vwCl (wX3 oL aL cI cJ cZ L_order L_lineOf L_howMany ++ (wX5 oS aS cI cJ cZ S_left S_low S_side S_howMany)) H → va_D A (wX3 oL aL cI cJ cZ L_order L_lineOf L_howMany ++ (wX5 oS aS cI cJ cZ S_left S_low S_side S_howMany)) → va_S A s.heap H locs → ∀ ls : Array Slot, lv_has ls 4 [(0, .ref oL), (1, .ref oS), (2, .int x2), (3, .int x3)] → W p l e rX3_sortEdges s m args below meth c H locs 0 0 (MQ below (dk_Qv (dC, dI) (dk_ty cI cJ cZ) (wX3 oL aL cI cJ cZ out L_lineOf L_howMany ++ (wX5 oS aS cI cJ cZ S_left S_low S_side S_howMany)) A) args s 0 0 A) (F0 m 54 ls []) := by
  obtain ⟨hx, hb, hr, hml, hown, hts, hlocks⟩ := id C
  intro H locs hP hD hS ls hl
  unfold jX3_sortEdges_54 at h
  refine lv_aload_n hx hb dX3_sortEdges_54 rfl (lv_at hl 0 rfl) ?_
  refine va_get (D := (dC, dI)) (ci := 3) (v := .ref (aL 0)) (C := RX3) (T := TX3) (N := 3) hx hb hts qX3_sortEdges_X3 hown hK hP 0 rfl rfl 0 (by decide) (hts _ qX3_sortEdges_f9) (fun _ h9 => h9) rfl dX3_sortEdges_55 ?_
  refine lv_iload_n hx hb dX3_sortEdges_58 rfl (lv_at hl 3 rfl) ?_
  refine lv_iload_n hx hb dX3_sortEdges_59 rfl (lv_at hl 2 rfl) ?_
  obtain ⟨g_11, h⟩ := dk_gd_to h
  have g_11 := dk_in_to g_11
  refine va_iast hx hb hK hP hD hS 1 0 rfl rfl g_11 dX3_sortEdges_60 (fun H locs hP hD hS => ?_)
  obtain ⟨L_order_12, eL_order_12⟩ : ∃ z : Nat → Int32, z = upd L_order x3.toNatClampNeg x2 := ⟨_, rfl⟩
  replace h := dk_let_to eL_order_12 h
  have hP : va_P (dC, dI) vwCl (wX3 oL aL cI cJ cZ L_order_12 L_lineOf L_howMany ++ (wX5 oS aS cI cJ cZ S_left S_low S_side S_howMany)) H := by rw [eL_order_12]; exact hP
  have hD : va_D A (wX3 oL aL cI cJ cZ L_order_12 L_lineOf L_howMany ++ (wX5 oS aS cI cJ cZ S_left S_low S_side S_howMany)) := by rw [eL_order_12]; exact hD
  obtain ⟨x2_13, ex2_13⟩ : ∃ z : Int32, z = x2 + 1 := ⟨_, rfl⟩
  replace h := dk_let_to ex2_13 h
  refine lv_iinc (v := x2_13) (lv' := [(2, .int x2_13), (0, .ref oL), (1, .ref oS), (3, .int x3)]) hx hb dX3_sortEdges_61 hl (k := 2) rfl (by rw [ex2_13]; rfl) (by decide) rfl (fun ls hl => ?_)
  refine lv_goto (tgt := 2) hx hb dX3_sortEdges_64 (by decide) ?_
  exact hC _ (Option.some.inj h).symm _ _ hP hD hS ls (lv_sub hl [1, 2, 0] rfl)
set_option maxHeartbeats 4000000 in
set_option maxRecDepth 100000 in
theorem tX3_sortEdges_2 (C : dk_C p s m meth c args cX3_sortEdges none 4 RX3 vsX3_sortEdges) (hK : va_K (dC, dI) vwCl (dk_ty cI cJ cZ) s) (hA : ∀ q : Nat, s.heap.size ≤ q → A q) {out : (Nat → Int32)} {st : Int32 × (Nat → Int32)} {y : ((Nat → Int32)) ⊕ (Int32 × (Nat → Int32))} (h : bX3_sortEdges_2 S_left S_low S_side S_howMany st = some y) (hE : ∀ z : (Nat → Int32), y = .inl z → ∀ (H : Heap) (locs : List Loc), va_P (dC, dI) vwCl (wX3 oL aL cI cJ cZ z L_lineOf L_howMany ++ (wX5 oS aS cI cJ cZ S_left S_low S_side S_howMany)) H → va_D A (wX3 oL aL cI cJ cZ z L_lineOf L_howMany ++ (wX5 oS aS cI cJ cZ S_left S_low S_side S_howMany)) → va_S A s.heap H locs → ∀ ls : Array Slot, lv_has ls 4 [(0, .ref oL), (1, .ref oS)] → W p l e rX3_sortEdges s m args below meth c H locs 0 0 (MQ below (dk_Qv (dC, dI) (dk_ty cI cJ cZ) (wX3 oL aL cI cJ cZ out L_lineOf L_howMany ++ (wX5 oS aS cI cJ cZ S_left S_low S_side S_howMany)) A) args s 0 0 A) (F0 m 67 ls [])) (hC : ∀ z : Int32 × (Nat → Int32), y = .inr z → ∀ (H : Heap) (locs : List Loc), va_P (dC, dI) vwCl (wX3 oL aL cI cJ cZ z.2 L_lineOf L_howMany ++ (wX5 oS aS cI cJ cZ S_left S_low S_side S_howMany)) H → va_D A (wX3 oL aL cI cJ cZ z.2 L_lineOf L_howMany ++ (wX5 oS aS cI cJ cZ S_left S_low S_side S_howMany)) → va_S A s.heap H locs → ∀ ls : Array Slot, lv_has ls 4 [(0, .ref oL), (1, .ref oS), (2, .int z.1)] → W p l e rX3_sortEdges s m args below meth c H locs 0 0 (MQ below (dk_Qv (dC, dI) (dk_ty cI cJ cZ) (wX3 oL aL cI cJ cZ out L_lineOf L_howMany ++ (wX5 oS aS cI cJ cZ S_left S_low S_side S_howMany)) A) args s 0 0 A) (F0 m 2 ls [])) : ∀ (H : Heap) (locs : List Loc), va_P (dC, dI) vwCl (wX3 oL aL cI cJ cZ st.2 L_lineOf L_howMany ++ (wX5 oS aS cI cJ cZ S_left S_low S_side S_howMany)) H → va_D A (wX3 oL aL cI cJ cZ st.2 L_lineOf L_howMany ++ (wX5 oS aS cI cJ cZ S_left S_low S_side S_howMany)) → va_S A s.heap H locs → ∀ ls : Array Slot, lv_has ls 4 [(0, .ref oL), (1, .ref oS), (2, .int st.1)] → W p l e rX3_sortEdges s m args below meth c H locs 0 0 (MQ below (dk_Qv (dC, dI) (dk_ty cI cJ cZ) (wX3 oL aL cI cJ cZ out L_lineOf L_howMany ++ (wX5 oS aS cI cJ cZ S_left S_low S_side S_howMany)) A) args s 0 0 A) (F0 m 2 ls []) := by
  obtain ⟨hx, hb, hr, hml, hown, hts, hlocks⟩ := id C
  intro H locs hP hD hS ls hl
  unfold bX3_sortEdges_2 at h
  refine lv_iload_n hx hb dX3_sortEdges_2 rfl (lv_at hl 2 rfl) ?_
  refine lv_iconst (v := 2) hx hb dX3_sortEdges_3 (by decide) ?_
  refine lv_aload_n hx hb dX3_sortEdges_4 rfl (lv_at hl 1 rfl) ?_
  refine va_get (D := (dC, dI)) (ci := 5) (v := .int S_howMany) (C := RX5) (T := TX5) (N := 4) hx hb hts qX3_sortEdges_X5 hown hK hP 3 rfl rfl 3 (by decide) (hts _ qX3_sortEdges_f26) (fun _ h9 => h9) rfl dX3_sortEdges_5 ?_
  refine lv_imul hx hb dX3_sortEdges_8 ?_
  refine lv_icmp_ge (tgt := 67) hx hb dX3_sortEdges_9 (by decide) (fun c_2 => ?_) (fun c_2 => ?_)
  · replace h := dk_it c_2 h
    exact hE _ (Option.some.inj h).symm _ _ hP hD hS ls (lv_sub hl [0, 1] rfl)
  · replace h := dk_ie c_2 h
    refine lv_iload_n hx hb dX3_sortEdges_12 rfl (lv_at hl 2 rfl) ?_
    refine lv_istore_n (lv' := [(3, .int st.1), (0, .ref oL), (1, .ref oS), (2, .int st.1)]) hx hb dX3_sortEdges_13 rfl hl (by decide) rfl (fun ls hl => ?_)
    obtain ⟨r_3, hLr_3, h⟩ := dk_bnd_to h
    refine lX3_sortEdges_14 C hK hA hLr_3 (fun H locs hP hD hS ls hl => ?_) _ _ hP hD hS ls (lv_sub hl [1, 2, 3, 0] rfl)
    exact kX3_sortEdges_54 C hK hA h hE hC _ _ hP hD hS ls (lv_sub hl [0, 1, 2, 3] rfl)
set_option maxHeartbeats 4000000 in
set_option maxRecDepth 100000 in
theorem lX3_sortEdges_2 (C : dk_C p s m meth c args cX3_sortEdges none 4 RX3 vsX3_sortEdges) (hK : va_K (dC, dI) vwCl (dk_ty cI cJ cZ) s) (hA : ∀ q : Nat, s.heap.size ≤ q → A q) {out : (Nat → Int32)} {n : Nat} {st : Int32 × (Nat → Int32)} {r : (Nat → Int32)} (h : dk_loop (bX3_sortEdges_2 S_left S_low S_side S_howMany) n st = some r) (hE : ∀ (H : Heap) (locs : List Loc), va_P (dC, dI) vwCl (wX3 oL aL cI cJ cZ r L_lineOf L_howMany ++ (wX5 oS aS cI cJ cZ S_left S_low S_side S_howMany)) H → va_D A (wX3 oL aL cI cJ cZ r L_lineOf L_howMany ++ (wX5 oS aS cI cJ cZ S_left S_low S_side S_howMany)) → va_S A s.heap H locs → ∀ ls : Array Slot, lv_has ls 4 [(0, .ref oL), (1, .ref oS)] → W p l e rX3_sortEdges s m args below meth c H locs 0 0 (MQ below (dk_Qv (dC, dI) (dk_ty cI cJ cZ) (wX3 oL aL cI cJ cZ out L_lineOf L_howMany ++ (wX5 oS aS cI cJ cZ S_left S_low S_side S_howMany)) A) args s 0 0 A) (F0 m 67 ls [])) : ∀ (H : Heap) (locs : List Loc), va_P (dC, dI) vwCl (wX3 oL aL cI cJ cZ st.2 L_lineOf L_howMany ++ (wX5 oS aS cI cJ cZ S_left S_low S_side S_howMany)) H → va_D A (wX3 oL aL cI cJ cZ st.2 L_lineOf L_howMany ++ (wX5 oS aS cI cJ cZ S_left S_low S_side S_howMany)) → va_S A s.heap H locs → ∀ ls : Array Slot, lv_has ls 4 [(0, .ref oL), (1, .ref oS), (2, .int st.1)] → W p l e rX3_sortEdges s m args below meth c H locs 0 0 (MQ below (dk_Qv (dC, dI) (dk_ty cI cJ cZ) (wX3 oL aL cI cJ cZ out L_lineOf L_howMany ++ (wX5 oS aS cI cJ cZ S_left S_low S_side S_howMany)) A) args s 0 0 A) (F0 m 2 ls []) :=
  dk_loopW (P := fun st => ∀ (H : Heap) (locs : List Loc), va_P (dC, dI) vwCl (wX3 oL aL cI cJ cZ st.2 L_lineOf L_howMany ++ (wX5 oS aS cI cJ cZ S_left S_low S_side S_howMany)) H → va_D A (wX3 oL aL cI cJ cZ st.2 L_lineOf L_howMany ++ (wX5 oS aS cI cJ cZ S_left S_low S_side S_howMany)) → va_S A s.heap H locs → ∀ ls : Array Slot, lv_has ls 4 [(0, .ref oL), (1, .ref oS), (2, .int st.1)] → W p l e rX3_sortEdges s m args below meth c H locs 0 0 (MQ below (dk_Qv (dC, dI) (dk_ty cI cJ cZ) (wX3 oL aL cI cJ cZ out L_lineOf L_howMany ++ (wX5 oS aS cI cJ cZ S_left S_low S_side S_howMany)) A) args s 0 0 A) (F0 m 2 ls [])) (K := fun r => ∀ (H : Heap) (locs : List Loc), va_P (dC, dI) vwCl (wX3 oL aL cI cJ cZ r L_lineOf L_howMany ++ (wX5 oS aS cI cJ cZ S_left S_low S_side S_howMany)) H → va_D A (wX3 oL aL cI cJ cZ r L_lineOf L_howMany ++ (wX5 oS aS cI cJ cZ S_left S_low S_side S_howMany)) → va_S A s.heap H locs → ∀ ls : Array Slot, lv_has ls 4 [(0, .ref oL), (1, .ref oS)] → W p l e rX3_sortEdges s m args below meth c H locs 0 0 (MQ below (dk_Qv (dC, dI) (dk_ty cI cJ cZ) (wX3 oL aL cI cJ cZ out L_lineOf L_howMany ++ (wX5 oS aS cI cJ cZ S_left S_low S_side S_howMany)) A) args s 0 0 A) (F0 m 67 ls [])) (fun st y hy k1 k2 => tX3_sortEdges_2 C hK hA hy k1 k2) n st r h hE
end
set_option maxHeartbeats 4000000 in
set_option maxRecDepth 100000 in
theorem mX3_sortEdges (l : Launch) (dC : Nat → ClassId) (dI : Nat → Nat → Nat) (cI cJ cZ : ClassId) {oL : Nat} {aL : Nat → Nat} {oS : Nat} {aS : Nat → Nat} {L_order L_lineOf : Nat → Int32} {L_howMany : Int32} {S_left S_low S_side : Nat → Int32} {S_howMany : Int32} {out : (Nat → Int32)} (h : fX3_sortEdges L_order S_left S_low S_side S_howMany = some out) (sz : Nat) : Met l yX3_sortEdges vsX3_sortEdges rX3_sortEdges (va_Pc [.ref oL, .ref oS] (dk_Pre (dC, dI) (dk_ty cI cJ cZ) (wX3 oL aL cI cJ cZ L_order L_lineOf L_howMany ++ (wX5 oS aS cI cJ cZ S_left S_low S_side S_howMany)) sz)) (dk_Qv (dC, dI) (dk_ty cI cJ cZ) (wX3 oL aL cI cJ cZ out L_lineOf L_howMany ++ (wX5 oS aS cI cJ cZ S_left S_low S_side S_howMany)) (va_A (wX3 oL aL cI cJ cZ L_order L_lineOf L_howMany ++ (wX5 oS aS cI cJ cZ S_left S_low S_side S_howMany)) sz)) 0 0 (va_A (wX3 oL aL cI cJ cZ L_order L_lineOf L_howMany ++ (wX5 oS aS cI cJ cZ S_left S_low S_side S_howMany)) sz) := by
  refine dk_met (cc := cX3_sortEdges) (maxL := 4) (ret := none) (Qc := fun A => dk_Qv (dC, dI) (dk_ty cI cJ cZ) (wX3 oL aL cI cJ cZ out L_lineOf L_howMany ++ (wX5 oS aS cI cJ cZ S_left S_low S_side S_howMany)) A) (by decide) rfl (Nat.le_of_ble_eq_true rfl) ?_
  intro p e s m below meth c A C hnm hA hK hP hD hS ls hl
  have C : dk_C p s m meth c _ cX3_sortEdges none 4 RX3 vsX3_sortEdges := C
  obtain ⟨hx, hb, hr, hml, hown, hts, hlocks⟩ := id C
  have hl : lv_has ls 4 [(0, .ref oL), (1, .ref oS)] := hl
  unfold fX3_sortEdges at h
  refine lv_iconst (v := 0) hx hb dX3_sortEdges_0 (by decide) ?_
  refine lv_istore_n (lv' := [(2, .int 0), (0, .ref oL), (1, .ref oS)]) hx hb dX3_sortEdges_1 rfl hl (by decide) rfl (fun ls hl => ?_)
  obtain ⟨r_1, hLr_1, h⟩ := dk_bnd_to h
  refine lX3_sortEdges_2 C hK hA hLr_1 (fun H locs hP hD hS ls hl => ?_) _ _ hP hD hS ls (lv_sub hl [1, 2, 0] rfl)
  have e9 := Option.some.inj h
  subst e9
  exact dk_vret C hK hP hD hS dX3_sortEdges_67
/-! ===== SquareTiler$Lines.find ===== -/
abbrev rX3_find : Room := { frames := 4, cells := 0, slots := 0, locals := 89 }
def ovX3_find : List Cond := [Cond.fieldLink RX3 18 "SquareTiler$Lines" "howMany" "I", Cond.fieldLink RX3 26 "SquareTiler$Squares" "howMany" "I", Cond.fieldLink RX3 9 "SquareTiler$Lines" "order" "[I", Cond.fieldLink RX3 33 "SquareTiler$Squares" "left" "[I", Cond.methodLink RX3 40 Lib.Math.max.name, Cond.static Lib.Math.max.name, Cond.initialized "java/lang/Math", Cond.code Lib.Math.max.name Lib.Math.max.code 2 (some .int), Cond.fieldLink RX3 15 "SquareTiler$Lines" "lineOf" "[I", Cond.methodLink RX3 22 yX3_sortEdges, Cond.instanceMethod yX3_sortEdges, Cond.selects RX3 yX3_sortEdges yX3_sortEdges, Cond.initialized RX3, Cond.methodLink RX3 29 yX3_levelOf, Cond.static yX3_levelOf, Cond.methodLink RX3 36 yX5_right, Cond.instanceMethod yX5_right, Cond.selects RX5 yX5_right yX5_right, Cond.initialized RX5]
def vsX3_find : List Cond := .code yX3_find cX3_find 7 none :: (ovX3_find ++ (wsX30 ++ (wsX50 ++ (vsX3_sortEdges ++ (vsX3_levelOf ++ (vsX5_right ++ []))))))
theorem qX3_find_f18 : Cond.fieldLink RX3 18 "SquareTiler$Lines" "howMany" "I" ∈ vsX3_find := List.mem_cons_of_mem _ (List.mem_append_left _ (List.mem_of_getElem? (i := 0) rfl))
theorem qX3_find_f26 : Cond.fieldLink RX3 26 "SquareTiler$Squares" "howMany" "I" ∈ vsX3_find := List.mem_cons_of_mem _ (List.mem_append_left _ (List.mem_of_getElem? (i := 1) rfl))
theorem qX3_find_f9 : Cond.fieldLink RX3 9 "SquareTiler$Lines" "order" "[I" ∈ vsX3_find := List.mem_cons_of_mem _ (List.mem_append_left _ (List.mem_of_getElem? (i := 2) rfl))
theorem qX3_find_f33 : Cond.fieldLink RX3 33 "SquareTiler$Squares" "left" "[I" ∈ vsX3_find := List.mem_cons_of_mem _ (List.mem_append_left _ (List.mem_of_getElem? (i := 3) rfl))
theorem qX3_find_max1 : Cond.methodLink RX3 40 Lib.Math.max.name ∈ vsX3_find := List.mem_cons_of_mem _ (List.mem_append_left _ (List.mem_of_getElem? (i := 4) rfl))
theorem qX3_find_max2 : Cond.static Lib.Math.max.name ∈ vsX3_find := List.mem_cons_of_mem _ (List.mem_append_left _ (List.mem_of_getElem? (i := 5) rfl))
theorem qX3_find_math : Cond.initialized "java/lang/Math" ∈ vsX3_find := List.mem_cons_of_mem _ (List.mem_append_left _ (List.mem_of_getElem? (i := 6) rfl))
theorem qX3_find_max4 : Cond.code Lib.Math.max.name Lib.Math.max.code 2 (some .int) ∈ vsX3_find := List.mem_cons_of_mem _ (List.mem_append_left _ (List.mem_of_getElem? (i := 7) rfl))
theorem qX3_find_f15 : Cond.fieldLink RX3 15 "SquareTiler$Lines" "lineOf" "[I" ∈ vsX3_find := List.mem_cons_of_mem _ (List.mem_append_left _ (List.mem_of_getElem? (i := 8) rfl))
theorem qX3_find_w9 : Cond.methodLink RX3 22 yX3_sortEdges ∈ vsX3_find := List.mem_cons_of_mem _ (List.mem_append_left _ (List.mem_of_getElem? (i := 9) rfl))
theorem qX3_find_w10 : Cond.instanceMethod yX3_sortEdges ∈ vsX3_find := List.mem_cons_of_mem _ (List.mem_append_left _ (List.mem_of_getElem? (i := 10) rfl))
theorem qX3_find_w11 : Cond.selects RX3 yX3_sortEdges yX3_sortEdges ∈ vsX3_find := List.mem_cons_of_mem _ (List.mem_append_left _ (List.mem_of_getElem? (i := 11) rfl))
theorem qX3_find_w12 : Cond.initialized RX3 ∈ vsX3_find := List.mem_cons_of_mem _ (List.mem_append_left _ (List.mem_of_getElem? (i := 12) rfl))
theorem qX3_find_w13 : Cond.methodLink RX3 29 yX3_levelOf ∈ vsX3_find := List.mem_cons_of_mem _ (List.mem_append_left _ (List.mem_of_getElem? (i := 13) rfl))
theorem qX3_find_w14 : Cond.static yX3_levelOf ∈ vsX3_find := List.mem_cons_of_mem _ (List.mem_append_left _ (List.mem_of_getElem? (i := 14) rfl))
theorem qX3_find_w15 : Cond.methodLink RX3 36 yX5_right ∈ vsX3_find := List.mem_cons_of_mem _ (List.mem_append_left _ (List.mem_of_getElem? (i := 15) rfl))
theorem qX3_find_w16 : Cond.instanceMethod yX5_right ∈ vsX3_find := List.mem_cons_of_mem _ (List.mem_append_left _ (List.mem_of_getElem? (i := 16) rfl))
theorem qX3_find_w17 : Cond.selects RX5 yX5_right yX5_right ∈ vsX3_find := List.mem_cons_of_mem _ (List.mem_append_left _ (List.mem_of_getElem? (i := 17) rfl))
theorem qX3_find_w18 : Cond.initialized RX5 ∈ vsX3_find := List.mem_cons_of_mem _ (List.mem_append_left _ (List.mem_of_getElem? (i := 18) rfl))
theorem qX3_find_X3 : ∀ w ∈ u_ws RX3 TX3 3, w ∈ vsX3_find := fun w h => List.mem_cons_of_mem _ (List.mem_append_right _ (List.mem_append_left _ h))
theorem qX3_find_X5 : ∀ w ∈ u_ws RX5 TX5 4, w ∈ vsX3_find := fun w h => List.mem_cons_of_mem _ (List.mem_append_right _ (List.mem_append_right _ (List.mem_append_left _ h)))
theorem gd_vsX3_find : ∀ w ∈ vsX3_find, goodWord w = true := dk_cons rfl (dk_app (dk_all (by decide +kernel)) (dk_app gd_wsX30 (dk_app gd_wsX50 (dk_app gd_vsX3_sortEdges (dk_app gd_vsX3_levelOf (dk_app gd_vsX5_right dk_nil))))))
theorem gvX3_find_X3_sortEdges : GoodIn vsX3_find (wsV RX3 22 RX3 yX3_sortEdges vsX3_sortEdges) := goodIn_app (dk_g4 qX3_find_w9 qX3_find_w10 qX3_find_w11 qX3_find_w12 rfl) (dk_gIn (fun w h => List.mem_cons_of_mem _ (List.mem_append_right _ (List.mem_append_right _ (List.mem_append_right _ (List.mem_append_left _ h))))) gd_vsX3_sortEdges)
theorem gvX3_find_X3_levelOf : GoodIn vsX3_find (va_wsS RX3 29 yX3_levelOf vsX3_levelOf) := goodIn_app (dk_g3 qX3_find_w13 qX3_find_w14 qX3_find_w12 rfl) (dk_gIn (fun w h => List.mem_cons_of_mem _ (List.mem_append_right _ (List.mem_append_right _ (List.mem_append_right _ (List.mem_append_right _ (List.mem_append_left _ h)))))) gd_vsX3_levelOf)
theorem gvX3_find_X5_right : GoodIn vsX3_find (wsV RX3 36 RX5 yX5_right vsX5_right) := goodIn_app (dk_g4 qX3_find_w15 qX3_find_w16 qX3_find_w17 qX3_find_w18 rfl) (dk_gIn (fun w h => List.mem_cons_of_mem _ (List.mem_append_right _ (List.mem_append_right _ (List.mem_append_right _ (List.mem_append_right _ (List.mem_append_right _ (List.mem_append_left _ h))))))) gd_vsX5_right)
def jX3_find_93 (L_order L_lineOf : Nat → Int32) (L_howMany : Int32) (S_left S_low S_side : Nat → Int32) (S_howMany x2 x3 x4 x5 x6 : Int32) : Option (((Nat → Int32) × Int32) ⊕ (Int32 × Int32 × Int32 × (Nat → Int32) × Int32)) := dk_bnd (fX5_right S_left S_side x6) (fun r_15 => dk_let ((if x3 < r_15 then r_15 else x3)) (fun x3_16 => dk_gd (dk_in x5 42) (dk_let (upd L_lineOf x5.toNatClampNeg (L_howMany - 1)) (fun L_lineOf_18 => dk_let (x4 + 1) (fun x4_19 => some (.inr (x2, x3_16, x4_19, L_lineOf_18, L_howMany)))))))
def jX3_find_69 (L_order L_lineOf : Nat → Int32) (L_howMany : Int32) (S_left S_low S_side : Nat → Int32) (S_howMany x4 x5 x6 : Int32) : Option (((Nat → Int32) × Int32) ⊕ (Int32 × Int32 × Int32 × (Nat → Int32) × Int32)) := dk_let ((L_howMany + 1)) (fun L_howMany_12 => dk_bnd (fX3_levelOf S_low S_side x5) (fun r_13 => dk_bnd (fX5_right S_left S_side x6) (fun r_14 => jX3_find_93 L_order L_lineOf L_howMany_12 S_left S_low S_side S_howMany r_13 r_14 x4 x5 x6)))
def bX3_find_17 (L_order S_left S_low S_side : Nat → Int32) (S_howMany : Int32) (st : Int32 × Int32 × Int32 × (Nat → Int32) × Int32) : Option (((Nat → Int32) × Int32) ⊕ (Int32 × Int32 × Int32 × (Nat → Int32) × Int32)) := if (2 * S_howMany) ≤ st.2.2.1 then some (.inl (st.2.2.2.1, st.2.2.2.2)) else dk_gd (dk_in st.2.2.1 42) (dk_let ((L_order st.2.2.1.toNatClampNeg)) (fun x5_5 => dk_let ((x5_5 >>> ((1 : Int32) &&& 31))) (fun x6_6 => if st.2.2.1 = 0 then jX3_find_69 L_order st.2.2.2.1 st.2.2.2.2 S_left S_low S_side S_howMany st.2.2.1 x5_5 x6_6 else dk_bnd (fX3_levelOf S_low S_side x5_5) (fun r_8 => if r_8 = st.1 then dk_gd (dk_in x6_6 21) (if (S_left x6_6.toNatClampNeg) ≤ st.2.1 then jX3_find_93 L_order st.2.2.2.1 st.2.2.2.2 S_left S_low S_side S_howMany st.1 st.2.1 st.2.2.1 x5_5 x6_6 else jX3_find_69 L_order st.2.2.2.1 st.2.2.2.2 S_left S_low S_side S_howMany st.2.2.1 x5_5 x6_6) else jX3_find_69 L_order st.2.2.2.1 st.2.2.2.2 S_left S_low S_side S_howMany st.2.2.1 x5_5 x6_6))))
def fX3_find (L_order L_lineOf : Nat → Int32) (L_howMany : Int32) (S_left S_low S_side : Nat → Int32) (S_howMany : Int32) : Option ((Nat → Int32) × (Nat → Int32) × Int32) := dk_bnd (fX3_sortEdges L_order S_left S_low S_side S_howMany) (fun r_1 => dk_bnd (dk_loop (bX3_find_17 r_1 S_left S_low S_side S_howMany) 1000 (0, 0, 0, L_lineOf, 0)) (fun r_2 => some (r_1, r_2.1, r_2.2)))
section
variable {p : Program} {l : Launch} {e : Env} {s : State} {m : MethodId} {args : Array Value} {below : List Frame} {meth : Method} {c : Code} {dC : Nat → ClassId} {dI : Nat → Nat → Nat} {cI cJ cZ : ClassId} {A : Nat → Prop} {oL : Nat} {aL : Nat → Nat} {oS : Nat} {aS : Nat → Nat} {L_order L_lineOf : Nat → Int32} {L_howMany : Int32} {S_left S_low S_side : Nat → Int32} {S_howMany : Int32}
set_option maxHeartbeats 4000000 in
set_option maxRecDepth 100000 in
theorem kX3_find_93 (C : dk_C p s m meth c args cX3_find none 7 RX3 vsX3_find) (hK : va_K (dC, dI) vwCl (dk_ty cI cJ cZ) s) (hA : ∀ q : Nat, s.heap.size ≤ q → A q) {out : (Nat → Int32) × (Nat → Int32) × Int32} {x2 x3 x4 x5 x6 : Int32} {y : ((Nat → Int32) × Int32) ⊕ (Int32 × Int32 × Int32 × (Nat → Int32) × Int32)} (h : jX3_find_93 L_order L_lineOf L_howMany S_left S_low S_side S_howMany x2 x3 x4 x5 x6 = some y) (hE : ∀ z : (Nat → Int32) × Int32, y = .inl z → ∀ (H : Heap) (locs : List Loc), va_P (dC, dI) vwCl (wX3 oL aL cI cJ cZ L_order z.1 z.2 ++ (wX5 oS aS cI cJ cZ S_left S_low S_side S_howMany)) H → va_D A (wX3 oL aL cI cJ cZ L_order z.1 z.2 ++ (wX5 oS aS cI cJ cZ S_left S_low S_side S_howMany)) → va_S A s.heap H locs → ∀ ls : Array Slot, lv_has ls 7 [(0, .ref oL), (1, .ref oS)] → W p l e rX3_find s m args below meth c H locs 0 0 (MQ below (dk_Qv (dC, dI) (dk_ty cI cJ cZ) (wX3 oL aL cI cJ cZ out.1 out.2.1 out.2.2 ++ (wX5 oS aS cI cJ cZ S_left S_low S_side S_howMany)) A) args s 0 0 A) (F0 m 123 ls [])) (hC : ∀ z : Int32 × Int32 × Int32 × (Nat → Int32) × Int32, y = .inr z → ∀ (H : Heap) (locs : List Loc), va_P (dC, dI) vwCl (wX3 oL aL cI cJ cZ L_order z.2.2.2.1 z.2.2.2.2 ++ (wX5 oS aS cI cJ cZ S_left S_low S_side S_howMany)) H → va_D A (wX3 oL aL cI cJ cZ L_order z.2.2.2.1 z.2.2.2.2 ++ (wX5 oS aS cI cJ cZ S_left S_low S_side S_howMany)) → va_S A s.heap H locs → ∀ ls : Array Slot, lv_has ls 7 [(0, .ref oL), (1, .ref oS), (2, .int z.1), (3, .int z.2.1), (4, .int z.2.2.1)] → W p l e rX3_find s m args below meth c H locs 0 0 (MQ below (dk_Qv (dC, dI) (dk_ty cI cJ cZ) (wX3 oL aL cI cJ cZ out.1 out.2.1 out.2.2 ++ (wX5 oS aS cI cJ cZ S_left S_low S_side S_howMany)) A) args s 0 0 A) (F0 m 17 ls [])) : ∀ (H : Heap) (locs : List Loc), va_P (dC, dI) vwCl (wX3 oL aL cI cJ cZ L_order L_lineOf L_howMany ++ (wX5 oS aS cI cJ cZ S_left S_low S_side S_howMany)) H → va_D A (wX3 oL aL cI cJ cZ L_order L_lineOf L_howMany ++ (wX5 oS aS cI cJ cZ S_left S_low S_side S_howMany)) → va_S A s.heap H locs → ∀ ls : Array Slot, lv_has ls 7 [(0, .ref oL), (1, .ref oS), (2, .int x2), (3, .int x3), (4, .int x4), (5, .int x5), (6, .int x6)] → W p l e rX3_find s m args below meth c H locs 0 0 (MQ below (dk_Qv (dC, dI) (dk_ty cI cJ cZ) (wX3 oL aL cI cJ cZ out.1 out.2.1 out.2.2 ++ (wX5 oS aS cI cJ cZ S_left S_low S_side S_howMany)) A) args s 0 0 A) (F0 m 93 ls []) := by
  obtain ⟨hx, hb, hr, hml, hown, hts, hlocks⟩ := id C
  intro H locs hP hD hS ls hl
  unfold jX3_find_93 at h
  refine lv_iload_n hx hb dX3_find_93 rfl (lv_at hl 3 rfl) ?_
  refine lv_aload_n hx hb dX3_find_94 rfl (lv_at hl 1 rfl) ?_
  refine lv_iload hx hb dX3_find_95 (lv_at hl 6 rfl) ?_
  obtain ⟨r_15, hcr_15, h⟩ := dk_bnd_to h
  refine dk_rVi (b := oS) (As := [.int x6]) (rest := [.int x3]) (wc := (wX5 oS aS cI cJ cZ S_left S_low S_side S_howMany)) C hK hP hD hS hA (mX5_right l dC dI cI cJ cZ hcr_15 _) (cwV 1 hts gvX3_find_X5_right rfl rfl rfl (by decide +kernel) ⟨Nat.le_of_ble_eq_true rfl, Nat.le_of_ble_eq_true rfl⟩) [3, 4, 5, 6] rfl (by decide) 0 5 rfl rfl rfl hl.1 rfl (Nat.le_of_ble_eq_true rfl) ⟨Nat.le_of_ble_eq_true rfl, Nat.le_of_ble_eq_true rfl⟩ dX3_find_97 (fun H locs hP hD hS => ?_)
  refine va_mmax hx hb (hml.trans hl.1.symm) hown (hts _ qX3_find_max1) (hts _ qX3_find_max2) (hts _ qX3_find_math) (hts _ qX3_find_max4) (Nat.le_of_ble_eq_true rfl) (Nat.le_of_ble_eq_true rfl) (Nat.le_of_ble_eq_true rfl) (Nat.le_of_ble_eq_true rfl) dX3_find_100 ?_
  refine lv_topi (fun x3_16 ex3_16 => ?_)
  replace h := dk_let_to ex3_16 h
  refine lv_istore_n (lv' := [(3, .int x3_16), (0, .ref oL), (1, .ref oS), (2, .int x2), (4, .int x4), (5, .int x5), (6, .int x6)]) hx hb dX3_find_103 rfl hl (by decide) rfl (fun ls hl => ?_)
  refine lv_aload_n hx hb dX3_find_104 rfl (lv_at hl 1 rfl) ?_
  refine va_get (D := (dC, dI)) (ci := 3) (v := .ref (aL 1)) (C := RX3) (T := TX3) (N := 3) hx hb hts qX3_find_X3 hown hK hP 0 rfl rfl 1 (by decide) (hts _ qX3_find_f15) (fun _ h9 => h9) rfl dX3_find_105 ?_
  refine lv_iload hx hb dX3_find_108 (lv_at hl 5 rfl) ?_
  refine lv_aload_n hx hb dX3_find_110 rfl (lv_at hl 1 rfl) ?_
  refine va_get (D := (dC, dI)) (ci := 3) (v := .int L_howMany) (C := RX3) (T := TX3) (N := 3) hx hb hts qX3_find_X3 hown hK hP 0 rfl rfl 2 (by decide) (hts _ qX3_find_f18) (fun _ h9 => h9) rfl dX3_find_111 ?_
  refine lv_iconst (v := 1) hx hb dX3_find_114 (by decide) ?_
  refine lv_isub hx hb dX3_find_115 ?_
  obtain ⟨g_17, h⟩ := dk_gd_to h
  have g_17 := dk_in_to g_17
  refine va_iast hx hb hK hP hD hS 2 0 rfl rfl g_17 dX3_find_116 (fun H locs hP hD hS => ?_)
  obtain ⟨L_lineOf_18, eL_lineOf_18⟩ : ∃ z : Nat → Int32, z = upd L_lineOf x5.toNatClampNeg (L_howMany - 1) := ⟨_, rfl⟩
  replace h := dk_let_to eL_lineOf_18 h
  have hP : va_P (dC, dI) vwCl (wX3 oL aL cI cJ cZ L_order L_lineOf_18 L_howMany ++ (wX5 oS aS cI cJ cZ S_left S_low S_side S_howMany)) H := by rw [eL_lineOf_18]; exact hP
  have hD : va_D A (wX3 oL aL cI cJ cZ L_order L_lineOf_18 L_howMany ++ (wX5 oS aS cI cJ cZ S_left S_low S_side S_howMany)) := by rw [eL_lineOf_18]; exact hD
  obtain ⟨x4_19, ex4_19⟩ : ∃ z : Int32, z = x4 + 1 := ⟨_, rfl⟩
  replace h := dk_let_to ex4_19 h
  refine lv_iinc (v := x4_19) (lv' := [(4, .int x4_19), (3, .int x3_16), (0, .ref oL), (1, .ref oS), (2, .int x2), (5, .int x5), (6, .int x6)]) hx hb dX3_find_117 hl (k := 4) rfl (by rw [ex4_19]; rfl) (by decide) rfl (fun ls hl => ?_)
  refine lv_goto (tgt := 17) hx hb dX3_find_120 (by decide) ?_
  exact hC _ (Option.some.inj h).symm _ _ hP hD hS ls (lv_sub hl [2, 3, 4, 1, 0] rfl)
set_option maxHeartbeats 4000000 in
set_option maxRecDepth 100000 in
theorem kX3_find_69 (C : dk_C p s m meth c args cX3_find none 7 RX3 vsX3_find) (hK : va_K (dC, dI) vwCl (dk_ty cI cJ cZ) s) (hA : ∀ q : Nat, s.heap.size ≤ q → A q) {out : (Nat → Int32) × (Nat → Int32) × Int32} {x4 x5 x6 : Int32} {y : ((Nat → Int32) × Int32) ⊕ (Int32 × Int32 × Int32 × (Nat → Int32) × Int32)} (h : jX3_find_69 L_order L_lineOf L_howMany S_left S_low S_side S_howMany x4 x5 x6 = some y) (hE : ∀ z : (Nat → Int32) × Int32, y = .inl z → ∀ (H : Heap) (locs : List Loc), va_P (dC, dI) vwCl (wX3 oL aL cI cJ cZ L_order z.1 z.2 ++ (wX5 oS aS cI cJ cZ S_left S_low S_side S_howMany)) H → va_D A (wX3 oL aL cI cJ cZ L_order z.1 z.2 ++ (wX5 oS aS cI cJ cZ S_left S_low S_side S_howMany)) → va_S A s.heap H locs → ∀ ls : Array Slot, lv_has ls 7 [(0, .ref oL), (1, .ref oS)] → W p l e rX3_find s m args below meth c H locs 0 0 (MQ below (dk_Qv (dC, dI) (dk_ty cI cJ cZ) (wX3 oL aL cI cJ cZ out.1 out.2.1 out.2.2 ++ (wX5 oS aS cI cJ cZ S_left S_low S_side S_howMany)) A) args s 0 0 A) (F0 m 123 ls [])) (hC : ∀ z : Int32 × Int32 × Int32 × (Nat → Int32) × Int32, y = .inr z → ∀ (H : Heap) (locs : List Loc), va_P (dC, dI) vwCl (wX3 oL aL cI cJ cZ L_order z.2.2.2.1 z.2.2.2.2 ++ (wX5 oS aS cI cJ cZ S_left S_low S_side S_howMany)) H → va_D A (wX3 oL aL cI cJ cZ L_order z.2.2.2.1 z.2.2.2.2 ++ (wX5 oS aS cI cJ cZ S_left S_low S_side S_howMany)) → va_S A s.heap H locs → ∀ ls : Array Slot, lv_has ls 7 [(0, .ref oL), (1, .ref oS), (2, .int z.1), (3, .int z.2.1), (4, .int z.2.2.1)] → W p l e rX3_find s m args below meth c H locs 0 0 (MQ below (dk_Qv (dC, dI) (dk_ty cI cJ cZ) (wX3 oL aL cI cJ cZ out.1 out.2.1 out.2.2 ++ (wX5 oS aS cI cJ cZ S_left S_low S_side S_howMany)) A) args s 0 0 A) (F0 m 17 ls [])) : ∀ (H : Heap) (locs : List Loc), va_P (dC, dI) vwCl (wX3 oL aL cI cJ cZ L_order L_lineOf L_howMany ++ (wX5 oS aS cI cJ cZ S_left S_low S_side S_howMany)) H → va_D A (wX3 oL aL cI cJ cZ L_order L_lineOf L_howMany ++ (wX5 oS aS cI cJ cZ S_left S_low S_side S_howMany)) → va_S A s.heap H locs → ∀ ls : Array Slot, lv_has ls 7 [(0, .ref oL), (1, .ref oS), (4, .int x4), (5, .int x5), (6, .int x6)] → W p l e rX3_find s m args below meth c H locs 0 0 (MQ below (dk_Qv (dC, dI) (dk_ty cI cJ cZ) (wX3 oL aL cI cJ cZ out.1 out.2.1 out.2.2 ++ (wX5 oS aS cI cJ cZ S_left S_low S_side S_howMany)) A) args s 0 0 A) (F0 m 69 ls []) := by
  obtain ⟨hx, hb, hr, hml, hown, hts, hlocks⟩ := id C
  intro H locs hP hD hS ls hl
  unfold jX3_find_69 at h
  refine lv_aload_n hx hb dX3_find_69 rfl (lv_at hl 0 rfl) ?_
  refine lv_dup hx hb dX3_find_70 rfl ?_
  refine va_get (D := (dC, dI)) (ci := 3) (v := .int L_howMany) (C := RX3) (T := TX3) (N := 3) hx hb hts qX3_find_X3 hown hK hP 0 rfl rfl 2 (by decide) (hts _ qX3_find_f18) (fun _ h9 => h9) rfl dX3_find_71 ?_
  refine lv_iconst (v := 1) hx hb dX3_find_74 (by decide) ?_
  refine lv_iadd hx hb dX3_find_75 ?_
  refine va_put (D := (dC, dI)) (ci := 3) (v := .int (L_howMany + 1)) (ty := .int) (C := RX3) (T := TX3) (N := 3) hx hb hts qX3_find_X3 tyX3 tyX3_ok nmX3 hown hK hP hD hS 0 rfl rfl 2 (by decide) (hts _ qX3_find_f18) (fun _ h9 => h9) rfl (by decide +kernel) rfl rfl (Nat.le_of_ble_eq_true rfl) dX3_find_76 (fun H locs hP hD hS => ?_)
  obtain ⟨L_howMany_12, eL_howMany_12⟩ : ∃ z : Int32, z = (L_howMany + 1) := ⟨_, rfl⟩
  replace h := dk_let_to eL_howMany_12 h
  have hP : va_P (dC, dI) vwCl (wX3 oL aL cI cJ cZ L_order L_lineOf L_howMany_12 ++ (wX5 oS aS cI cJ cZ S_left S_low S_side S_howMany)) H := by rw [eL_howMany_12]; exact hP
  have hD : va_D A (wX3 oL aL cI cJ cZ L_order L_lineOf L_howMany_12 ++ (wX5 oS aS cI cJ cZ S_left S_low S_side S_howMany)) := by rw [eL_howMany_12]; exact hD
  refine lv_aload_n hx hb dX3_find_79 rfl (lv_at hl 1 rfl) ?_
  refine lv_iload hx hb dX3_find_80 (lv_at hl 3 rfl) ?_
  obtain ⟨r_13, hcr_13, h⟩ := dk_bnd_to h
  refine dk_rSi (As := [.ref oS, .int x5]) (rest := []) (wc := (wX5 oS aS cI cJ cZ S_left S_low S_side S_howMany)) C hK hP hD hS hA (mX3_levelOf l dC dI cI cJ cZ hcr_13 _) (va_cwS 2 hts gvX3_find_X3_levelOf rfl rfl rfl (by decide +kernel) ⟨Nat.le_of_ble_eq_true rfl, Nat.le_of_ble_eq_true rfl⟩) [3, 4, 5, 6] rfl (by decide) rfl hl.1 rfl (Nat.le_of_ble_eq_true rfl) ⟨Nat.le_of_ble_eq_true rfl, Nat.le_of_ble_eq_true rfl⟩ dX3_find_82 (fun H locs hP hD hS => ?_)
  refine lv_istore_n (lv' := [(2, .int r_13), (0, .ref oL), (1, .ref oS), (4, .int x4), (5, .int x5), (6, .int x6)]) hx hb dX3_find_85 rfl hl (by decide) rfl (fun ls hl => ?_)
  refine lv_aload_n hx hb dX3_find_86 rfl (lv_at hl 2 rfl) ?_
  refine lv_iload hx hb dX3_find_87 (lv_at hl 5 rfl) ?_
  obtain ⟨r_14, hcr_14, h⟩ := dk_bnd_to h
  refine dk_rVi (b := oS) (As := [.int x6]) (rest := []) (wc := (wX5 oS aS cI cJ cZ S_left S_low S_side S_howMany)) C hK hP hD hS hA (mX5_right l dC dI cI cJ cZ hcr_14 _) (cwV 1 hts gvX3_find_X5_right rfl rfl rfl (by decide +kernel) ⟨Nat.le_of_ble_eq_true rfl, Nat.le_of_ble_eq_true rfl⟩) [3, 4, 5, 6] rfl (by decide) 0 5 rfl rfl rfl hl.1 rfl (Nat.le_of_ble_eq_true rfl) ⟨Nat.le_of_ble_eq_true rfl, Nat.le_of_ble_eq_true rfl⟩ dX3_find_89 (fun H locs hP hD hS => ?_)
  refine lv_istore_n (lv' := [(3, .int r_14), (2, .int r_13), (0, .ref oL), (1, .ref oS), (4, .int x4), (5, .int x5), (6, .int x6)]) hx hb dX3_find_92 rfl hl (by decide) rfl (fun ls hl => ?_)
  exact kX3_find_93 C hK hA h hE hC _ _ hP hD hS ls (lv_sub hl [2, 3, 1, 0, 4, 5, 6] rfl)
set_option maxHeartbeats 4000000 in
set_option maxRecDepth 100000 in
theorem tX3_find_17 (C : dk_C p s m meth c args cX3_find none 7 RX3 vsX3_find) (hK : va_K (dC, dI) vwCl (dk_ty cI cJ cZ) s) (hA : ∀ q : Nat, s.heap.size ≤ q → A q) {out : (Nat → Int32) × (Nat → Int32) × Int32} {st : Int32 × Int32 × Int32 × (Nat → Int32) × Int32} {y : ((Nat → Int32) × Int32) ⊕ (Int32 × Int32 × Int32 × (Nat → Int32) × Int32)} (h : bX3_find_17 L_order S_left S_low S_side S_howMany st = some y) (hE : ∀ z : (Nat → Int32) × Int32, y = .inl z → ∀ (H : Heap) (locs : List Loc), va_P (dC, dI) vwCl (wX3 oL aL cI cJ cZ L_order z.1 z.2 ++ (wX5 oS aS cI cJ cZ S_left S_low S_side S_howMany)) H → va_D A (wX3 oL aL cI cJ cZ L_order z.1 z.2 ++ (wX5 oS aS cI cJ cZ S_left S_low S_side S_howMany)) → va_S A s.heap H locs → ∀ ls : Array Slot, lv_has ls 7 [(0, .ref oL), (1, .ref oS)] → W p l e rX3_find s m args below meth c H locs 0 0 (MQ below (dk_Qv (dC, dI) (dk_ty cI cJ cZ) (wX3 oL aL cI cJ cZ out.1 out.2.1 out.2.2 ++ (wX5 oS aS cI cJ cZ S_left S_low S_side S_howMany)) A) args s 0 0 A) (F0 m 123 ls [])) (hC : ∀ z : Int32 × Int32 × Int32 × (Nat → Int32) × Int32, y = .inr z → ∀ (H : Heap) (locs : List Loc), va_P (dC, dI) vwCl (wX3 oL aL cI cJ cZ L_order z.2.2.2.1 z.2.2.2.2 ++ (wX5 oS aS cI cJ cZ S_left S_low S_side S_howMany)) H → va_D A (wX3 oL aL cI cJ cZ L_order z.2.2.2.1 z.2.2.2.2 ++ (wX5 oS aS cI cJ cZ S_left S_low S_side S_howMany)) → va_S A s.heap H locs → ∀ ls : Array Slot, lv_has ls 7 [(0, .ref oL), (1, .ref oS), (2, .int z.1), (3, .int z.2.1), (4, .int z.2.2.1)] → W p l e rX3_find s m args below meth c H locs 0 0 (MQ below (dk_Qv (dC, dI) (dk_ty cI cJ cZ) (wX3 oL aL cI cJ cZ out.1 out.2.1 out.2.2 ++ (wX5 oS aS cI cJ cZ S_left S_low S_side S_howMany)) A) args s 0 0 A) (F0 m 17 ls [])) : ∀ (H : Heap) (locs : List Loc), va_P (dC, dI) vwCl (wX3 oL aL cI cJ cZ L_order st.2.2.2.1 st.2.2.2.2 ++ (wX5 oS aS cI cJ cZ S_left S_low S_side S_howMany)) H → va_D A (wX3 oL aL cI cJ cZ L_order st.2.2.2.1 st.2.2.2.2 ++ (wX5 oS aS cI cJ cZ S_left S_low S_side S_howMany)) → va_S A s.heap H locs → ∀ ls : Array Slot, lv_has ls 7 [(0, .ref oL), (1, .ref oS), (2, .int st.1), (3, .int st.2.1), (4, .int st.2.2.1)] → W p l e rX3_find s m args below meth c H locs 0 0 (MQ below (dk_Qv (dC, dI) (dk_ty cI cJ cZ) (wX3 oL aL cI cJ cZ out.1 out.2.1 out.2.2 ++ (wX5 oS aS cI cJ cZ S_left S_low S_side S_howMany)) A) args s 0 0 A) (F0 m 17 ls []) := by
  obtain ⟨hx, hb, hr, hml, hown, hts, hlocks⟩ := id C
  intro H locs hP hD hS ls hl
  unfold bX3_find_17 at h
  refine lv_iload hx hb dX3_find_17 (lv_at hl 4 rfl) ?_
  refine lv_iconst (v := 2) hx hb dX3_find_19 (by decide) ?_
  refine lv_aload_n hx hb dX3_find_20 rfl (lv_at hl 1 rfl) ?_
  refine va_get (D := (dC, dI)) (ci := 5) (v := .int S_howMany) (C := RX5) (T := TX5) (N := 4) hx hb hts qX3_find_X5 hown hK hP 3 rfl rfl 3 (by decide) (hts _ qX3_find_f26) (fun _ h9 => h9) rfl dX3_find_21 ?_
  refine lv_imul hx hb dX3_find_24 ?_
  refine lv_icmp_ge (tgt := 123) hx hb dX3_find_25 (by decide) (fun c_3 => ?_) (fun c_3 => ?_)
  · replace h := dk_it c_3 h
    exact hE _ (Option.some.inj h).symm _ _ hP hD hS ls (lv_sub hl [0, 1] rfl)
  · replace h := dk_ie c_3 h
    refine lv_aload_n hx hb dX3_find_28 rfl (lv_at hl 0 rfl) ?_
    refine va_get (D := (dC, dI)) (ci := 3) (v := .ref (aL 0)) (C := RX3) (T := TX3) (N := 3) hx hb hts qX3_find_X3 hown hK hP 0 rfl rfl 0 (by decide) (hts _ qX3_find_f9) (fun _ h9 => h9) rfl dX3_find_29 ?_
    refine lv_iload hx hb dX3_find_32 (lv_at hl 4 rfl) ?_
    obtain ⟨g_4, h⟩ := dk_gd_to h
    have g_4 := dk_in_to g_4
    refine va_iald hx hb hK hP 1 0 rfl rfl g_4 dX3_find_34 ?_
    refine lv_topi (fun x5_5 ex5_5 => ?_)
    replace h := dk_let_to ex5_5 h
    refine lv_istore (lv' := [(5, .int x5_5), (0, .ref oL), (1, .ref oS), (2, .int st.1), (3, .int st.2.1), (4, .int st.2.2.1)]) hx hb dX3_find_35 hl (by decide) rfl (fun ls hl => ?_)
    refine lv_iload hx hb dX3_find_37 (lv_at hl 0 rfl) ?_
    refine lv_iconst (v := 1) hx hb dX3_find_39 (by decide) ?_
    refine lv_ishr hx hb dX3_find_40 ?_
    refine lv_topi (fun x6_6 ex6_6 => ?_)
    replace h := dk_let_to ex6_6 h
    refine lv_istore (lv' := [(6, .int x6_6), (5, .int x5_5), (0, .ref oL), (1, .ref oS), (2, .int st.1), (3, .int st.2.1), (4, .int st.2.2.1)]) hx hb dX3_find_41 hl (by decide) rfl (fun ls hl => ?_)
    refine lv_iload hx hb dX3_find_43 (lv_at hl 6 rfl) ?_
    refine lv_if_eq (tgt := 69) hx hb dX3_find_45 (by decide) (fun c_7 => ?_) (fun c_7 => ?_)
    · replace h := dk_it c_7 h
      exact kX3_find_69 C hK hA h hE hC _ _ hP hD hS ls (lv_sub hl [2, 3, 6, 1, 0] rfl)
    · replace h := dk_ie c_7 h
      refine lv_aload_n hx hb dX3_find_48 rfl (lv_at hl 3 rfl) ?_
      refine lv_iload hx hb dX3_find_49 (lv_at hl 1 rfl) ?_
      obtain ⟨r_8, hcr_8, h⟩ := dk_bnd_to h
      refine dk_rSi (As := [.ref oS, .int x5_5]) (rest := []) (wc := (wX5 oS aS cI cJ cZ S_left S_low S_side S_howMany)) C hK hP hD hS hA (mX3_levelOf l dC dI cI cJ cZ hcr_8 _) (va_cwS 2 hts gvX3_find_X3_levelOf rfl rfl rfl (by decide +kernel) ⟨Nat.le_of_ble_eq_true rfl, Nat.le_of_ble_eq_true rfl⟩) [3, 4, 5, 6] rfl (by decide) rfl hl.1 rfl (Nat.le_of_ble_eq_true rfl) ⟨Nat.le_of_ble_eq_true rfl, Nat.le_of_ble_eq_true rfl⟩ dX3_find_51 (fun H locs hP hD hS => ?_)
      refine lv_iload_n hx hb dX3_find_54 rfl (lv_at hl 4 rfl) ?_
      refine lv_icmp_ne (tgt := 69) hx hb dX3_find_55 (by decide) (fun c_9 => ?_) (fun c_9 => ?_)
      · replace h := dk_ie c_9 h
        exact kX3_find_69 C hK hA h hE hC _ _ hP hD hS ls (lv_sub hl [2, 3, 6, 1, 0] rfl)
      · replace h := dk_it c_9 h
        refine lv_aload_n hx hb dX3_find_58 rfl (lv_at hl 3 rfl) ?_
        refine va_get (D := (dC, dI)) (ci := 5) (v := .ref (aS 0)) (C := RX5) (T := TX5) (N := 4) hx hb hts qX3_find_X5 hown hK hP 3 rfl rfl 0 (by decide) (hts _ qX3_find_f33) (fun _ h9 => h9) rfl dX3_find_59 ?_
        refine lv_iload hx hb dX3_find_62 (lv_at hl 0 rfl) ?_
        obtain ⟨g_10, h⟩ := dk_gd_to h
        have g_10 := dk_in_to g_10
        refine va_iald hx hb hK hP 4 0 rfl rfl g_10 dX3_find_64 ?_
        refine lv_iload_n hx hb dX3_find_65 rfl (lv_at hl 5 rfl) ?_
        refine lv_icmp_le (tgt := 93) hx hb dX3_find_66 (by decide) (fun c_11 => ?_) (fun c_11 => ?_)
        · replace h := dk_it c_11 h
          exact kX3_find_93 C hK hA h hE hC _ _ hP hD hS ls (lv_sub hl [2, 3, 4, 5, 6, 1, 0] rfl)
        · replace h := dk_ie c_11 h
          exact kX3_find_69 C hK hA h hE hC _ _ hP hD hS ls (lv_sub hl [2, 3, 6, 1, 0] rfl)
set_option maxHeartbeats 4000000 in
set_option maxRecDepth 100000 in
theorem lX3_find_17 (C : dk_C p s m meth c args cX3_find none 7 RX3 vsX3_find) (hK : va_K (dC, dI) vwCl (dk_ty cI cJ cZ) s) (hA : ∀ q : Nat, s.heap.size ≤ q → A q) {out : (Nat → Int32) × (Nat → Int32) × Int32} {n : Nat} {st : Int32 × Int32 × Int32 × (Nat → Int32) × Int32} {r : (Nat → Int32) × Int32} (h : dk_loop (bX3_find_17 L_order S_left S_low S_side S_howMany) n st = some r) (hE : ∀ (H : Heap) (locs : List Loc), va_P (dC, dI) vwCl (wX3 oL aL cI cJ cZ L_order r.1 r.2 ++ (wX5 oS aS cI cJ cZ S_left S_low S_side S_howMany)) H → va_D A (wX3 oL aL cI cJ cZ L_order r.1 r.2 ++ (wX5 oS aS cI cJ cZ S_left S_low S_side S_howMany)) → va_S A s.heap H locs → ∀ ls : Array Slot, lv_has ls 7 [(0, .ref oL), (1, .ref oS)] → W p l e rX3_find s m args below meth c H locs 0 0 (MQ below (dk_Qv (dC, dI) (dk_ty cI cJ cZ) (wX3 oL aL cI cJ cZ out.1 out.2.1 out.2.2 ++ (wX5 oS aS cI cJ cZ S_left S_low S_side S_howMany)) A) args s 0 0 A) (F0 m 123 ls [])) : ∀ (H : Heap) (locs : List Loc), va_P (dC, dI) vwCl (wX3 oL aL cI cJ cZ L_order st.2.2.2.1 st.2.2.2.2 ++ (wX5 oS aS cI cJ cZ S_left S_low S_side S_howMany)) H → va_D A (wX3 oL aL cI cJ cZ L_order st.2.2.2.1 st.2.2.2.2 ++ (wX5 oS aS cI cJ cZ S_left S_low S_side S_howMany)) → va_S A s.heap H locs → ∀ ls : Array Slot, lv_has ls 7 [(0, .ref oL), (1, .ref oS), (2, .int st.1), (3, .int st.2.1), (4, .int st.2.2.1)] → W p l e rX3_find s m args below meth c H locs 0 0 (MQ below (dk_Qv (dC, dI) (dk_ty cI cJ cZ) (wX3 oL aL cI cJ cZ out.1 out.2.1 out.2.2 ++ (wX5 oS aS cI cJ cZ S_left S_low S_side S_howMany)) A) args s 0 0 A) (F0 m 17 ls []) :=
  dk_loopW (P := fun st => ∀ (H : Heap) (locs : List Loc), va_P (dC, dI) vwCl (wX3 oL aL cI cJ cZ L_order st.2.2.2.1 st.2.2.2.2 ++ (wX5 oS aS cI cJ cZ S_left S_low S_side S_howMany)) H → va_D A (wX3 oL aL cI cJ cZ L_order st.2.2.2.1 st.2.2.2.2 ++ (wX5 oS aS cI cJ cZ S_left S_low S_side S_howMany)) → va_S A s.heap H locs → ∀ ls : Array Slot, lv_has ls 7 [(0, .ref oL), (1, .ref oS), (2, .int st.1), (3, .int st.2.1), (4, .int st.2.2.1)] → W p l e rX3_find s m args below meth c H locs 0 0 (MQ below (dk_Qv (dC, dI) (dk_ty cI cJ cZ) (wX3 oL aL cI cJ cZ out.1 out.2.1 out.2.2 ++ (wX5 oS aS cI cJ cZ S_left S_low S_side S_howMany)) A) args s 0 0 A) (F0 m 17 ls [])) (K := fun r => ∀ (H : Heap) (locs : List Loc), va_P (dC, dI) vwCl (wX3 oL aL cI cJ cZ L_order r.1 r.2 ++ (wX5 oS aS cI cJ cZ S_left S_low S_side S_howMany)) H → va_D A (wX3 oL aL cI cJ cZ L_order r.1 r.2 ++ (wX5 oS aS cI cJ cZ S_left S_low S_side S_howMany)) → va_S A s.heap H locs → ∀ ls : Array Slot, lv_has ls 7 [(0, .ref oL), (1, .ref oS)] → W p l e rX3_find s m args below meth c H locs 0 0 (MQ below (dk_Qv (dC, dI) (dk_ty cI cJ cZ) (wX3 oL aL cI cJ cZ out.1 out.2.1 out.2.2 ++ (wX5 oS aS cI cJ cZ S_left S_low S_side S_howMany)) A) args s 0 0 A) (F0 m 123 ls [])) (fun st y hy k1 k2 => tX3_find_17 C hK hA hy k1 k2) n st r h hE
end
set_option maxHeartbeats 4000000 in
set_option maxRecDepth 100000 in
theorem mX3_find (l : Launch) (dC : Nat → ClassId) (dI : Nat → Nat → Nat) (cI cJ cZ : ClassId) {oL : Nat} {aL : Nat → Nat} {oS : Nat} {aS : Nat → Nat} {L_order L_lineOf : Nat → Int32} {L_howMany : Int32} {S_left S_low S_side : Nat → Int32} {S_howMany : Int32} {out : (Nat → Int32) × (Nat → Int32) × Int32} (h : fX3_find L_order L_lineOf L_howMany S_left S_low S_side S_howMany = some out) (sz : Nat) : Met l yX3_find vsX3_find rX3_find (va_Pc [.ref oL, .ref oS] (dk_Pre (dC, dI) (dk_ty cI cJ cZ) (wX3 oL aL cI cJ cZ L_order L_lineOf L_howMany ++ (wX5 oS aS cI cJ cZ S_left S_low S_side S_howMany)) sz)) (dk_Qv (dC, dI) (dk_ty cI cJ cZ) (wX3 oL aL cI cJ cZ out.1 out.2.1 out.2.2 ++ (wX5 oS aS cI cJ cZ S_left S_low S_side S_howMany)) (va_A (wX3 oL aL cI cJ cZ L_order L_lineOf L_howMany ++ (wX5 oS aS cI cJ cZ S_left S_low S_side S_howMany)) sz)) 0 0 (va_A (wX3 oL aL cI cJ cZ L_order L_lineOf L_howMany ++ (wX5 oS aS cI cJ cZ S_left S_low S_side S_howMany)) sz) := by
  refine dk_met (cc := cX3_find) (maxL := 7) (ret := none) (Qc := fun A => dk_Qv (dC, dI) (dk_ty cI cJ cZ) (wX3 oL aL cI cJ cZ out.1 out.2.1 out.2.2 ++ (wX5 oS aS cI cJ cZ S_left S_low S_side S_howMany)) A) (by decide) rfl (Nat.le_of_ble_eq_true rfl) ?_
  intro p e s m below meth c A C hnm hA hK hP hD hS ls hl
  have C : dk_C p s m meth c _ cX3_find none 7 RX3 vsX3_find := C
  obtain ⟨hx, hb, hr, hml, hown, hts, hlocks⟩ := id C
  have hl : lv_has ls 7 [(0, .ref oL), (1, .ref oS)] := hl
  unfold fX3_find at h
  refine lv_aload_n hx hb dX3_find_0 rfl (lv_at hl 0 rfl) ?_
  refine lv_aload_n hx hb dX3_find_1 rfl (lv_at hl 1 rfl) ?_
  obtain ⟨r_1, hcr_1, h⟩ := dk_bnd_to h
  refine dk_cVv (b := oL) (As := [.ref oS]) (rest := []) (wc := (wX3 oL aL cI cJ cZ L_order L_lineOf L_howMany ++ (wX5 oS aS cI cJ cZ S_left S_low S_side S_howMany))) (wc' := (wX3 oL aL cI cJ cZ r_1 L_lineOf L_howMany ++ (wX5 oS aS cI cJ cZ S_left S_low S_side S_howMany))) (wr := []) (ws' := (wX3 oL aL cI cJ cZ r_1 L_lineOf L_howMany ++ (wX5 oS aS cI cJ cZ S_left S_low S_side S_howMany))) C hK hP hD hS hA (mX3_sortEdges l dC dI cI cJ cZ hcr_1 _) (cwV 1 hts gvX3_find_X3_sortEdges rfl rfl rfl (by decide +kernel) ⟨Nat.le_of_ble_eq_true rfl, Nat.le_of_ble_eq_true rfl⟩) [0, 1, 2, 3, 4, 5, 6] [] [0, 1, 2, 3, 4, 5, 6] rfl (by decide) rfl (by decide) (by decide) rfl (by decide) 0 3 rfl rfl rfl hl.1 rfl (Nat.le_of_ble_eq_true rfl) ⟨Nat.le_of_ble_eq_true rfl, Nat.le_of_ble_eq_true rfl⟩ dX3_find_2 (fun H locs hP hD hS => ?_)
  refine lv_aload_n hx hb dX3_find_5 rfl (lv_at hl 0 rfl) ?_
  refine lv_iconst (v := 0) hx hb dX3_find_6 (by decide) ?_
  refine va_put (D := (dC, dI)) (ci := 3) (v := .int 0) (ty := .int) (C := RX3) (T := TX3) (N := 3) hx hb hts qX3_find_X3 tyX3 tyX3_ok nmX3 hown hK hP hD hS 0 rfl rfl 2 (by decide) (hts _ qX3_find_f18) (fun _ h9 => h9) rfl (by decide +kernel) rfl rfl (Nat.le_of_ble_eq_true rfl) dX3_find_7 (fun H locs hP hD hS => ?_)
  have hP : va_P (dC, dI) vwCl (wX3 oL aL cI cJ cZ r_1 L_lineOf 0 ++ (wX5 oS aS cI cJ cZ S_left S_low S_side S_howMany)) H := hP
  have hD : va_D A (wX3 oL aL cI cJ cZ r_1 L_lineOf 0 ++ (wX5 oS aS cI cJ cZ S_left S_low S_side S_howMany)) := hD
  refine lv_iconst (v := 0) hx hb dX3_find_10 (by decide) ?_
  refine lv_istore_n (lv' := [(2, .int 0), (0, .ref oL), (1, .ref oS)]) hx hb dX3_find_11 rfl hl (by decide) rfl (fun ls hl => ?_)
  refine lv_iconst (v := 0) hx hb dX3_find_12 (by decide) ?_
  refine lv_istore_n (lv' := [(3, .int 0), (2, .int 0), (0, .ref oL), (1, .ref oS)]) hx hb dX3_find_13 rfl hl (by decide) rfl (fun ls hl => ?_)
  refine lv_iconst (v := 0) hx hb dX3_find_14 (by decide) ?_
  refine lv_istore (lv' := [(4, .int 0), (3, .int 0), (2, .int 0), (0, .ref oL), (1, .ref oS)]) hx hb dX3_find_15 hl (by decide) rfl (fun ls hl => ?_)
  obtain ⟨r_2, hLr_2, h⟩ := dk_bnd_to h
  refine lX3_find_17 C hK hA hLr_2 (fun H locs hP hD hS ls hl => ?_) _ _ hP hD hS ls (lv_sub hl [3, 4, 2, 1, 0] rfl)
  have e9 := Option.some.inj h
  subst e9
  exact dk_vret C hK hP hD hS dX3_find_123
/-! ===== SquareTiler$Lines.layTurn ===== -/
abbrev rX3_layTurn : Room := { frames := 1, cells := 0, slots := 0, locals := 22 }
def ovX3_layTurn : List Cond := [Cond.fieldLink RX3 26 "SquareTiler$Squares" "howMany" "I", Cond.fieldLink RX3 68 "SquareTiler$Net" "power" "I", Cond.fieldLink RX3 15 "SquareTiler$Lines" "lineOf" "[I", Cond.fieldLink RX3 9 "SquareTiler$Lines" "order" "[I", Cond.methodLink RX3 82 yX4_endsAt, Cond.instanceMethod yX4_endsAt, Cond.selects RX4 yX4_endsAt yX4_endsAt, Cond.initialized RX4, Cond.methodLink RX3 78 yX4_addToTurn, Cond.instanceMethod yX4_addToTurn, Cond.selects RX4 yX4_addToTurn yX4_addToTurn]
def vsX3_layTurn : List Cond := .code yX3_layTurn cX3_layTurn 6 none :: (ovX3_layTurn ++ (wsX50 ++ (wsX40 ++ (wsX30 ++ (vsX4_endsAt ++ (vsX4_addToTurn ++ []))))))
theorem qX3_layTurn_f26 : Cond.fieldLink RX3 26 "SquareTiler$Squares" "howMany" "I" ∈ vsX3_layTurn := List.mem_cons_of_mem _ (List.mem_append_left _ (List.mem_of_getElem? (i := 0) rfl))
theorem qX3_layTurn_f68 : Cond.fieldLink RX3 68 "SquareTiler$Net" "power" "I" ∈ vsX3_layTurn := List.mem_cons_of_mem _ (List.mem_append_left _ (List.mem_of_getElem? (i := 1) rfl))
theorem qX3_layTurn_f15 : Cond.fieldLink RX3 15 "SquareTiler$Lines" "lineOf" "[I" ∈ vsX3_layTurn := List.mem_cons_of_mem _ (List.mem_append_left _ (List.mem_of_getElem? (i := 2) rfl))
theorem qX3_layTurn_f9 : Cond.fieldLink RX3 9 "SquareTiler$Lines" "order" "[I" ∈ vsX3_layTurn := List.mem_cons_of_mem _ (List.mem_append_left _ (List.mem_of_getElem? (i := 3) rfl))
theorem qX3_layTurn_w4 : Cond.methodLink RX3 82 yX4_endsAt ∈ vsX3_layTurn := List.mem_cons_of_mem _ (List.mem_append_left _ (List.mem_of_getElem? (i := 4) rfl))
theorem qX3_layTurn_w5 : Cond.instanceMethod yX4_endsAt ∈ vsX3_layTurn := List.mem_cons_of_mem _ (List.mem_append_left _ (List.mem_of_getElem? (i := 5) rfl))
theorem qX3_layTurn_w6 : Cond.selects RX4 yX4_endsAt yX4_endsAt ∈ vsX3_layTurn := List.mem_cons_of_mem _ (List.mem_append_left _ (List.mem_of_getElem? (i := 6) rfl))
theorem qX3_layTurn_w7 : Cond.initialized RX4 ∈ vsX3_layTurn := List.mem_cons_of_mem _ (List.mem_append_left _ (List.mem_of_getElem? (i := 7) rfl))
theorem qX3_layTurn_w8 : Cond.methodLink RX3 78 yX4_addToTurn ∈ vsX3_layTurn := List.mem_cons_of_mem _ (List.mem_append_left _ (List.mem_of_getElem? (i := 8) rfl))
theorem qX3_layTurn_w9 : Cond.instanceMethod yX4_addToTurn ∈ vsX3_layTurn := List.mem_cons_of_mem _ (List.mem_append_left _ (List.mem_of_getElem? (i := 9) rfl))
theorem qX3_layTurn_w10 : Cond.selects RX4 yX4_addToTurn yX4_addToTurn ∈ vsX3_layTurn := List.mem_cons_of_mem _ (List.mem_append_left _ (List.mem_of_getElem? (i := 10) rfl))
theorem qX3_layTurn_X5 : ∀ w ∈ u_ws RX5 TX5 4, w ∈ vsX3_layTurn := fun w h => List.mem_cons_of_mem _ (List.mem_append_right _ (List.mem_append_left _ h))
theorem qX3_layTurn_X4 : ∀ w ∈ u_ws RX4 TX4 10, w ∈ vsX3_layTurn := fun w h => List.mem_cons_of_mem _ (List.mem_append_right _ (List.mem_append_right _ (List.mem_append_left _ h)))
theorem qX3_layTurn_X3 : ∀ w ∈ u_ws RX3 TX3 3, w ∈ vsX3_layTurn := fun w h => List.mem_cons_of_mem _ (List.mem_append_right _ (List.mem_append_right _ (List.mem_append_right _ (List.mem_append_left _ h))))
theorem gd_vsX3_layTurn : ∀ w ∈ vsX3_layTurn, goodWord w = true := dk_cons rfl (dk_app (dk_all (by decide +kernel)) (dk_app gd_wsX50 (dk_app gd_wsX40 (dk_app gd_wsX30 (dk_app gd_vsX4_endsAt (dk_app gd_vsX4_addToTurn dk_nil))))))
theorem gvX3_layTurn_X4_endsAt : GoodIn vsX3_layTurn (wsV RX3 82 RX4 yX4_endsAt vsX4_endsAt) := goodIn_app (dk_g4 qX3_layTurn_w4 qX3_layTurn_w5 qX3_layTurn_w6 qX3_layTurn_w7 rfl) (dk_gIn (fun w h => List.mem_cons_of_mem _ (List.mem_append_right _ (List.mem_append_right _ (List.mem_append_right _ (List.mem_append_right _ (List.mem_append_left _ h)))))) gd_vsX4_endsAt)
theorem gvX3_layTurn_X4_addToTurn : GoodIn vsX3_layTurn (wsV RX3 78 RX4 yX4_addToTurn vsX4_addToTurn) := goodIn_app (dk_g4 qX3_layTurn_w8 qX3_layTurn_w9 qX3_layTurn_w10 qX3_layTurn_w7 rfl) (dk_gIn (fun w h => List.mem_cons_of_mem _ (List.mem_append_right _ (List.mem_append_right _ (List.mem_append_right _ (List.mem_append_right _ (List.mem_append_right _ (List.mem_append_left _ h))))))) gd_vsX4_addToTurn)
def jX3_layTurn_60 (L_order L_lineOf : Nat → Int32) (S_howMany : Int32) (N_first N_second N_turnSize N_turns : Nat → Int32) (N_power x3 x4 x5 : Int32) : Option (((Nat → Int32) × (Nat → Int32)) ⊕ (Int32 × (Nat → Int32) × (Nat → Int32))) := dk_let (x5 + 1) (fun x5_12 => some (.inr (x5_12, N_turnSize, N_turns)))
def bX3_layTurn_11 (L_order L_lineOf : Nat → Int32) (S_howMany : Int32) (N_first N_second : Nat → Int32) (N_power x3 x4 : Int32) (st : Int32 × (Nat → Int32) × (Nat → Int32)) : Option (((Nat → Int32) × (Nat → Int32)) ⊕ (Int32 × (Nat → Int32) × (Nat → Int32))) := if x4 ≤ st.1 then some (.inl (st.2.1, st.2.2)) else dk_gd (dk_in st.1 42) (dk_gd (dk_in (L_order st.1.toNatClampNeg) 42) (if (L_lineOf (L_order st.1.toNatClampNeg).toNatClampNeg) = x3 then if ((L_order st.1.toNatClampNeg) &&& 1) = 0 then dk_bnd (fX4_addToTurn st.2.1 st.2.2 x3 ((L_order st.1.toNatClampNeg) >>> ((1 : Int32) &&& 31))) (fun r_11 => jX3_layTurn_60 L_order L_lineOf S_howMany N_first N_second r_11.1 r_11.2 N_power x3 x4 st.1) else jX3_layTurn_60 L_order L_lineOf S_howMany N_first N_second st.2.1 st.2.2 N_power x3 x4 st.1 else jX3_layTurn_60 L_order L_lineOf S_howMany N_first N_second st.2.1 st.2.2 N_power x3 x4 st.1))
def jX3_layTurn_141 (L_order L_lineOf : Nat → Int32) (S_howMany : Int32) (N_first N_second N_turnSize N_turns : Nat → Int32) (N_power x3 x5 : Int32) : Option (((Nat → Int32) × (Nat → Int32)) ⊕ (Int32 × (Nat → Int32) × (Nat → Int32))) := dk_let (x5 + (-1)) (fun x5_21 => some (.inr (x5_21, N_turnSize, N_turns)))
def bX3_layTurn_93 (L_order L_lineOf : Nat → Int32) (S_howMany : Int32) (N_first N_second : Nat → Int32) (N_power x3 : Int32) (st : Int32 × (Nat → Int32) × (Nat → Int32)) : Option (((Nat → Int32) × (Nat → Int32)) ⊕ (Int32 × (Nat → Int32) × (Nat → Int32))) := if st.1 < 0 then some (.inl (st.2.1, st.2.2)) else dk_gd (dk_in st.1 42) (dk_gd (dk_in (L_order st.1.toNatClampNeg) 42) (if (L_lineOf (L_order st.1.toNatClampNeg).toNatClampNeg) = x3 then if ((L_order st.1.toNatClampNeg) &&& 1) = 1 then dk_bnd (fX4_addToTurn st.2.1 st.2.2 x3 ((L_order st.1.toNatClampNeg) >>> ((1 : Int32) &&& 31))) (fun r_20 => jX3_layTurn_141 L_order L_lineOf S_howMany N_first N_second r_20.1 r_20.2 N_power x3 st.1) else jX3_layTurn_141 L_order L_lineOf S_howMany N_first N_second st.2.1 st.2.2 N_power x3 st.1 else jX3_layTurn_141 L_order L_lineOf S_howMany N_first N_second st.2.1 st.2.2 N_power x3 st.1))
def jX3_layTurn_87 (L_order L_lineOf : Nat → Int32) (S_howMany : Int32) (N_first N_second N_turnSize N_turns : Nat → Int32) (N_power x3 x4 : Int32) : Option ((Nat → Int32) × (Nat → Int32)) := dk_let ((x4 - 1)) (fun x5_13 => dk_bnd (dk_loop (bX3_layTurn_93 L_order L_lineOf S_howMany N_first N_second N_power x3) 1000 (x5_13, N_turnSize, N_turns)) (fun r_14 => some (r_14.1, r_14.2)))
def fX3_layTurn (L_order L_lineOf : Nat → Int32) (S_howMany : Int32) (N_first N_second N_turnSize N_turns : Nat → Int32) (N_power x3 : Int32) : Option ((Nat → Int32) × (Nat → Int32)) := dk_let ((2 * S_howMany)) (fun x4_1 => dk_bnd (dk_loop (bX3_layTurn_11 L_order L_lineOf S_howMany N_first N_second N_power x3 x4_1) 1000 (0, N_turnSize, N_turns)) (fun r_2 => dk_bnd (fX4_endsAt N_first N_second N_power x3) (fun r_3 => if r_3 = 0 then jX3_layTurn_87 L_order L_lineOf S_howMany N_first N_second r_2.1 r_2.2 N_power x3 x4_1 else dk_bnd (fX4_addToTurn r_2.1 r_2.2 x3 N_power) (fun r_5 => jX3_layTurn_87 L_order L_lineOf S_howMany N_first N_second r_5.1 r_5.2 N_power x3 x4_1))))
section
variable {p : Program} {l : Launch} {e : Env} {s : State} {m : MethodId} {args : Array Value} {below : List Frame} {meth : Method} {c : Code} {dC : Nat → ClassId} {dI : Nat → Nat → Nat} {cI cJ cZ : ClassId} {A : Nat → Prop} {oL : Nat} {aL : Nat → Nat} {oS : Nat} {aS : Nat → Nat} {oN : Nat} {aN : Nat → Nat} {L_order L_lineOf : Nat → Int32} {L_howMany : Int32} {S_left S_low S_side : Nat → Int32} {S_howMany : Int32} {N_first N_second N_isCut N_wireClaim N_knotClaim N_turnSize N_turns : Nat → Int32} {N_knots N_wires N_power : Int32}
set_option maxHeartbeats 4000000 in
set_option maxRecDepth 100000 in
theorem kX3_layTurn_60 (C : dk_C p s m meth c args cX3_layTurn none 6 RX3 vsX3_layTurn) (hK : va_K (dC, dI) vwCl (dk_ty cI cJ cZ) s) (hA : ∀ q : Nat, s.heap.size ≤ q → A q) {out : (Nat → Int32) × (Nat → Int32)} {x3 x4 x5 : Int32} {y : ((Nat → Int32) × (Nat → Int32)) ⊕ (Int32 × (Nat → Int32) × (Nat → Int32))} (h : jX3_layTurn_60 L_order L_lineOf S_howMany N_first N_second N_turnSize N_turns N_power x3 x4 x5 = some y) (hE : ∀ z : (Nat → Int32) × (Nat → Int32), y = .inl z → ∀ (H : Heap) (locs : List Loc), va_P (dC, dI) vwCl (wX3 oL aL cI cJ cZ L_order L_lineOf L_howMany ++ (wX5 oS aS cI cJ cZ S_left S_low S_side S_howMany ++ (wX4 oN aN cI cJ cZ N_first N_second N_isCut N_wireClaim N_knotClaim z.1 z.2 N_knots N_wires N_power))) H → va_D A (wX3 oL aL cI cJ cZ L_order L_lineOf L_howMany ++ (wX5 oS aS cI cJ cZ S_left S_low S_side S_howMany ++ (wX4 oN aN cI cJ cZ N_first N_second N_isCut N_wireClaim N_knotClaim z.1 z.2 N_knots N_wires N_power))) → va_S A s.heap H locs → ∀ ls : Array Slot, lv_has ls 6 [(0, .ref oL), (1, .ref oS), (2, .ref oN), (3, .int x3), (4, .int x4)] → W p l e rX3_layTurn s m args below meth c H locs 0 0 (MQ below (dk_Qv (dC, dI) (dk_ty cI cJ cZ) (wX3 oL aL cI cJ cZ L_order L_lineOf L_howMany ++ (wX5 oS aS cI cJ cZ S_left S_low S_side S_howMany ++ (wX4 oN aN cI cJ cZ N_first N_second N_isCut N_wireClaim N_knotClaim out.1 out.2 N_knots N_wires N_power))) A) args s 0 0 A) (F0 m 66 ls [])) (hC : ∀ z : Int32 × (Nat → Int32) × (Nat → Int32), y = .inr z → ∀ (H : Heap) (locs : List Loc), va_P (dC, dI) vwCl (wX3 oL aL cI cJ cZ L_order L_lineOf L_howMany ++ (wX5 oS aS cI cJ cZ S_left S_low S_side S_howMany ++ (wX4 oN aN cI cJ cZ N_first N_second N_isCut N_wireClaim N_knotClaim z.2.1 z.2.2 N_knots N_wires N_power))) H → va_D A (wX3 oL aL cI cJ cZ L_order L_lineOf L_howMany ++ (wX5 oS aS cI cJ cZ S_left S_low S_side S_howMany ++ (wX4 oN aN cI cJ cZ N_first N_second N_isCut N_wireClaim N_knotClaim z.2.1 z.2.2 N_knots N_wires N_power))) → va_S A s.heap H locs → ∀ ls : Array Slot, lv_has ls 6 [(0, .ref oL), (1, .ref oS), (2, .ref oN), (3, .int x3), (4, .int x4), (5, .int z.1)] → W p l e rX3_layTurn s m args below meth c H locs 0 0 (MQ below (dk_Qv (dC, dI) (dk_ty cI cJ cZ) (wX3 oL aL cI cJ cZ L_order L_lineOf L_howMany ++ (wX5 oS aS cI cJ cZ S_left S_low S_side S_howMany ++ (wX4 oN aN cI cJ cZ N_first N_second N_isCut N_wireClaim N_knotClaim out.1 out.2 N_knots N_wires N_power))) A) args s 0 0 A) (F0 m 11 ls [])) : ∀ (H : Heap) (locs : List Loc), va_P (dC, dI) vwCl (wX3 oL aL cI cJ cZ L_order L_lineOf L_howMany ++ (wX5 oS aS cI cJ cZ S_left S_low S_side S_howMany ++ (wX4 oN aN cI cJ cZ N_first N_second N_isCut N_wireClaim N_knotClaim N_turnSize N_turns N_knots N_wires N_power))) H → va_D A (wX3 oL aL cI cJ cZ L_order L_lineOf L_howMany ++ (wX5 oS aS cI cJ cZ S_left S_low S_side S_howMany ++ (wX4 oN aN cI cJ cZ N_first N_second N_isCut N_wireClaim N_knotClaim N_turnSize N_turns N_knots N_wires N_power))) → va_S A s.heap H locs → ∀ ls : Array Slot, lv_has ls 6 [(0, .ref oL), (1, .ref oS), (2, .ref oN), (3, .int x3), (4, .int x4), (5, .int x5)] → W p l e rX3_layTurn s m args below meth c H locs 0 0 (MQ below (dk_Qv (dC, dI) (dk_ty cI cJ cZ) (wX3 oL aL cI cJ cZ L_order L_lineOf L_howMany ++ (wX5 oS aS cI cJ cZ S_left S_low S_side S_howMany ++ (wX4 oN aN cI cJ cZ N_first N_second N_isCut N_wireClaim N_knotClaim out.1 out.2 N_knots N_wires N_power))) A) args s 0 0 A) (F0 m 60 ls []) := by
  obtain ⟨hx, hb, hr, hml, hown, hts, hlocks⟩ := id C
  intro H locs hP hD hS ls hl
  unfold jX3_layTurn_60 at h
  obtain ⟨x5_12, ex5_12⟩ : ∃ z : Int32, z = x5 + 1 := ⟨_, rfl⟩
  replace h := dk_let_to ex5_12 h
  refine lv_iinc (v := x5_12) (lv' := [(5, .int x5_12), (0, .ref oL), (1, .ref oS), (2, .ref oN), (3, .int x3), (4, .int x4)]) hx hb dX3_layTurn_60 hl (k := 5) rfl (by rw [ex5_12]; rfl) (by decide) rfl (fun ls hl => ?_)
  refine lv_goto (tgt := 11) hx hb dX3_layTurn_63 (by decide) ?_
  exact hC _ (Option.some.inj h).symm _ _ hP hD hS ls (lv_sub hl [1, 2, 3, 4, 5, 0] rfl)
set_option maxHeartbeats 4000000 in
set_option maxRecDepth 100000 in
theorem tX3_layTurn_11 (C : dk_C p s m meth c args cX3_layTurn none 6 RX3 vsX3_layTurn) (hK : va_K (dC, dI) vwCl (dk_ty cI cJ cZ) s) (hA : ∀ q : Nat, s.heap.size ≤ q → A q) {out : (Nat → Int32) × (Nat → Int32)} {x3 x4 : Int32} {st : Int32 × (Nat → Int32) × (Nat → Int32)} {y : ((Nat → Int32) × (Nat → Int32)) ⊕ (Int32 × (Nat → Int32) × (Nat → Int32))} (h : bX3_layTurn_11 L_order L_lineOf S_howMany N_first N_second N_power x3 x4 st = some y) (hE : ∀ z : (Nat → Int32) × (Nat → Int32), y = .inl z → ∀ (H : Heap) (locs : List Loc), va_P (dC, dI) vwCl (wX3 oL aL cI cJ cZ L_order L_lineOf L_howMany ++ (wX5 oS aS cI cJ cZ S_left S_low S_side S_howMany ++ (wX4 oN aN cI cJ cZ N_first N_second N_isCut N_wireClaim N_knotClaim z.1 z.2 N_knots N_wires N_power))) H → va_D A (wX3 oL aL cI cJ cZ L_order L_lineOf L_howMany ++ (wX5 oS aS cI cJ cZ S_left S_low S_side S_howMany ++ (wX4 oN aN cI cJ cZ N_first N_second N_isCut N_wireClaim N_knotClaim z.1 z.2 N_knots N_wires N_power))) → va_S A s.heap H locs → ∀ ls : Array Slot, lv_has ls 6 [(0, .ref oL), (1, .ref oS), (2, .ref oN), (3, .int x3), (4, .int x4)] → W p l e rX3_layTurn s m args below meth c H locs 0 0 (MQ below (dk_Qv (dC, dI) (dk_ty cI cJ cZ) (wX3 oL aL cI cJ cZ L_order L_lineOf L_howMany ++ (wX5 oS aS cI cJ cZ S_left S_low S_side S_howMany ++ (wX4 oN aN cI cJ cZ N_first N_second N_isCut N_wireClaim N_knotClaim out.1 out.2 N_knots N_wires N_power))) A) args s 0 0 A) (F0 m 66 ls [])) (hC : ∀ z : Int32 × (Nat → Int32) × (Nat → Int32), y = .inr z → ∀ (H : Heap) (locs : List Loc), va_P (dC, dI) vwCl (wX3 oL aL cI cJ cZ L_order L_lineOf L_howMany ++ (wX5 oS aS cI cJ cZ S_left S_low S_side S_howMany ++ (wX4 oN aN cI cJ cZ N_first N_second N_isCut N_wireClaim N_knotClaim z.2.1 z.2.2 N_knots N_wires N_power))) H → va_D A (wX3 oL aL cI cJ cZ L_order L_lineOf L_howMany ++ (wX5 oS aS cI cJ cZ S_left S_low S_side S_howMany ++ (wX4 oN aN cI cJ cZ N_first N_second N_isCut N_wireClaim N_knotClaim z.2.1 z.2.2 N_knots N_wires N_power))) → va_S A s.heap H locs → ∀ ls : Array Slot, lv_has ls 6 [(0, .ref oL), (1, .ref oS), (2, .ref oN), (3, .int x3), (4, .int x4), (5, .int z.1)] → W p l e rX3_layTurn s m args below meth c H locs 0 0 (MQ below (dk_Qv (dC, dI) (dk_ty cI cJ cZ) (wX3 oL aL cI cJ cZ L_order L_lineOf L_howMany ++ (wX5 oS aS cI cJ cZ S_left S_low S_side S_howMany ++ (wX4 oN aN cI cJ cZ N_first N_second N_isCut N_wireClaim N_knotClaim out.1 out.2 N_knots N_wires N_power))) A) args s 0 0 A) (F0 m 11 ls [])) : ∀ (H : Heap) (locs : List Loc), va_P (dC, dI) vwCl (wX3 oL aL cI cJ cZ L_order L_lineOf L_howMany ++ (wX5 oS aS cI cJ cZ S_left S_low S_side S_howMany ++ (wX4 oN aN cI cJ cZ N_first N_second N_isCut N_wireClaim N_knotClaim st.2.1 st.2.2 N_knots N_wires N_power))) H → va_D A (wX3 oL aL cI cJ cZ L_order L_lineOf L_howMany ++ (wX5 oS aS cI cJ cZ S_left S_low S_side S_howMany ++ (wX4 oN aN cI cJ cZ N_first N_second N_isCut N_wireClaim N_knotClaim st.2.1 st.2.2 N_knots N_wires N_power))) → va_S A s.heap H locs → ∀ ls : Array Slot, lv_has ls 6 [(0, .ref oL), (1, .ref oS), (2, .ref oN), (3, .int x3), (4, .int x4), (5, .int st.1)] → W p l e rX3_layTurn s m args below meth c H locs 0 0 (MQ below (dk_Qv (dC, dI) (dk_ty cI cJ cZ) (wX3 oL aL cI cJ cZ L_order L_lineOf L_howMany ++ (wX5 oS aS cI cJ cZ S_left S_low S_side S_howMany ++ (wX4 oN aN cI cJ cZ N_first N_second N_isCut N_wireClaim N_knotClaim out.1 out.2 N_knots N_wires N_power))) A) args s 0 0 A) (F0 m 11 ls []) := by
  obtain ⟨hx, hb, hr, hml, hown, hts, hlocks⟩ := id C
  intro H locs hP hD hS ls hl
  unfold bX3_layTurn_11 at h
  refine lv_iload hx hb dX3_layTurn_11 (lv_at hl 5 rfl) ?_
  refine lv_iload hx hb dX3_layTurn_13 (lv_at hl 4 rfl) ?_
  refine lv_icmp_ge (tgt := 66) hx hb dX3_layTurn_15 (by decide) (fun c_6 => ?_) (fun c_6 => ?_)
  · replace h := dk_it c_6 h
    exact hE _ (Option.some.inj h).symm _ _ hP hD hS ls (lv_sub hl [0, 1, 2, 3, 4] rfl)
  · replace h := dk_ie c_6 h
    refine lv_aload_n hx hb dX3_layTurn_18 rfl (lv_at hl 0 rfl) ?_
    refine va_get (D := (dC, dI)) (ci := 3) (v := .ref (aL 1)) (C := RX3) (T := TX3) (N := 3) hx hb hts qX3_layTurn_X3 hown hK hP 0 rfl rfl 1 (by decide) (hts _ qX3_layTurn_f15) (fun _ h9 => h9) rfl dX3_layTurn_19 ?_
    refine lv_aload_n hx hb dX3_layTurn_22 rfl (lv_at hl 0 rfl) ?_
    refine va_get (D := (dC, dI)) (ci := 3) (v := .ref (aL 0)) (C := RX3) (T := TX3) (N := 3) hx hb hts qX3_layTurn_X3 hown hK hP 0 rfl rfl 0 (by decide) (hts _ qX3_layTurn_f9) (fun _ h9 => h9) rfl dX3_layTurn_23 ?_
    refine lv_iload hx hb dX3_layTurn_26 (lv_at hl 5 rfl) ?_
    obtain ⟨g_7, h⟩ := dk_gd_to h
    have g_7 := dk_in_to g_7
    refine va_iald hx hb hK hP 1 0 rfl rfl g_7 dX3_layTurn_28 ?_
    obtain ⟨g_8, h⟩ := dk_gd_to h
    have g_8 := dk_in_to g_8
    refine va_iald hx hb hK hP 2 0 rfl rfl g_8 dX3_layTurn_29 ?_
    refine lv_iload_n hx hb dX3_layTurn_30 rfl (lv_at hl 3 rfl) ?_
    refine lv_icmp_ne (tgt := 60) hx hb dX3_layTurn_31 (by decide) (fun c_9 => ?_) (fun c_9 => ?_)
    · replace h := dk_ie c_9 h
      exact kX3_layTurn_60 C hK hA h hE hC _ _ hP hD hS ls (lv_sub hl [0, 1, 2, 3, 4, 5] rfl)
    · replace h := dk_it c_9 h
      refine lv_aload_n hx hb dX3_layTurn_34 rfl (lv_at hl 0 rfl) ?_
      refine va_get (D := (dC, dI)) (ci := 3) (v := .ref (aL 0)) (C := RX3) (T := TX3) (N := 3) hx hb hts qX3_layTurn_X3 hown hK hP 0 rfl rfl 0 (by decide) (hts _ qX3_layTurn_f9) (fun _ h9 => h9) rfl dX3_layTurn_35 ?_
      refine lv_iload hx hb dX3_layTurn_38 (lv_at hl 5 rfl) ?_
      refine va_iald hx hb hK hP 1 0 rfl rfl g_7 dX3_layTurn_40 ?_
      refine lv_iconst (v := 1) hx hb dX3_layTurn_41 (by decide) ?_
      refine lv_iand hx hb dX3_layTurn_42 ?_
      refine lv_if_ne (tgt := 60) hx hb dX3_layTurn_43 (by decide) (fun c_10 => ?_) (fun c_10 => ?_)
      · replace h := dk_ie c_10 h
        exact kX3_layTurn_60 C hK hA h hE hC _ _ hP hD hS ls (lv_sub hl [0, 1, 2, 3, 4, 5] rfl)
      · replace h := dk_it c_10 h
        refine lv_aload_n hx hb dX3_layTurn_46 rfl (lv_at hl 2 rfl) ?_
        refine lv_iload_n hx hb dX3_layTurn_47 rfl (lv_at hl 3 rfl) ?_
        refine lv_aload_n hx hb dX3_layTurn_48 rfl (lv_at hl 0 rfl) ?_
        refine va_get (D := (dC, dI)) (ci := 3) (v := .ref (aL 0)) (C := RX3) (T := TX3) (N := 3) hx hb hts qX3_layTurn_X3 hown hK hP 0 rfl rfl 0 (by decide) (hts _ qX3_layTurn_f9) (fun _ h9 => h9) rfl dX3_layTurn_49 ?_
        refine lv_iload hx hb dX3_layTurn_52 (lv_at hl 5 rfl) ?_
        refine va_iald hx hb hK hP 1 0 rfl rfl g_7 dX3_layTurn_54 ?_
        refine lv_iconst (v := 1) hx hb dX3_layTurn_55 (by decide) ?_
        refine lv_ishr hx hb dX3_layTurn_56 ?_
        obtain ⟨r_11, hcr_11, h⟩ := dk_bnd_to h
        refine dk_cVv (b := oN) (As := [.int x3, .int ((L_order st.1.toNatClampNeg) >>> ((1 : Int32) &&& 31))]) (rest := []) (wc := (wX4 oN aN cI cJ cZ N_first N_second N_isCut N_wireClaim N_knotClaim st.2.1 st.2.2 N_knots N_wires N_power)) (wc' := (wX4 oN aN cI cJ cZ N_first N_second N_isCut N_wireClaim N_knotClaim r_11.1 r_11.2 N_knots N_wires N_power)) (wr := (wX3 oL aL cI cJ cZ L_order L_lineOf L_howMany ++ (wX5 oS aS cI cJ cZ S_left S_low S_side S_howMany))) (ws' := (wX3 oL aL cI cJ cZ L_order L_lineOf L_howMany ++ (wX5 oS aS cI cJ cZ S_left S_low S_side S_howMany ++ (wX4 oN aN cI cJ cZ N_first N_second N_isCut N_wireClaim N_knotClaim r_11.1 r_11.2 N_knots N_wires N_power)))) C hK hP hD hS hA (mX4_addToTurn l dC dI cI cJ cZ hcr_11 _) (cwV 2 hts gvX3_layTurn_X4_addToTurn rfl rfl rfl (by decide +kernel) ⟨Nat.le_of_ble_eq_true rfl, Nat.le_of_ble_eq_true rfl⟩) [7, 8, 9, 10, 11, 12, 13, 14] [0, 1, 2, 3, 4, 5, 6] [0, 1, 2, 3, 4, 5, 6, 7, 8, 9, 10, 11, 12, 13, 14] rfl (by decide) rfl (by decide) (by decide) rfl (by decide) 0 4 rfl rfl rfl hl.1 rfl (Nat.le_of_ble_eq_true rfl) ⟨Nat.le_of_ble_eq_true rfl, Nat.le_of_ble_eq_true rfl⟩ dX3_layTurn_57 (fun H locs hP hD hS => ?_)
        exact kX3_layTurn_60 C hK hA h hE hC _ _ hP hD hS ls (lv_sub hl [0, 1, 2, 3, 4, 5] rfl)
set_option maxHeartbeats 4000000 in
set_option maxRecDepth 100000 in
theorem lX3_layTurn_11 (C : dk_C p s m meth c args cX3_layTurn none 6 RX3 vsX3_layTurn) (hK : va_K (dC, dI) vwCl (dk_ty cI cJ cZ) s) (hA : ∀ q : Nat, s.heap.size ≤ q → A q) {out : (Nat → Int32) × (Nat → Int32)} {x3 x4 : Int32} {n : Nat} {st : Int32 × (Nat → Int32) × (Nat → Int32)} {r : (Nat → Int32) × (Nat → Int32)} (h : dk_loop (bX3_layTurn_11 L_order L_lineOf S_howMany N_first N_second N_power x3 x4) n st = some r) (hE : ∀ (H : Heap) (locs : List Loc), va_P (dC, dI) vwCl (wX3 oL aL cI cJ cZ L_order L_lineOf L_howMany ++ (wX5 oS aS cI cJ cZ S_left S_low S_side S_howMany ++ (wX4 oN aN cI cJ cZ N_first N_second N_isCut N_wireClaim N_knotClaim r.1 r.2 N_knots N_wires N_power))) H → va_D A (wX3 oL aL cI cJ cZ L_order L_lineOf L_howMany ++ (wX5 oS aS cI cJ cZ S_left S_low S_side S_howMany ++ (wX4 oN aN cI cJ cZ N_first N_second N_isCut N_wireClaim N_knotClaim r.1 r.2 N_knots N_wires N_power))) → va_S A s.heap H locs → ∀ ls : Array Slot, lv_has ls 6 [(0, .ref oL), (1, .ref oS), (2, .ref oN), (3, .int x3), (4, .int x4)] → W p l e rX3_layTurn s m args below meth c H locs 0 0 (MQ below (dk_Qv (dC, dI) (dk_ty cI cJ cZ) (wX3 oL aL cI cJ cZ L_order L_lineOf L_howMany ++ (wX5 oS aS cI cJ cZ S_left S_low S_side S_howMany ++ (wX4 oN aN cI cJ cZ N_first N_second N_isCut N_wireClaim N_knotClaim out.1 out.2 N_knots N_wires N_power))) A) args s 0 0 A) (F0 m 66 ls [])) : ∀ (H : Heap) (locs : List Loc), va_P (dC, dI) vwCl (wX3 oL aL cI cJ cZ L_order L_lineOf L_howMany ++ (wX5 oS aS cI cJ cZ S_left S_low S_side S_howMany ++ (wX4 oN aN cI cJ cZ N_first N_second N_isCut N_wireClaim N_knotClaim st.2.1 st.2.2 N_knots N_wires N_power))) H → va_D A (wX3 oL aL cI cJ cZ L_order L_lineOf L_howMany ++ (wX5 oS aS cI cJ cZ S_left S_low S_side S_howMany ++ (wX4 oN aN cI cJ cZ N_first N_second N_isCut N_wireClaim N_knotClaim st.2.1 st.2.2 N_knots N_wires N_power))) → va_S A s.heap H locs → ∀ ls : Array Slot, lv_has ls 6 [(0, .ref oL), (1, .ref oS), (2, .ref oN), (3, .int x3), (4, .int x4), (5, .int st.1)] → W p l e rX3_layTurn s m args below meth c H locs 0 0 (MQ below (dk_Qv (dC, dI) (dk_ty cI cJ cZ) (wX3 oL aL cI cJ cZ L_order L_lineOf L_howMany ++ (wX5 oS aS cI cJ cZ S_left S_low S_side S_howMany ++ (wX4 oN aN cI cJ cZ N_first N_second N_isCut N_wireClaim N_knotClaim out.1 out.2 N_knots N_wires N_power))) A) args s 0 0 A) (F0 m 11 ls []) :=
  dk_loopW (P := fun st => ∀ (H : Heap) (locs : List Loc), va_P (dC, dI) vwCl (wX3 oL aL cI cJ cZ L_order L_lineOf L_howMany ++ (wX5 oS aS cI cJ cZ S_left S_low S_side S_howMany ++ (wX4 oN aN cI cJ cZ N_first N_second N_isCut N_wireClaim N_knotClaim st.2.1 st.2.2 N_knots N_wires N_power))) H → va_D A (wX3 oL aL cI cJ cZ L_order L_lineOf L_howMany ++ (wX5 oS aS cI cJ cZ S_left S_low S_side S_howMany ++ (wX4 oN aN cI cJ cZ N_first N_second N_isCut N_wireClaim N_knotClaim st.2.1 st.2.2 N_knots N_wires N_power))) → va_S A s.heap H locs → ∀ ls : Array Slot, lv_has ls 6 [(0, .ref oL), (1, .ref oS), (2, .ref oN), (3, .int x3), (4, .int x4), (5, .int st.1)] → W p l e rX3_layTurn s m args below meth c H locs 0 0 (MQ below (dk_Qv (dC, dI) (dk_ty cI cJ cZ) (wX3 oL aL cI cJ cZ L_order L_lineOf L_howMany ++ (wX5 oS aS cI cJ cZ S_left S_low S_side S_howMany ++ (wX4 oN aN cI cJ cZ N_first N_second N_isCut N_wireClaim N_knotClaim out.1 out.2 N_knots N_wires N_power))) A) args s 0 0 A) (F0 m 11 ls [])) (K := fun r => ∀ (H : Heap) (locs : List Loc), va_P (dC, dI) vwCl (wX3 oL aL cI cJ cZ L_order L_lineOf L_howMany ++ (wX5 oS aS cI cJ cZ S_left S_low S_side S_howMany ++ (wX4 oN aN cI cJ cZ N_first N_second N_isCut N_wireClaim N_knotClaim r.1 r.2 N_knots N_wires N_power))) H → va_D A (wX3 oL aL cI cJ cZ L_order L_lineOf L_howMany ++ (wX5 oS aS cI cJ cZ S_left S_low S_side S_howMany ++ (wX4 oN aN cI cJ cZ N_first N_second N_isCut N_wireClaim N_knotClaim r.1 r.2 N_knots N_wires N_power))) → va_S A s.heap H locs → ∀ ls : Array Slot, lv_has ls 6 [(0, .ref oL), (1, .ref oS), (2, .ref oN), (3, .int x3), (4, .int x4)] → W p l e rX3_layTurn s m args below meth c H locs 0 0 (MQ below (dk_Qv (dC, dI) (dk_ty cI cJ cZ) (wX3 oL aL cI cJ cZ L_order L_lineOf L_howMany ++ (wX5 oS aS cI cJ cZ S_left S_low S_side S_howMany ++ (wX4 oN aN cI cJ cZ N_first N_second N_isCut N_wireClaim N_knotClaim out.1 out.2 N_knots N_wires N_power))) A) args s 0 0 A) (F0 m 66 ls [])) (fun st y hy k1 k2 => tX3_layTurn_11 C hK hA hy k1 k2) n st r h hE
set_option maxHeartbeats 4000000 in
set_option maxRecDepth 100000 in
theorem kX3_layTurn_141 (C : dk_C p s m meth c args cX3_layTurn none 6 RX3 vsX3_layTurn) (hK : va_K (dC, dI) vwCl (dk_ty cI cJ cZ) s) (hA : ∀ q : Nat, s.heap.size ≤ q → A q) {out : (Nat → Int32) × (Nat → Int32)} {x3 x5 : Int32} {y : ((Nat → Int32) × (Nat → Int32)) ⊕ (Int32 × (Nat → Int32) × (Nat → Int32))} (h : jX3_layTurn_141 L_order L_lineOf S_howMany N_first N_second N_turnSize N_turns N_power x3 x5 = some y) (hE : ∀ z : (Nat → Int32) × (Nat → Int32), y = .inl z → ∀ (H : Heap) (locs : List Loc), va_P (dC, dI) vwCl (wX3 oL aL cI cJ cZ L_order L_lineOf L_howMany ++ (wX5 oS aS cI cJ cZ S_left S_low S_side S_howMany ++ (wX4 oN aN cI cJ cZ N_first N_second N_isCut N_wireClaim N_knotClaim z.1 z.2 N_knots N_wires N_power))) H → va_D A (wX3 oL aL cI cJ cZ L_order L_lineOf L_howMany ++ (wX5 oS aS cI cJ cZ S_left S_low S_side S_howMany ++ (wX4 oN aN cI cJ cZ N_first N_second N_isCut N_wireClaim N_knotClaim z.1 z.2 N_knots N_wires N_power))) → va_S A s.heap H locs → ∀ ls : Array Slot, lv_has ls 6 [(0, .ref oL), (1, .ref oS), (2, .ref oN)] → W p l e rX3_layTurn s m args below meth c H locs 0 0 (MQ below (dk_Qv (dC, dI) (dk_ty cI cJ cZ) (wX3 oL aL cI cJ cZ L_order L_lineOf L_howMany ++ (wX5 oS aS cI cJ cZ S_left S_low S_side S_howMany ++ (wX4 oN aN cI cJ cZ N_first N_second N_isCut N_wireClaim N_knotClaim out.1 out.2 N_knots N_wires N_power))) A) args s 0 0 A) (F0 m 147 ls [])) (hC : ∀ z : Int32 × (Nat → Int32) × (Nat → Int32), y = .inr z → ∀ (H : Heap) (locs : List Loc), va_P (dC, dI) vwCl (wX3 oL aL cI cJ cZ L_order L_lineOf L_howMany ++ (wX5 oS aS cI cJ cZ S_left S_low S_side S_howMany ++ (wX4 oN aN cI cJ cZ N_first N_second N_isCut N_wireClaim N_knotClaim z.2.1 z.2.2 N_knots N_wires N_power))) H → va_D A (wX3 oL aL cI cJ cZ L_order L_lineOf L_howMany ++ (wX5 oS aS cI cJ cZ S_left S_low S_side S_howMany ++ (wX4 oN aN cI cJ cZ N_first N_second N_isCut N_wireClaim N_knotClaim z.2.1 z.2.2 N_knots N_wires N_power))) → va_S A s.heap H locs → ∀ ls : Array Slot, lv_has ls 6 [(0, .ref oL), (1, .ref oS), (2, .ref oN), (3, .int x3), (5, .int z.1)] → W p l e rX3_layTurn s m args below meth c H locs 0 0 (MQ below (dk_Qv (dC, dI) (dk_ty cI cJ cZ) (wX3 oL aL cI cJ cZ L_order L_lineOf L_howMany ++ (wX5 oS aS cI cJ cZ S_left S_low S_side S_howMany ++ (wX4 oN aN cI cJ cZ N_first N_second N_isCut N_wireClaim N_knotClaim out.1 out.2 N_knots N_wires N_power))) A) args s 0 0 A) (F0 m 93 ls [])) : ∀ (H : Heap) (locs : List Loc), va_P (dC, dI) vwCl (wX3 oL aL cI cJ cZ L_order L_lineOf L_howMany ++ (wX5 oS aS cI cJ cZ S_left S_low S_side S_howMany ++ (wX4 oN aN cI cJ cZ N_first N_second N_isCut N_wireClaim N_knotClaim N_turnSize N_turns N_knots N_wires N_power))) H → va_D A (wX3 oL aL cI cJ cZ L_order L_lineOf L_howMany ++ (wX5 oS aS cI cJ cZ S_left S_low S_side S_howMany ++ (wX4 oN aN cI cJ cZ N_first N_second N_isCut N_wireClaim N_knotClaim N_turnSize N_turns N_knots N_wires N_power))) → va_S A s.heap H locs → ∀ ls : Array Slot, lv_has ls 6 [(0, .ref oL), (1, .ref oS), (2, .ref oN), (3, .int x3), (5, .int x5)] → W p l e rX3_layTurn s m args below meth c H locs 0 0 (MQ below (dk_Qv (dC, dI) (dk_ty cI cJ cZ) (wX3 oL aL cI cJ cZ L_order L_lineOf L_howMany ++ (wX5 oS aS cI cJ cZ S_left S_low S_side S_howMany ++ (wX4 oN aN cI cJ cZ N_first N_second N_isCut N_wireClaim N_knotClaim out.1 out.2 N_knots N_wires N_power))) A) args s 0 0 A) (F0 m 141 ls []) := by
  obtain ⟨hx, hb, hr, hml, hown, hts, hlocks⟩ := id C
  intro H locs hP hD hS ls hl
  unfold jX3_layTurn_141 at h
  obtain ⟨x5_21, ex5_21⟩ : ∃ z : Int32, z = x5 + (-1) := ⟨_, rfl⟩
  replace h := dk_let_to ex5_21 h
  refine lv_iinc (v := x5_21) (lv' := [(5, .int x5_21), (0, .ref oL), (1, .ref oS), (2, .ref oN), (3, .int x3)]) hx hb dX3_layTurn_141 hl (k := 4) rfl (by rw [ex5_21]; rfl) (by decide) rfl (fun ls hl => ?_)
  refine lv_goto (tgt := 93) hx hb dX3_layTurn_144 (by decide) ?_
  exact hC _ (Option.some.inj h).symm _ _ hP hD hS ls (lv_sub hl [1, 2, 3, 4, 0] rfl)
set_option maxHeartbeats 4000000 in
set_option maxRecDepth 100000 in
theorem tX3_layTurn_93 (C : dk_C p s m meth c args cX3_layTurn none 6 RX3 vsX3_layTurn) (hK : va_K (dC, dI) vwCl (dk_ty cI cJ cZ) s) (hA : ∀ q : Nat, s.heap.size ≤ q → A q) {out : (Nat → Int32) × (Nat → Int32)} {x3 : Int32} {st : Int32 × (Nat → Int32) × (Nat → Int32)} {y : ((Nat → Int32) × (Nat → Int32)) ⊕ (Int32 × (Nat → Int32) × (Nat → Int32))} (h : bX3_layTurn_93 L_order L_lineOf S_howMany N_first N_second N_power x3 st = some y) (hE : ∀ z : (Nat → Int32) × (Nat → Int32), y = .inl z → ∀ (H : Heap) (locs : List Loc), va_P (dC, dI) vwCl (wX3 oL aL cI cJ cZ L_order L_lineOf L_howMany ++ (wX5 oS aS cI cJ cZ S_left S_low S_side S_howMany ++ (wX4 oN aN cI cJ cZ N_first N_second N_isCut N_wireClaim N_knotClaim z.1 z.2 N_knots N_wires N_power))) H → va_D A (wX3 oL aL cI cJ cZ L_order L_lineOf L_howMany ++ (wX5 oS aS cI cJ cZ S_left S_low S_side S_howMany ++ (wX4 oN aN cI cJ cZ N_first N_second N_isCut N_wireClaim N_knotClaim z.1 z.2 N_knots N_wires N_power))) → va_S A s.heap H locs → ∀ ls : Array Slot, lv_has ls 6 [(0, .ref oL), (1, .ref oS), (2, .ref oN)] → W p l e rX3_layTurn s m args below meth c H locs 0 0 (MQ below (dk_Qv (dC, dI) (dk_ty cI cJ cZ) (wX3 oL aL cI cJ cZ L_order L_lineOf L_howMany ++ (wX5 oS aS cI cJ cZ S_left S_low S_side S_howMany ++ (wX4 oN aN cI cJ cZ N_first N_second N_isCut N_wireClaim N_knotClaim out.1 out.2 N_knots N_wires N_power))) A) args s 0 0 A) (F0 m 147 ls [])) (hC : ∀ z : Int32 × (Nat → Int32) × (Nat → Int32), y = .inr z → ∀ (H : Heap) (locs : List Loc), va_P (dC, dI) vwCl (wX3 oL aL cI cJ cZ L_order L_lineOf L_howMany ++ (wX5 oS aS cI cJ cZ S_left S_low S_side S_howMany ++ (wX4 oN aN cI cJ cZ N_first N_second N_isCut N_wireClaim N_knotClaim z.2.1 z.2.2 N_knots N_wires N_power))) H → va_D A (wX3 oL aL cI cJ cZ L_order L_lineOf L_howMany ++ (wX5 oS aS cI cJ cZ S_left S_low S_side S_howMany ++ (wX4 oN aN cI cJ cZ N_first N_second N_isCut N_wireClaim N_knotClaim z.2.1 z.2.2 N_knots N_wires N_power))) → va_S A s.heap H locs → ∀ ls : Array Slot, lv_has ls 6 [(0, .ref oL), (1, .ref oS), (2, .ref oN), (3, .int x3), (5, .int z.1)] → W p l e rX3_layTurn s m args below meth c H locs 0 0 (MQ below (dk_Qv (dC, dI) (dk_ty cI cJ cZ) (wX3 oL aL cI cJ cZ L_order L_lineOf L_howMany ++ (wX5 oS aS cI cJ cZ S_left S_low S_side S_howMany ++ (wX4 oN aN cI cJ cZ N_first N_second N_isCut N_wireClaim N_knotClaim out.1 out.2 N_knots N_wires N_power))) A) args s 0 0 A) (F0 m 93 ls [])) : ∀ (H : Heap) (locs : List Loc), va_P (dC, dI) vwCl (wX3 oL aL cI cJ cZ L_order L_lineOf L_howMany ++ (wX5 oS aS cI cJ cZ S_left S_low S_side S_howMany ++ (wX4 oN aN cI cJ cZ N_first N_second N_isCut N_wireClaim N_knotClaim st.2.1 st.2.2 N_knots N_wires N_power))) H → va_D A (wX3 oL aL cI cJ cZ L_order L_lineOf L_howMany ++ (wX5 oS aS cI cJ cZ S_left S_low S_side S_howMany ++ (wX4 oN aN cI cJ cZ N_first N_second N_isCut N_wireClaim N_knotClaim st.2.1 st.2.2 N_knots N_wires N_power))) → va_S A s.heap H locs → ∀ ls : Array Slot, lv_has ls 6 [(0, .ref oL), (1, .ref oS), (2, .ref oN), (3, .int x3), (5, .int st.1)] → W p l e rX3_layTurn s m args below meth c H locs 0 0 (MQ below (dk_Qv (dC, dI) (dk_ty cI cJ cZ) (wX3 oL aL cI cJ cZ L_order L_lineOf L_howMany ++ (wX5 oS aS cI cJ cZ S_left S_low S_side S_howMany ++ (wX4 oN aN cI cJ cZ N_first N_second N_isCut N_wireClaim N_knotClaim out.1 out.2 N_knots N_wires N_power))) A) args s 0 0 A) (F0 m 93 ls []) := by
  obtain ⟨hx, hb, hr, hml, hown, hts, hlocks⟩ := id C
  intro H locs hP hD hS ls hl
  unfold bX3_layTurn_93 at h
  refine lv_iload hx hb dX3_layTurn_93 (lv_at hl 4 rfl) ?_
  refine lv_if_lt (tgt := 147) hx hb dX3_layTurn_95 (by decide) (fun c_15 => ?_) (fun c_15 => ?_)
  · replace h := dk_it c_15 h
    exact hE _ (Option.some.inj h).symm _ _ hP hD hS ls (lv_sub hl [0, 1, 2] rfl)
  · replace h := dk_ie c_15 h
    refine lv_aload_n hx hb dX3_layTurn_98 rfl (lv_at hl 0 rfl) ?_
    refine va_get (D := (dC, dI)) (ci := 3) (v := .ref (aL 1)) (C := RX3) (T := TX3) (N := 3) hx hb hts qX3_layTurn_X3 hown hK hP 0 rfl rfl 1 (by decide) (hts _ qX3_layTurn_f15) (fun _ h9 => h9) rfl dX3_layTurn_99 ?_
    refine lv_aload_n hx hb dX3_layTurn_102 rfl (lv_at hl 0 rfl) ?_
    refine va_get (D := (dC, dI)) (ci := 3) (v := .ref (aL 0)) (C := RX3) (T := TX3) (N := 3) hx hb hts qX3_layTurn_X3 hown hK hP 0 rfl rfl 0 (by decide) (hts _ qX3_layTurn_f9) (fun _ h9 => h9) rfl dX3_layTurn_103 ?_
    refine lv_iload hx hb dX3_layTurn_106 (lv_at hl 4 rfl) ?_
    obtain ⟨g_16, h⟩ := dk_gd_to h
    have g_16 := dk_in_to g_16
    refine va_iald hx hb hK hP 1 0 rfl rfl g_16 dX3_layTurn_108 ?_
    obtain ⟨g_17, h⟩ := dk_gd_to h
    have g_17 := dk_in_to g_17
    refine va_iald hx hb hK hP 2 0 rfl rfl g_17 dX3_layTurn_109 ?_
    refine lv_iload_n hx hb dX3_layTurn_110 rfl (lv_at hl 3 rfl) ?_
    refine lv_icmp_ne (tgt := 141) hx hb dX3_layTurn_111 (by decide) (fun c_18 => ?_) (fun c_18 => ?_)
    · replace h := dk_ie c_18 h
      exact kX3_layTurn_141 C hK hA h hE hC _ _ hP hD hS ls (lv_sub hl [0, 1, 2, 3, 4] rfl)
    · replace h := dk_it c_18 h
      refine lv_aload_n hx hb dX3_layTurn_114 rfl (lv_at hl 0 rfl) ?_
      refine va_get (D := (dC, dI)) (ci := 3) (v := .ref (aL 0)) (C := RX3) (T := TX3) (N := 3) hx hb hts qX3_layTurn_X3 hown hK hP 0 rfl rfl 0 (by decide) (hts _ qX3_layTurn_f9) (fun _ h9 => h9) rfl dX3_layTurn_115 ?_
      refine lv_iload hx hb dX3_layTurn_118 (lv_at hl 4 rfl) ?_
      refine va_iald hx hb hK hP 1 0 rfl rfl g_16 dX3_layTurn_120 ?_
      refine lv_iconst (v := 1) hx hb dX3_layTurn_121 (by decide) ?_
      refine lv_iand hx hb dX3_layTurn_122 ?_
      refine lv_iconst (v := 1) hx hb dX3_layTurn_123 (by decide) ?_
      refine lv_icmp_ne (tgt := 141) hx hb dX3_layTurn_124 (by decide) (fun c_19 => ?_) (fun c_19 => ?_)
      · replace h := dk_ie c_19 h
        exact kX3_layTurn_141 C hK hA h hE hC _ _ hP hD hS ls (lv_sub hl [0, 1, 2, 3, 4] rfl)
      · replace h := dk_it c_19 h
        refine lv_aload_n hx hb dX3_layTurn_127 rfl (lv_at hl 2 rfl) ?_
        refine lv_iload_n hx hb dX3_layTurn_128 rfl (lv_at hl 3 rfl) ?_
        refine lv_aload_n hx hb dX3_layTurn_129 rfl (lv_at hl 0 rfl) ?_
        refine va_get (D := (dC, dI)) (ci := 3) (v := .ref (aL 0)) (C := RX3) (T := TX3) (N := 3) hx hb hts qX3_layTurn_X3 hown hK hP 0 rfl rfl 0 (by decide) (hts _ qX3_layTurn_f9) (fun _ h9 => h9) rfl dX3_layTurn_130 ?_
        refine lv_iload hx hb dX3_layTurn_133 (lv_at hl 4 rfl) ?_
        refine va_iald hx hb hK hP 1 0 rfl rfl g_16 dX3_layTurn_135 ?_
        refine lv_iconst (v := 1) hx hb dX3_layTurn_136 (by decide) ?_
        refine lv_ishr hx hb dX3_layTurn_137 ?_
        obtain ⟨r_20, hcr_20, h⟩ := dk_bnd_to h
        refine dk_cVv (b := oN) (As := [.int x3, .int ((L_order st.1.toNatClampNeg) >>> ((1 : Int32) &&& 31))]) (rest := []) (wc := (wX4 oN aN cI cJ cZ N_first N_second N_isCut N_wireClaim N_knotClaim st.2.1 st.2.2 N_knots N_wires N_power)) (wc' := (wX4 oN aN cI cJ cZ N_first N_second N_isCut N_wireClaim N_knotClaim r_20.1 r_20.2 N_knots N_wires N_power)) (wr := (wX3 oL aL cI cJ cZ L_order L_lineOf L_howMany ++ (wX5 oS aS cI cJ cZ S_left S_low S_side S_howMany))) (ws' := (wX3 oL aL cI cJ cZ L_order L_lineOf L_howMany ++ (wX5 oS aS cI cJ cZ S_left S_low S_side S_howMany ++ (wX4 oN aN cI cJ cZ N_first N_second N_isCut N_wireClaim N_knotClaim r_20.1 r_20.2 N_knots N_wires N_power)))) C hK hP hD hS hA (mX4_addToTurn l dC dI cI cJ cZ hcr_20 _) (cwV 2 hts gvX3_layTurn_X4_addToTurn rfl rfl rfl (by decide +kernel) ⟨Nat.le_of_ble_eq_true rfl, Nat.le_of_ble_eq_true rfl⟩) [7, 8, 9, 10, 11, 12, 13, 14] [0, 1, 2, 3, 4, 5, 6] [0, 1, 2, 3, 4, 5, 6, 7, 8, 9, 10, 11, 12, 13, 14] rfl (by decide) rfl (by decide) (by decide) rfl (by decide) 0 4 rfl rfl rfl hl.1 rfl (Nat.le_of_ble_eq_true rfl) ⟨Nat.le_of_ble_eq_true rfl, Nat.le_of_ble_eq_true rfl⟩ dX3_layTurn_138 (fun H locs hP hD hS => ?_)
        exact kX3_layTurn_141 C hK hA h hE hC _ _ hP hD hS ls (lv_sub hl [0, 1, 2, 3, 4] rfl)
set_option maxHeartbeats 4000000 in
set_option maxRecDepth 100000 in
theorem lX3_layTurn_93 (C : dk_C p s m meth c args cX3_layTurn none 6 RX3 vsX3_layTurn) (hK : va_K (dC, dI) vwCl (dk_ty cI cJ cZ) s) (hA : ∀ q : Nat, s.heap.size ≤ q → A q) {out : (Nat → Int32) × (Nat → Int32)} {x3 : Int32} {n : Nat} {st : Int32 × (Nat → Int32) × (Nat → Int32)} {r : (Nat → Int32) × (Nat → Int32)} (h : dk_loop (bX3_layTurn_93 L_order L_lineOf S_howMany N_first N_second N_power x3) n st = some r) (hE : ∀ (H : Heap) (locs : List Loc), va_P (dC, dI) vwCl (wX3 oL aL cI cJ cZ L_order L_lineOf L_howMany ++ (wX5 oS aS cI cJ cZ S_left S_low S_side S_howMany ++ (wX4 oN aN cI cJ cZ N_first N_second N_isCut N_wireClaim N_knotClaim r.1 r.2 N_knots N_wires N_power))) H → va_D A (wX3 oL aL cI cJ cZ L_order L_lineOf L_howMany ++ (wX5 oS aS cI cJ cZ S_left S_low S_side S_howMany ++ (wX4 oN aN cI cJ cZ N_first N_second N_isCut N_wireClaim N_knotClaim r.1 r.2 N_knots N_wires N_power))) → va_S A s.heap H locs → ∀ ls : Array Slot, lv_has ls 6 [(0, .ref oL), (1, .ref oS), (2, .ref oN)] → W p l e rX3_layTurn s m args below meth c H locs 0 0 (MQ below (dk_Qv (dC, dI) (dk_ty cI cJ cZ) (wX3 oL aL cI cJ cZ L_order L_lineOf L_howMany ++ (wX5 oS aS cI cJ cZ S_left S_low S_side S_howMany ++ (wX4 oN aN cI cJ cZ N_first N_second N_isCut N_wireClaim N_knotClaim out.1 out.2 N_knots N_wires N_power))) A) args s 0 0 A) (F0 m 147 ls [])) : ∀ (H : Heap) (locs : List Loc), va_P (dC, dI) vwCl (wX3 oL aL cI cJ cZ L_order L_lineOf L_howMany ++ (wX5 oS aS cI cJ cZ S_left S_low S_side S_howMany ++ (wX4 oN aN cI cJ cZ N_first N_second N_isCut N_wireClaim N_knotClaim st.2.1 st.2.2 N_knots N_wires N_power))) H → va_D A (wX3 oL aL cI cJ cZ L_order L_lineOf L_howMany ++ (wX5 oS aS cI cJ cZ S_left S_low S_side S_howMany ++ (wX4 oN aN cI cJ cZ N_first N_second N_isCut N_wireClaim N_knotClaim st.2.1 st.2.2 N_knots N_wires N_power))) → va_S A s.heap H locs → ∀ ls : Array Slot, lv_has ls 6 [(0, .ref oL), (1, .ref oS), (2, .ref oN), (3, .int x3), (5, .int st.1)] → W p l e rX3_layTurn s m args below meth c H locs 0 0 (MQ below (dk_Qv (dC, dI) (dk_ty cI cJ cZ) (wX3 oL aL cI cJ cZ L_order L_lineOf L_howMany ++ (wX5 oS aS cI cJ cZ S_left S_low S_side S_howMany ++ (wX4 oN aN cI cJ cZ N_first N_second N_isCut N_wireClaim N_knotClaim out.1 out.2 N_knots N_wires N_power))) A) args s 0 0 A) (F0 m 93 ls []) :=
  dk_loopW (P := fun st => ∀ (H : Heap) (locs : List Loc), va_P (dC, dI) vwCl (wX3 oL aL cI cJ cZ L_order L_lineOf L_howMany ++ (wX5 oS aS cI cJ cZ S_left S_low S_side S_howMany ++ (wX4 oN aN cI cJ cZ N_first N_second N_isCut N_wireClaim N_knotClaim st.2.1 st.2.2 N_knots N_wires N_power))) H → va_D A (wX3 oL aL cI cJ cZ L_order L_lineOf L_howMany ++ (wX5 oS aS cI cJ cZ S_left S_low S_side S_howMany ++ (wX4 oN aN cI cJ cZ N_first N_second N_isCut N_wireClaim N_knotClaim st.2.1 st.2.2 N_knots N_wires N_power))) → va_S A s.heap H locs → ∀ ls : Array Slot, lv_has ls 6 [(0, .ref oL), (1, .ref oS), (2, .ref oN), (3, .int x3), (5, .int st.1)] → W p l e rX3_layTurn s m args below meth c H locs 0 0 (MQ below (dk_Qv (dC, dI) (dk_ty cI cJ cZ) (wX3 oL aL cI cJ cZ L_order L_lineOf L_howMany ++ (wX5 oS aS cI cJ cZ S_left S_low S_side S_howMany ++ (wX4 oN aN cI cJ cZ N_first N_second N_isCut N_wireClaim N_knotClaim out.1 out.2 N_knots N_wires N_power))) A) args s 0 0 A) (F0 m 93 ls [])) (K := fun r => ∀ (H : Heap) (locs : List Loc), va_P (dC, dI) vwCl (wX3 oL aL cI cJ cZ L_order L_lineOf L_howMany ++ (wX5 oS aS cI cJ cZ S_left S_low S_side S_howMany ++ (wX4 oN aN cI cJ cZ N_first N_second N_isCut N_wireClaim N_knotClaim r.1 r.2 N_knots N_wires N_power))) H → va_D A (wX3 oL aL cI cJ cZ L_order L_lineOf L_howMany ++ (wX5 oS aS cI cJ cZ S_left S_low S_side S_howMany ++ (wX4 oN aN cI cJ cZ N_first N_second N_isCut N_wireClaim N_knotClaim r.1 r.2 N_knots N_wires N_power))) → va_S A s.heap H locs → ∀ ls : Array Slot, lv_has ls 6 [(0, .ref oL), (1, .ref oS), (2, .ref oN)] → W p l e rX3_layTurn s m args below meth c H locs 0 0 (MQ below (dk_Qv (dC, dI) (dk_ty cI cJ cZ) (wX3 oL aL cI cJ cZ L_order L_lineOf L_howMany ++ (wX5 oS aS cI cJ cZ S_left S_low S_side S_howMany ++ (wX4 oN aN cI cJ cZ N_first N_second N_isCut N_wireClaim N_knotClaim out.1 out.2 N_knots N_wires N_power))) A) args s 0 0 A) (F0 m 147 ls [])) (fun st y hy k1 k2 => tX3_layTurn_93 C hK hA hy k1 k2) n st r h hE
set_option maxHeartbeats 4000000 in
set_option maxRecDepth 100000 in
theorem kX3_layTurn_87 (C : dk_C p s m meth c args cX3_layTurn none 6 RX3 vsX3_layTurn) (hK : va_K (dC, dI) vwCl (dk_ty cI cJ cZ) s) (hA : ∀ q : Nat, s.heap.size ≤ q → A q) {out : (Nat → Int32) × (Nat → Int32)} {x3 x4 : Int32} (h : jX3_layTurn_87 L_order L_lineOf S_howMany N_first N_second N_turnSize N_turns N_power x3 x4 = some out) : ∀ (H : Heap) (locs : List Loc), va_P (dC, dI) vwCl (wX3 oL aL cI cJ cZ L_order L_lineOf L_howMany ++ (wX5 oS aS cI cJ cZ S_left S_low S_side S_howMany ++ (wX4 oN aN cI cJ cZ N_first N_second N_isCut N_wireClaim N_knotClaim N_turnSize N_turns N_knots N_wires N_power))) H → va_D A (wX3 oL aL cI cJ cZ L_order L_lineOf L_howMany ++ (wX5 oS aS cI cJ cZ S_left S_low S_side S_howMany ++ (wX4 oN aN cI cJ cZ N_first N_second N_isCut N_wireClaim N_knotClaim N_turnSize N_turns N_knots N_wires N_power))) → va_S A s.heap H locs → ∀ ls : Array Slot, lv_has ls 6 [(0, .ref oL), (1, .ref oS), (2, .ref oN), (3, .int x3), (4, .int x4)] → W p l e rX3_layTurn s m args below meth c H locs 0 0 (MQ below (dk_Qv (dC, dI) (dk_ty cI cJ cZ) (wX3 oL aL cI cJ cZ L_order L_lineOf L_howMany ++ (wX5 oS aS cI cJ cZ S_left S_low S_side S_howMany ++ (wX4 oN aN cI cJ cZ N_first N_second N_isCut N_wireClaim N_knotClaim out.1 out.2 N_knots N_wires N_power))) A) args s 0 0 A) (F0 m 87 ls []) := by
  obtain ⟨hx, hb, hr, hml, hown, hts, hlocks⟩ := id C
  intro H locs hP hD hS ls hl
  unfold jX3_layTurn_87 at h
  refine lv_iload hx hb dX3_layTurn_87 (lv_at hl 4 rfl) ?_
  refine lv_iconst (v := 1) hx hb dX3_layTurn_89 (by decide) ?_
  refine lv_isub hx hb dX3_layTurn_90 ?_
  refine lv_topi (fun x5_13 ex5_13 => ?_)
  replace h := dk_let_to ex5_13 h
  refine lv_istore (lv' := [(5, .int x5_13), (0, .ref oL), (1, .ref oS), (2, .ref oN), (3, .int x3), (4, .int x4)]) hx hb dX3_layTurn_91 hl (by decide) rfl (fun ls hl => ?_)
  obtain ⟨r_14, hLr_14, h⟩ := dk_bnd_to h
  refine lX3_layTurn_93 C hK hA hLr_14 (fun H locs hP hD hS ls hl => ?_) _ _ hP hD hS ls (lv_sub hl [1, 2, 3, 4, 0] rfl)
  have e9 := Option.some.inj h
  subst e9
  exact dk_vret C hK hP hD hS dX3_layTurn_147
end
set_option maxHeartbeats 4000000 in
set_option maxRecDepth 100000 in
theorem mX3_layTurn (l : Launch) (dC : Nat → ClassId) (dI : Nat → Nat → Nat) (cI cJ cZ : ClassId) {oL : Nat} {aL : Nat → Nat} {oS : Nat} {aS : Nat → Nat} {oN : Nat} {aN : Nat → Nat} {L_order L_lineOf : Nat → Int32} {L_howMany : Int32} {S_left S_low S_side : Nat → Int32} {S_howMany : Int32} {N_first N_second N_isCut N_wireClaim N_knotClaim N_turnSize N_turns : Nat → Int32} {N_knots N_wires N_power : Int32} {x3 : Int32} {out : (Nat → Int32) × (Nat → Int32)} (h : fX3_layTurn L_order L_lineOf S_howMany N_first N_second N_turnSize N_turns N_power x3 = some out) (sz : Nat) : Met l yX3_layTurn vsX3_layTurn rX3_layTurn (va_Pc [.ref oL, .ref oS, .ref oN, .int x3] (dk_Pre (dC, dI) (dk_ty cI cJ cZ) (wX3 oL aL cI cJ cZ L_order L_lineOf L_howMany ++ (wX5 oS aS cI cJ cZ S_left S_low S_side S_howMany ++ (wX4 oN aN cI cJ cZ N_first N_second N_isCut N_wireClaim N_knotClaim N_turnSize N_turns N_knots N_wires N_power))) sz)) (dk_Qv (dC, dI) (dk_ty cI cJ cZ) (wX3 oL aL cI cJ cZ L_order L_lineOf L_howMany ++ (wX5 oS aS cI cJ cZ S_left S_low S_side S_howMany ++ (wX4 oN aN cI cJ cZ N_first N_second N_isCut N_wireClaim N_knotClaim out.1 out.2 N_knots N_wires N_power))) (va_A (wX3 oL aL cI cJ cZ L_order L_lineOf L_howMany ++ (wX5 oS aS cI cJ cZ S_left S_low S_side S_howMany ++ (wX4 oN aN cI cJ cZ N_first N_second N_isCut N_wireClaim N_knotClaim N_turnSize N_turns N_knots N_wires N_power))) sz)) 0 0 (va_A (wX3 oL aL cI cJ cZ L_order L_lineOf L_howMany ++ (wX5 oS aS cI cJ cZ S_left S_low S_side S_howMany ++ (wX4 oN aN cI cJ cZ N_first N_second N_isCut N_wireClaim N_knotClaim N_turnSize N_turns N_knots N_wires N_power))) sz) := by
  refine dk_met (cc := cX3_layTurn) (maxL := 6) (ret := none) (Qc := fun A => dk_Qv (dC, dI) (dk_ty cI cJ cZ) (wX3 oL aL cI cJ cZ L_order L_lineOf L_howMany ++ (wX5 oS aS cI cJ cZ S_left S_low S_side S_howMany ++ (wX4 oN aN cI cJ cZ N_first N_second N_isCut N_wireClaim N_knotClaim out.1 out.2 N_knots N_wires N_power))) A) (by decide) rfl (Nat.le_of_ble_eq_true rfl) ?_
  intro p e s m below meth c A C hnm hA hK hP hD hS ls hl
  have C : dk_C p s m meth c _ cX3_layTurn none 6 RX3 vsX3_layTurn := C
  obtain ⟨hx, hb, hr, hml, hown, hts, hlocks⟩ := id C
  have hl : lv_has ls 6 [(0, .ref oL), (1, .ref oS), (2, .ref oN), (3, .int x3)] := hl
  unfold fX3_layTurn at h
  refine lv_iconst (v := 2) hx hb dX3_layTurn_0 (by decide) ?_
  refine lv_aload_n hx hb dX3_layTurn_1 rfl (lv_at hl 1 rfl) ?_
  refine va_get (D := (dC, dI)) (ci := 5) (v := .int S_howMany) (C := RX5) (T := TX5) (N := 4) hx hb hts qX3_layTurn_X5 hown hK hP 3 rfl rfl 3 (by decide) (hts _ qX3_layTurn_f26) (fun _ h9 => h9) rfl dX3_layTurn_2 ?_
  refine lv_imul hx hb dX3_layTurn_5 ?_
  refine lv_topi (fun x4_1 ex4_1 => ?_)
  replace h := dk_let_to ex4_1 h
  refine lv_istore (lv' := [(4, .int x4_1), (0, .ref oL), (1, .ref oS), (2, .ref oN), (3, .int x3)]) hx hb dX3_layTurn_6 hl (by decide) rfl (fun ls hl => ?_)
  refine lv_iconst (v := 0) hx hb dX3_layTurn_8 (by decide) ?_
  refine lv_istore (lv' := [(5, .int 0), (4, .int x4_1), (0, .ref oL), (1, .ref oS), (2, .ref oN), (3, .int x3)]) hx hb dX3_layTurn_9 hl (by decide) rfl (fun ls hl => ?_)
  obtain ⟨r_2, hLr_2, h⟩ := dk_bnd_to h
  refine lX3_layTurn_11 C hK hA hLr_2 (fun H locs hP hD hS ls hl => ?_) _ _ hP hD hS ls (lv_sub hl [2, 3, 4, 5, 1, 0] rfl)
  refine lv_aload_n hx hb dX3_layTurn_66 rfl (lv_at hl 2 rfl) ?_
  refine lv_aload_n hx hb dX3_layTurn_67 rfl (lv_at hl 2 rfl) ?_
  refine va_get (D := (dC, dI)) (ci := 4) (v := .int N_power) (C := RX4) (T := TX4) (N := 10) hx hb hts qX3_layTurn_X4 hown hK hP 7 rfl rfl 9 (by decide) (hts _ qX3_layTurn_f68) (fun _ h9 => h9) rfl dX3_layTurn_68 ?_
  refine lv_iload_n hx hb dX3_layTurn_71 rfl (lv_at hl 3 rfl) ?_
  obtain ⟨r_3, hcr_3, h⟩ := dk_bnd_to h
  refine dk_rVi (b := oN) (As := [.int N_power, .int x3]) (rest := []) (wc := (wX4 oN aN cI cJ cZ N_first N_second N_isCut N_wireClaim N_knotClaim r_2.1 r_2.2 N_knots N_wires N_power)) C hK hP hD hS hA (mX4_endsAt l dC dI cI cJ cZ hcr_3 _) (cwV 2 hts gvX3_layTurn_X4_endsAt rfl rfl rfl (by decide +kernel) ⟨Nat.le_of_ble_eq_true rfl, Nat.le_of_ble_eq_true rfl⟩) [7, 8, 9, 10, 11, 12, 13, 14] rfl (by decide) 0 4 rfl rfl rfl hl.1 rfl (Nat.le_of_ble_eq_true rfl) ⟨Nat.le_of_ble_eq_true rfl, Nat.le_of_ble_eq_true rfl⟩ dX3_layTurn_72 (fun H locs hP hD hS => ?_)
  refine lv_if_eq (tgt := 87) hx hb dX3_layTurn_75 (by decide) (fun c_4 => ?_) (fun c_4 => ?_)
  · replace h := dk_it c_4 h
    exact kX3_layTurn_87 C hK hA h _ _ hP hD hS ls (lv_sub hl [0, 1, 2, 3, 4] rfl)
  · replace h := dk_ie c_4 h
    refine lv_aload_n hx hb dX3_layTurn_78 rfl (lv_at hl 2 rfl) ?_
    refine lv_iload_n hx hb dX3_layTurn_79 rfl (lv_at hl 3 rfl) ?_
    refine lv_aload_n hx hb dX3_layTurn_80 rfl (lv_at hl 2 rfl) ?_
    refine va_get (D := (dC, dI)) (ci := 4) (v := .int N_power) (C := RX4) (T := TX4) (N := 10) hx hb hts qX3_layTurn_X4 hown hK hP 7 rfl rfl 9 (by decide) (hts _ qX3_layTurn_f68) (fun _ h9 => h9) rfl dX3_layTurn_81 ?_
    obtain ⟨r_5, hcr_5, h⟩ := dk_bnd_to h
    refine dk_cVv (b := oN) (As := [.int x3, .int N_power]) (rest := []) (wc := (wX4 oN aN cI cJ cZ N_first N_second N_isCut N_wireClaim N_knotClaim r_2.1 r_2.2 N_knots N_wires N_power)) (wc' := (wX4 oN aN cI cJ cZ N_first N_second N_isCut N_wireClaim N_knotClaim r_5.1 r_5.2 N_knots N_wires N_power)) (wr := (wX3 oL aL cI cJ cZ L_order L_lineOf L_howMany ++ (wX5 oS aS cI cJ cZ S_left S_low S_side S_howMany))) (ws' := (wX3 oL aL cI cJ cZ L_order L_lineOf L_howMany ++ (wX5 oS aS cI cJ cZ S_left S_low S_side S_howMany ++ (wX4 oN aN cI cJ cZ N_first N_second N_isCut N_wireClaim N_knotClaim r_5.1 r_5.2 N_knots N_wires N_power)))) C hK hP hD hS hA (mX4_addToTurn l dC dI cI cJ cZ hcr_5 _) (cwV 2 hts gvX3_layTurn_X4_addToTurn rfl rfl rfl (by decide +kernel) ⟨Nat.le_of_ble_eq_true rfl, Nat.le_of_ble_eq_true rfl⟩) [7, 8, 9, 10, 11, 12, 13, 14] [0, 1, 2, 3, 4, 5, 6] [0, 1, 2, 3, 4, 5, 6, 7, 8, 9, 10, 11, 12, 13, 14] rfl (by decide) rfl (by decide) (by decide) rfl (by decide) 0 4 rfl rfl rfl hl.1 rfl (Nat.le_of_ble_eq_true rfl) ⟨Nat.le_of_ble_eq_true rfl, Nat.le_of_ble_eq_true rfl⟩ dX3_layTurn_84 (fun H locs hP hD hS => ?_)
    exact kX3_layTurn_87 C hK hA h _ _ hP hD hS ls (lv_sub hl [0, 1, 2, 3, 4] rfl)

/-! ===== SquareTilerModel.in ===== -/
abbrev rX7_in : Room := { frames := 0, cells := 0, slots := 0, locals := 0 }
def ovX7_in : List Cond := []
def vsX7_in : List Cond := .code yX7_in cX7_in 3 (some .boolean) :: (ovX7_in ++ [])
theorem gd_vsX7_in : ∀ w ∈ vsX7_in, goodWord w = true := dk_cons rfl (dk_app (dk_all (by decide +kernel)) dk_nil)
def fX7_in (x0 x1 x2 : Int32) : Option (Int32) := if x0 < x1 then some 0 else if x2 < x0 then some 0 else some 1
section
variable {p : Program} {l : Launch} {e : Env} {s : State} {m : MethodId} {args : Array Value} {below : List Frame} {meth : Method} {c : Code} {dC : Nat → ClassId} {dI : Nat → Nat → Nat} {cI cJ cZ : ClassId} {A : Nat → Prop}
end
set_option maxHeartbeats 4000000 in
set_option maxRecDepth 100000 in
theorem mX7_in (l : Launch) (dC : Nat → ClassId) (dI : Nat → Nat → Nat) (cI cJ cZ : ClassId) {x0 x1 x2 : Int32} {out : Int32} (h : fX7_in x0 x1 x2 = some out) (sz : Nat) : Met l yX7_in vsX7_in rX7_in (va_Pc [.int x0, .int x1, .int x2] (dk_Pre (dC, dI) (dk_ty cI cJ cZ) [] sz)) (dk_Qi (dC, dI) (dk_ty cI cJ cZ) [] out (va_A [] sz)) 0 0 (va_A [] sz) := by
  refine dk_met (cc := cX7_in) (maxL := 3) (ret := (some .boolean)) (Qc := fun A => dk_Qi (dC, dI) (dk_ty cI cJ cZ) [] out A) (by decide) rfl (Nat.le_of_ble_eq_true rfl) ?_
  intro p e s m below meth c A C hnm hA hK hP hD hS ls hl
  have C : dk_C p s m meth c _ cX7_in (some .boolean) 3 RX7 vsX7_in := C
  obtain ⟨hx, hb, hr, hml, hown, hts, hlocks⟩ := id C
  have hl : lv_has ls 3 [(0, .int x0), (1, .int x1), (2, .int x2)] := hl
  unfold fX7_in at h
  refine lv_iload_n hx hb dX7_in_0 rfl (lv_at hl 0 rfl) ?_
  refine lv_iload_n hx hb dX7_in_1 rfl (lv_at hl 1 rfl) ?_
  refine lv_icmp_lt (tgt := 14) hx hb dX7_in_2 (by decide) (fun c_1 => ?_) (fun c_1 => ?_)
  · replace h := dk_it c_1 h
    refine lv_iconst (v := 0) hx hb dX7_in_14 (by decide) ?_
    have e9 := Option.some.inj h
    subst e9
    exact dk_zret C hK hP hD hS (by decide +kernel) rfl dX7_in_15
  · replace h := dk_ie c_1 h
    refine lv_iload_n hx hb dX7_in_5 rfl (lv_at hl 0 rfl) ?_
    refine lv_iload_n hx hb dX7_in_6 rfl (lv_at hl 2 rfl) ?_
    refine lv_icmp_gt (tgt := 14) hx hb dX7_in_7 (by decide) (fun c_2 => ?_) (fun c_2 => ?_)
    · replace h := dk_it c_2 h
      refine lv_iconst (v := 0) hx hb dX7_in_14 (by decide) ?_
      have e9 := Option.some.inj h
      subst e9
      exact dk_zret C hK hP hD hS (by decide +kernel) rfl dX7_in_15
    · replace h := dk_ie c_2 h
      refine lv_iconst (v := 1) hx hb dX7_in_10 (by decide) ?_
      refine lv_goto (tgt := 15) hx hb dX7_in_11 (by decide) ?_
      have e9 := Option.some.inj h
      subst e9
      exact dk_zret C hK hP hD hS (by decide +kernel) rfl dX7_in_15
/-! ===== SquareTilerModel.isKnot ===== -/
abbrev rX7_isKnot : Room := { frames := 1, cells := 0, slots := 0, locals := 22 }
def ovX7_isKnot : List Cond := [Cond.fieldLink RX7 97 "SquareTilerModel" "knots" "I", Cond.methodLink RX7 100 yX7_in, Cond.static yX7_in, Cond.initialized RX7]
def vsX7_isKnot : List Cond := .code yX7_isKnot cX7_isKnot 2 (some .boolean) :: (ovX7_isKnot ++ (wsX70 ++ (vsX7_in ++ [])))
theorem qX7_isKnot_f97 : Cond.fieldLink RX7 97 "SquareTilerModel" "knots" "I" ∈ vsX7_isKnot := List.mem_cons_of_mem _ (List.mem_append_left _ (List.mem_of_getElem? (i := 0) rfl))
theorem qX7_isKnot_w1 : Cond.methodLink RX7 100 yX7_in ∈ vsX7_isKnot := List.mem_cons_of_mem _ (List.mem_append_left _ (List.mem_of_getElem? (i := 1) rfl))
theorem qX7_isKnot_w2 : Cond.static yX7_in ∈ vsX7_isKnot := List.mem_cons_of_mem _ (List.mem_append_left _ (List.mem_of_getElem? (i := 2) rfl))
theorem qX7_isKnot_w3 : Cond.initialized RX7 ∈ vsX7_isKnot := List.mem_cons_of_mem _ (List.mem_append_left _ (List.mem_of_getElem? (i := 3) rfl))
theorem qX7_isKnot_X7 : ∀ w ∈ u_ws RX7 TX7 40, w ∈ vsX7_isKnot := fun w h => List.mem_cons_of_mem _ (List.mem_append_right _ (List.mem_append_left _ h))
theorem gd_vsX7_isKnot : ∀ w ∈ vsX7_isKnot, goodWord w = true := dk_cons rfl (dk_app (dk_all (by decide +kernel)) (dk_app gd_wsX70 (dk_app gd_vsX7_in dk_nil)))
theorem gvX7_isKnot_X7_in : GoodIn vsX7_isKnot (va_wsS RX7 100 yX7_in vsX7_in) := goodIn_app (dk_g3 qX7_isKnot_w1 qX7_isKnot_w2 qX7_isKnot_w3 rfl) (dk_gIn (fun w h => List.mem_cons_of_mem _ (List.mem_append_right _ (List.mem_append_right _ (List.mem_append_left _ h)))) gd_vsX7_in)
def fX7_isKnot (M_knots x1 : Int32) : Option (Int32) := dk_bnd (fX7_in x1 0 (M_knots - 1)) (fun r_1 => dk_gd (dk_bo r_1) (some r_1))
section
variable {p : Program} {l : Launch} {e : Env} {s : State} {m : MethodId} {args : Array Value} {below : List Frame} {meth : Method} {c : Code} {dC : Nat → ClassId} {dI : Nat → Nat → Nat} {cI cJ cZ : ClassId} {A : Nat → Prop} {oM : Nat} {aM : Nat → Nat} {M_knots M_wires M_battery : Int32} {M_first M_second M_isCut M_turns M_turnMany M_wireClaim M_knotClaim : Nat → Int32} {M_hasKept M_keptKnots M_keptWires M_keptBattery : Int32} {M_keptFirst M_keptSecond M_keptTurns M_keptMany M_keptWire M_keptKnot M_keptCut : Nat → Int32} {M_told : Int32} {M_left M_low M_side M_faceOf : Nat → Int32} {M_faceMany : Int32} {M_table : Nat → Int64} {M_heights M_currents M_places : Nat → Int32} {M_treeMany : Int64} {M_wide M_high : Int32} {M_newTurns M_newMany M_lineHeight M_lineLeft M_lineRight : Nat → Int32} {M_lines : Int32}
end
set_option maxHeartbeats 4000000 in
set_option maxRecDepth 100000 in
theorem mX7_isKnot (l : Launch) (dC : Nat → ClassId) (dI : Nat → Nat → Nat) (cI cJ cZ : ClassId) {oM : Nat} {aM : Nat → Nat} {M_knots M_wires M_battery : Int32} {M_first M_second M_isCut M_turns M_turnMany M_wireClaim M_knotClaim : Nat → Int32} {M_hasKept M_keptKnots M_keptWires M_keptBattery : Int32} {M_keptFirst M_keptSecond M_keptTurns M_keptMany M_keptWire M_keptKnot M_keptCut : Nat → Int32} {M_told : Int32} {M_left M_low M_side M_faceOf : Nat → Int32} {M_faceMany : Int32} {M_table : Nat → Int64} {M_heights M_currents M_places : Nat → Int32} {M_treeMany : Int64} {M_wide M_high : Int32} {M_newTurns M_newMany M_lineHeight M_lineLeft M_lineRight : Nat → Int32} {M_lines : Int32} {x1 : Int32} {out : Int32} (h : fX7_isKnot M_knots x1 = some out) (sz : Nat) : Met l yX7_isKnot vsX7_isKnot rX7_isKnot (va_Pc [.ref oM, .int x1] (dk_Pre (dC, dI) (dk_ty cI cJ cZ) (wX7 oM aM cI cJ cZ M_knots M_wires M_battery M_first M_second M_isCut M_turns M_turnMany M_wireClaim M_knotClaim M_hasKept M_keptKnots M_keptWires M_keptBattery M_keptFirst M_keptSecond M_keptTurns M_keptMany M_keptWire M_keptKnot M_keptCut M_told M_left M_low M_side M_faceOf M_faceMany M_table M_heights M_currents M_places M_treeMany M_wide M_high M_newTurns M_newMany M_lineHeight M_lineLeft M_lineRight M_lines) sz)) (dk_Qi (dC, dI) (dk_ty cI cJ cZ) (wX7 oM aM cI cJ cZ M_knots M_wires M_battery M_first M_second M_isCut M_turns M_turnMany M_wireClaim M_knotClaim M_hasKept M_keptKnots M_keptWires M_keptBattery M_keptFirst M_keptSecond M_keptTurns M_keptMany M_keptWire M_keptKnot M_keptCut M_told M_left M_low M_side M_faceOf M_faceMany M_table M_heights M_currents M_places M_treeMany M_wide M_high M_newTurns M_newMany M_lineHeight M_lineLeft M_lineRight M_lines) out (va_A (wX7 oM aM cI cJ cZ M_knots M_wires M_battery M_first M_second M_isCut M_turns M_turnMany M_wireClaim M_knotClaim M_hasKept M_keptKnots M_keptWires M_keptBattery M_keptFirst M_keptSecond M_keptTurns M_keptMany M_keptWire M_keptKnot M_keptCut M_told M_left M_low M_side M_faceOf M_faceMany M_table M_heights M_currents M_places M_treeMany M_wide M_high M_newTurns M_newMany M_lineHeight M_lineLeft M_lineRight M_lines) sz)) 0 0 (va_A (wX7 oM aM cI cJ cZ M_knots M_wires M_battery M_first M_second M_isCut M_turns M_turnMany M_wireClaim M_knotClaim M_hasKept M_keptKnots M_keptWires M_keptBattery M_keptFirst M_keptSecond M_keptTurns M_keptMany M_keptWire M_keptKnot M_keptCut M_told M_left M_low M_side M_faceOf M_faceMany M_table M_heights M_currents M_places M_treeMany M_wide M_high M_newTurns M_newMany M_lineHeight M_lineLeft M_lineRight M_lines) sz) := by
  refine dk_met (cc := cX7_isKnot) (maxL := 2) (ret := (some .boolean)) (Qc := fun A => dk_Qi (dC, dI) (dk_ty cI cJ cZ) (wX7 oM aM cI cJ cZ M_knots M_wires M_battery M_first M_second M_isCut M_turns M_turnMany M_wireClaim M_knotClaim M_hasKept M_keptKnots M_keptWires M_keptBattery M_keptFirst M_keptSecond M_keptTurns M_keptMany M_keptWire M_keptKnot M_keptCut M_told M_left M_low M_side M_faceOf M_faceMany M_table M_heights M_currents M_places M_treeMany M_wide M_high M_newTurns M_newMany M_lineHeight M_lineLeft M_lineRight M_lines) out A) (by decide) rfl (Nat.le_of_ble_eq_true rfl) ?_
  intro p e s m below meth c A C hnm hA hK hP hD hS ls hl
  have C : dk_C p s m meth c _ cX7_isKnot (some .boolean) 2 RX7 vsX7_isKnot := C
  obtain ⟨hx, hb, hr, hml, hown, hts, hlocks⟩ := id C
  have hl : lv_has ls 2 [(0, .ref oM), (1, .int x1)] := hl
  unfold fX7_isKnot at h
  refine lv_iload_n hx hb dX7_isKnot_0 rfl (lv_at hl 1 rfl) ?_
  refine lv_iconst (v := 0) hx hb dX7_isKnot_1 (by decide) ?_
  refine lv_aload_n hx hb dX7_isKnot_2 rfl (lv_at hl 0 rfl) ?_
  refine va_get (D := (dC, dI)) (ci := 7) (v := .int M_knots) (C := RX7) (T := TX7) (N := 40) hx hb hts qX7_isKnot_X7 hown hK hP 0 rfl rfl 0 (by decide) (hts _ qX7_isKnot_f97) (fun _ h9 => h9) rfl dX7_isKnot_3 ?_
  refine lv_iconst (v := 1) hx hb dX7_isKnot_6 (by decide) ?_
  refine lv_isub hx hb dX7_isKnot_7 ?_
  obtain ⟨r_1, hcr_1, h⟩ := dk_bnd_to h
  refine dk_rSi (As := [.int x1, .int 0, .int (M_knots - 1)]) (rest := []) (wc := []) C hK hP hD hS hA (mX7_in l dC dI cI cJ cZ hcr_1 _) (va_cwS 3 hts gvX7_isKnot_X7_in rfl rfl rfl (by decide +kernel) ⟨Nat.le_of_ble_eq_true rfl, Nat.le_of_ble_eq_true rfl⟩) [] rfl (by decide) rfl hl.1 rfl (Nat.le_of_ble_eq_true rfl) ⟨Nat.le_of_ble_eq_true rfl, Nat.le_of_ble_eq_true rfl⟩ dX7_isKnot_8 (fun H locs hP hD hS => ?_)
  obtain ⟨g_2, h⟩ := dk_gd_to h
  have g_2 := dk_bo_to g_2
  have e9 := Option.some.inj h
  subst e9
  exact dk_zret C hK hP hD hS g_2 rfl dX7_isKnot_11
/-! ===== SquareTilerModel.isWire ===== -/
abbrev rX7_isWire : Room := { frames := 1, cells := 0, slots := 0, locals := 22 }
def ovX7_isWire : List Cond := [Cond.fieldLink RX7 104 "SquareTilerModel" "wires" "I", Cond.methodLink RX7 100 yX7_in, Cond.static yX7_in, Cond.initialized RX7]
def vsX7_isWire : List Cond := .code yX7_isWire cX7_isWire 2 (some .boolean) :: (ovX7_isWire ++ (wsX70 ++ (vsX7_in ++ [])))
theorem qX7_isWire_f104 : Cond.fieldLink RX7 104 "SquareTilerModel" "wires" "I" ∈ vsX7_isWire := List.mem_cons_of_mem _ (List.mem_append_left _ (List.mem_of_getElem? (i := 0) rfl))
theorem qX7_isWire_w1 : Cond.methodLink RX7 100 yX7_in ∈ vsX7_isWire := List.mem_cons_of_mem _ (List.mem_append_left _ (List.mem_of_getElem? (i := 1) rfl))
theorem qX7_isWire_w2 : Cond.static yX7_in ∈ vsX7_isWire := List.mem_cons_of_mem _ (List.mem_append_left _ (List.mem_of_getElem? (i := 2) rfl))
theorem qX7_isWire_w3 : Cond.initialized RX7 ∈ vsX7_isWire := List.mem_cons_of_mem _ (List.mem_append_left _ (List.mem_of_getElem? (i := 3) rfl))
theorem qX7_isWire_X7 : ∀ w ∈ u_ws RX7 TX7 40, w ∈ vsX7_isWire := fun w h => List.mem_cons_of_mem _ (List.mem_append_right _ (List.mem_append_left _ h))
theorem gd_vsX7_isWire : ∀ w ∈ vsX7_isWire, goodWord w = true := dk_cons rfl (dk_app (dk_all (by decide +kernel)) (dk_app gd_wsX70 (dk_app gd_vsX7_in dk_nil)))
theorem gvX7_isWire_X7_in : GoodIn vsX7_isWire (va_wsS RX7 100 yX7_in vsX7_in) := goodIn_app (dk_g3 qX7_isWire_w1 qX7_isWire_w2 qX7_isWire_w3 rfl) (dk_gIn (fun w h => List.mem_cons_of_mem _ (List.mem_append_right _ (List.mem_append_right _ (List.mem_append_left _ h)))) gd_vsX7_in)
def fX7_isWire (M_wires x1 : Int32) : Option (Int32) := dk_bnd (fX7_in x1 0 (M_wires - 1)) (fun r_1 => dk_gd (dk_bo r_1) (some r_1))
section
variable {p : Program} {l : Launch} {e : Env} {s : State} {m : MethodId} {args : Array Value} {below : List Frame} {meth : Method} {c : Code} {dC : Nat → ClassId} {dI : Nat → Nat → Nat} {cI cJ cZ : ClassId} {A : Nat → Prop} {oM : Nat} {aM : Nat → Nat} {M_knots M_wires M_battery : Int32} {M_first M_second M_isCut M_turns M_turnMany M_wireClaim M_knotClaim : Nat → Int32} {M_hasKept M_keptKnots M_keptWires M_keptBattery : Int32} {M_keptFirst M_keptSecond M_keptTurns M_keptMany M_keptWire M_keptKnot M_keptCut : Nat → Int32} {M_told : Int32} {M_left M_low M_side M_faceOf : Nat → Int32} {M_faceMany : Int32} {M_table : Nat → Int64} {M_heights M_currents M_places : Nat → Int32} {M_treeMany : Int64} {M_wide M_high : Int32} {M_newTurns M_newMany M_lineHeight M_lineLeft M_lineRight : Nat → Int32} {M_lines : Int32}
end
set_option maxHeartbeats 4000000 in
set_option maxRecDepth 100000 in
theorem mX7_isWire (l : Launch) (dC : Nat → ClassId) (dI : Nat → Nat → Nat) (cI cJ cZ : ClassId) {oM : Nat} {aM : Nat → Nat} {M_knots M_wires M_battery : Int32} {M_first M_second M_isCut M_turns M_turnMany M_wireClaim M_knotClaim : Nat → Int32} {M_hasKept M_keptKnots M_keptWires M_keptBattery : Int32} {M_keptFirst M_keptSecond M_keptTurns M_keptMany M_keptWire M_keptKnot M_keptCut : Nat → Int32} {M_told : Int32} {M_left M_low M_side M_faceOf : Nat → Int32} {M_faceMany : Int32} {M_table : Nat → Int64} {M_heights M_currents M_places : Nat → Int32} {M_treeMany : Int64} {M_wide M_high : Int32} {M_newTurns M_newMany M_lineHeight M_lineLeft M_lineRight : Nat → Int32} {M_lines : Int32} {x1 : Int32} {out : Int32} (h : fX7_isWire M_wires x1 = some out) (sz : Nat) : Met l yX7_isWire vsX7_isWire rX7_isWire (va_Pc [.ref oM, .int x1] (dk_Pre (dC, dI) (dk_ty cI cJ cZ) (wX7 oM aM cI cJ cZ M_knots M_wires M_battery M_first M_second M_isCut M_turns M_turnMany M_wireClaim M_knotClaim M_hasKept M_keptKnots M_keptWires M_keptBattery M_keptFirst M_keptSecond M_keptTurns M_keptMany M_keptWire M_keptKnot M_keptCut M_told M_left M_low M_side M_faceOf M_faceMany M_table M_heights M_currents M_places M_treeMany M_wide M_high M_newTurns M_newMany M_lineHeight M_lineLeft M_lineRight M_lines) sz)) (dk_Qi (dC, dI) (dk_ty cI cJ cZ) (wX7 oM aM cI cJ cZ M_knots M_wires M_battery M_first M_second M_isCut M_turns M_turnMany M_wireClaim M_knotClaim M_hasKept M_keptKnots M_keptWires M_keptBattery M_keptFirst M_keptSecond M_keptTurns M_keptMany M_keptWire M_keptKnot M_keptCut M_told M_left M_low M_side M_faceOf M_faceMany M_table M_heights M_currents M_places M_treeMany M_wide M_high M_newTurns M_newMany M_lineHeight M_lineLeft M_lineRight M_lines) out (va_A (wX7 oM aM cI cJ cZ M_knots M_wires M_battery M_first M_second M_isCut M_turns M_turnMany M_wireClaim M_knotClaim M_hasKept M_keptKnots M_keptWires M_keptBattery M_keptFirst M_keptSecond M_keptTurns M_keptMany M_keptWire M_keptKnot M_keptCut M_told M_left M_low M_side M_faceOf M_faceMany M_table M_heights M_currents M_places M_treeMany M_wide M_high M_newTurns M_newMany M_lineHeight M_lineLeft M_lineRight M_lines) sz)) 0 0 (va_A (wX7 oM aM cI cJ cZ M_knots M_wires M_battery M_first M_second M_isCut M_turns M_turnMany M_wireClaim M_knotClaim M_hasKept M_keptKnots M_keptWires M_keptBattery M_keptFirst M_keptSecond M_keptTurns M_keptMany M_keptWire M_keptKnot M_keptCut M_told M_left M_low M_side M_faceOf M_faceMany M_table M_heights M_currents M_places M_treeMany M_wide M_high M_newTurns M_newMany M_lineHeight M_lineLeft M_lineRight M_lines) sz) := by
  refine dk_met (cc := cX7_isWire) (maxL := 2) (ret := (some .boolean)) (Qc := fun A => dk_Qi (dC, dI) (dk_ty cI cJ cZ) (wX7 oM aM cI cJ cZ M_knots M_wires M_battery M_first M_second M_isCut M_turns M_turnMany M_wireClaim M_knotClaim M_hasKept M_keptKnots M_keptWires M_keptBattery M_keptFirst M_keptSecond M_keptTurns M_keptMany M_keptWire M_keptKnot M_keptCut M_told M_left M_low M_side M_faceOf M_faceMany M_table M_heights M_currents M_places M_treeMany M_wide M_high M_newTurns M_newMany M_lineHeight M_lineLeft M_lineRight M_lines) out A) (by decide) rfl (Nat.le_of_ble_eq_true rfl) ?_
  intro p e s m below meth c A C hnm hA hK hP hD hS ls hl
  have C : dk_C p s m meth c _ cX7_isWire (some .boolean) 2 RX7 vsX7_isWire := C
  obtain ⟨hx, hb, hr, hml, hown, hts, hlocks⟩ := id C
  have hl : lv_has ls 2 [(0, .ref oM), (1, .int x1)] := hl
  unfold fX7_isWire at h
  refine lv_iload_n hx hb dX7_isWire_0 rfl (lv_at hl 1 rfl) ?_
  refine lv_iconst (v := 0) hx hb dX7_isWire_1 (by decide) ?_
  refine lv_aload_n hx hb dX7_isWire_2 rfl (lv_at hl 0 rfl) ?_
  refine va_get (D := (dC, dI)) (ci := 7) (v := .int M_wires) (C := RX7) (T := TX7) (N := 40) hx hb hts qX7_isWire_X7 hown hK hP 0 rfl rfl 1 (by decide) (hts _ qX7_isWire_f104) (fun _ h9 => h9) rfl dX7_isWire_3 ?_
  refine lv_iconst (v := 1) hx hb dX7_isWire_6 (by decide) ?_
  refine lv_isub hx hb dX7_isWire_7 ?_
  obtain ⟨r_1, hcr_1, h⟩ := dk_bnd_to h
  refine dk_rSi (As := [.int x1, .int 0, .int (M_wires - 1)]) (rest := []) (wc := []) C hK hP hD hS hA (mX7_in l dC dI cI cJ cZ hcr_1 _) (va_cwS 3 hts gvX7_isWire_X7_in rfl rfl rfl (by decide +kernel) ⟨Nat.le_of_ble_eq_true rfl, Nat.le_of_ble_eq_true rfl⟩) [] rfl (by decide) rfl hl.1 rfl (Nat.le_of_ble_eq_true rfl) ⟨Nat.le_of_ble_eq_true rfl, Nat.le_of_ble_eq_true rfl⟩ dX7_isWire_8 (fun H locs hP hD hS => ?_)
  obtain ⟨g_2, h⟩ := dk_gd_to h
  have g_2 := dk_bo_to g_2
  have e9 := Option.some.inj h
  subst e9
  exact dk_zret C hK hP hD hS g_2 rfl dX7_isWire_11
/-! ===== SquareTilerModel.isPlain ===== -/
abbrev rX7_isPlain : Room := { frames := 0, cells := 0, slots := 0, locals := 0 }
def ovX7_isPlain : List Cond := [Cond.fieldLink RX7 7 "SquareTilerModel" "battery" "I", Cond.fieldLink RX7 20 "SquareTilerModel" "isCut" "[Z"]
def vsX7_isPlain : List Cond := .code yX7_isPlain cX7_isPlain 2 (some .boolean) :: (ovX7_isPlain ++ (wsX70 ++ []))
theorem qX7_isPlain_f7 : Cond.fieldLink RX7 7 "SquareTilerModel" "battery" "I" ∈ vsX7_isPlain := List.mem_cons_of_mem _ (List.mem_append_left _ (List.mem_of_getElem? (i := 0) rfl))
theorem qX7_isPlain_f20 : Cond.fieldLink RX7 20 "SquareTilerModel" "isCut" "[Z" ∈ vsX7_isPlain := List.mem_cons_of_mem _ (List.mem_append_left _ (List.mem_of_getElem? (i := 1) rfl))
theorem qX7_isPlain_X7 : ∀ w ∈ u_ws RX7 TX7 40, w ∈ vsX7_isPlain := fun w h => List.mem_cons_of_mem _ (List.mem_append_right _ (List.mem_append_left _ h))
theorem gd_vsX7_isPlain : ∀ w ∈ vsX7_isPlain, goodWord w = true := dk_cons rfl (dk_app (dk_all (by decide +kernel)) (dk_app gd_wsX70 dk_nil))
def fX7_isPlain (M_battery : Int32) (M_isCut : Nat → Int32) (x1 : Int32) : Option (Int32) := if x1 = M_battery then some 0 else dk_gd (dk_in x1 22) (if (M_isCut x1.toNatClampNeg) = 0 then some 1 else some 0)
section
variable {p : Program} {l : Launch} {e : Env} {s : State} {m : MethodId} {args : Array Value} {below : List Frame} {meth : Method} {c : Code} {dC : Nat → ClassId} {dI : Nat → Nat → Nat} {cI cJ cZ : ClassId} {A : Nat → Prop} {oM : Nat} {aM : Nat → Nat} {M_knots M_wires M_battery : Int32} {M_first M_second M_isCut M_turns M_turnMany M_wireClaim M_knotClaim : Nat → Int32} {M_hasKept M_keptKnots M_keptWires M_keptBattery : Int32} {M_keptFirst M_keptSecond M_keptTurns M_keptMany M_keptWire M_keptKnot M_keptCut : Nat → Int32} {M_told : Int32} {M_left M_low M_side M_faceOf : Nat → Int32} {M_faceMany : Int32} {M_table : Nat → Int64} {M_heights M_currents M_places : Nat → Int32} {M_treeMany : Int64} {M_wide M_high : Int32} {M_newTurns M_newMany M_lineHeight M_lineLeft M_lineRight : Nat → Int32} {M_lines : Int32}
end
set_option maxHeartbeats 4000000 in
set_option maxRecDepth 100000 in
theorem mX7_isPlain (l : Launch) (dC : Nat → ClassId) (dI : Nat → Nat → Nat) (cI cJ cZ : ClassId) {oM : Nat} {aM : Nat → Nat} {M_knots M_wires M_battery : Int32} {M_first M_second M_isCut M_turns M_turnMany M_wireClaim M_knotClaim : Nat → Int32} {M_hasKept M_keptKnots M_keptWires M_keptBattery : Int32} {M_keptFirst M_keptSecond M_keptTurns M_keptMany M_keptWire M_keptKnot M_keptCut : Nat → Int32} {M_told : Int32} {M_left M_low M_side M_faceOf : Nat → Int32} {M_faceMany : Int32} {M_table : Nat → Int64} {M_heights M_currents M_places : Nat → Int32} {M_treeMany : Int64} {M_wide M_high : Int32} {M_newTurns M_newMany M_lineHeight M_lineLeft M_lineRight : Nat → Int32} {M_lines : Int32} {x1 : Int32} {out : Int32} (h : fX7_isPlain M_battery M_isCut x1 = some out) (sz : Nat) : Met l yX7_isPlain vsX7_isPlain rX7_isPlain (va_Pc [.ref oM, .int x1] (dk_Pre (dC, dI) (dk_ty cI cJ cZ) (wX7 oM aM cI cJ cZ M_knots M_wires M_battery M_first M_second M_isCut M_turns M_turnMany M_wireClaim M_knotClaim M_hasKept M_keptKnots M_keptWires M_keptBattery M_keptFirst M_keptSecond M_keptTurns M_keptMany M_keptWire M_keptKnot M_keptCut M_told M_left M_low M_side M_faceOf M_faceMany M_table M_heights M_currents M_places M_treeMany M_wide M_high M_newTurns M_newMany M_lineHeight M_lineLeft M_lineRight M_lines) sz)) (dk_Qi (dC, dI) (dk_ty cI cJ cZ) (wX7 oM aM cI cJ cZ M_knots M_wires M_battery M_first M_second M_isCut M_turns M_turnMany M_wireClaim M_knotClaim M_hasKept M_keptKnots M_keptWires M_keptBattery M_keptFirst M_keptSecond M_keptTurns M_keptMany M_keptWire M_keptKnot M_keptCut M_told M_left M_low M_side M_faceOf M_faceMany M_table M_heights M_currents M_places M_treeMany M_wide M_high M_newTurns M_newMany M_lineHeight M_lineLeft M_lineRight M_lines) out (va_A (wX7 oM aM cI cJ cZ M_knots M_wires M_battery M_first M_second M_isCut M_turns M_turnMany M_wireClaim M_knotClaim M_hasKept M_keptKnots M_keptWires M_keptBattery M_keptFirst M_keptSecond M_keptTurns M_keptMany M_keptWire M_keptKnot M_keptCut M_told M_left M_low M_side M_faceOf M_faceMany M_table M_heights M_currents M_places M_treeMany M_wide M_high M_newTurns M_newMany M_lineHeight M_lineLeft M_lineRight M_lines) sz)) 0 0 (va_A (wX7 oM aM cI cJ cZ M_knots M_wires M_battery M_first M_second M_isCut M_turns M_turnMany M_wireClaim M_knotClaim M_hasKept M_keptKnots M_keptWires M_keptBattery M_keptFirst M_keptSecond M_keptTurns M_keptMany M_keptWire M_keptKnot M_keptCut M_told M_left M_low M_side M_faceOf M_faceMany M_table M_heights M_currents M_places M_treeMany M_wide M_high M_newTurns M_newMany M_lineHeight M_lineLeft M_lineRight M_lines) sz) := by
  refine dk_met (cc := cX7_isPlain) (maxL := 2) (ret := (some .boolean)) (Qc := fun A => dk_Qi (dC, dI) (dk_ty cI cJ cZ) (wX7 oM aM cI cJ cZ M_knots M_wires M_battery M_first M_second M_isCut M_turns M_turnMany M_wireClaim M_knotClaim M_hasKept M_keptKnots M_keptWires M_keptBattery M_keptFirst M_keptSecond M_keptTurns M_keptMany M_keptWire M_keptKnot M_keptCut M_told M_left M_low M_side M_faceOf M_faceMany M_table M_heights M_currents M_places M_treeMany M_wide M_high M_newTurns M_newMany M_lineHeight M_lineLeft M_lineRight M_lines) out A) (by decide) rfl (Nat.le_of_ble_eq_true rfl) ?_
  intro p e s m below meth c A C hnm hA hK hP hD hS ls hl
  have C : dk_C p s m meth c _ cX7_isPlain (some .boolean) 2 RX7 vsX7_isPlain := C
  obtain ⟨hx, hb, hr, hml, hown, hts, hlocks⟩ := id C
  have hl : lv_has ls 2 [(0, .ref oM), (1, .int x1)] := hl
  unfold fX7_isPlain at h
  refine lv_iload_n hx hb dX7_isPlain_0 rfl (lv_at hl 1 rfl) ?_
  refine lv_aload_n hx hb dX7_isPlain_1 rfl (lv_at hl 0 rfl) ?_
  refine va_get (D := (dC, dI)) (ci := 7) (v := .int M_battery) (C := RX7) (T := TX7) (N := 40) hx hb hts qX7_isPlain_X7 hown hK hP 0 rfl rfl 2 (by decide) (hts _ qX7_isPlain_f7) (fun _ h9 => h9) rfl dX7_isPlain_2 ?_
  refine lv_icmp_eq (tgt := 21) hx hb dX7_isPlain_5 (by decide) (fun c_1 => ?_) (fun c_1 => ?_)
  · replace h := dk_it c_1 h
    refine lv_iconst (v := 0) hx hb dX7_isPlain_21 (by decide) ?_
    have e9 := Option.some.inj h
    subst e9
    exact dk_zret C hK hP hD hS (by decide +kernel) rfl dX7_isPlain_22
  · replace h := dk_ie c_1 h
    refine lv_aload_n hx hb dX7_isPlain_8 rfl (lv_at hl 0 rfl) ?_
    refine va_get (D := (dC, dI)) (ci := 7) (v := .ref (aM 5)) (C := RX7) (T := TX7) (N := 40) hx hb hts qX7_isPlain_X7 hown hK hP 0 rfl rfl 5 (by decide) (hts _ qX7_isPlain_f20) (fun _ h9 => h9) rfl dX7_isPlain_9 ?_
    refine lv_iload_n hx hb dX7_isPlain_12 rfl (lv_at hl 1 rfl) ?_
    obtain ⟨g_2, h⟩ := dk_gd_to h
    have g_2 := dk_in_to g_2
    refine va_zald hx hb hK hP 3 2 rfl rfl g_2 dX7_isPlain_13 ?_
    refine lv_if_ne (tgt := 21) hx hb dX7_isPlain_14 (by decide) (fun c_3 => ?_) (fun c_3 => ?_)
    · replace h := dk_ie c_3 h
      refine lv_iconst (v := 0) hx hb dX7_isPlain_21 (by decide) ?_
      have e9 := Option.some.inj h
      subst e9
      exact dk_zret C hK hP hD hS (by decide +kernel) rfl dX7_isPlain_22
    · replace h := dk_it c_3 h
      refine lv_iconst (v := 1) hx hb dX7_isPlain_17 (by decide) ?_
      refine lv_goto (tgt := 22) hx hb dX7_isPlain_18 (by decide) ?_
      have e9 := Option.some.inj h
      subst e9
      exact dk_zret C hK hP hD hS (by decide +kernel) rfl dX7_isPlain_22
/-! ===== SquareTilerModel.knot ===== -/
abbrev rX7_knot : Room := { frames := 0, cells := 0, slots := 0, locals := 0 }
def ovX7_knot : List Cond := [Cond.fieldLink RX7 97 "SquareTilerModel" "knots" "I", Cond.fieldLink RX7 27 "SquareTilerModel" "turnMany" "[I", Cond.fieldLink RX7 33 "SquareTilerModel" "knotClaim" "[I", Cond.constant RX7 107 (-2000000000)]
def vsX7_knot : List Cond := .code yX7_knot cX7_knot 1 (some .int) :: (ovX7_knot ++ (wsX70 ++ []))
theorem qX7_knot_f97 : Cond.fieldLink RX7 97 "SquareTilerModel" "knots" "I" ∈ vsX7_knot := List.mem_cons_of_mem _ (List.mem_append_left _ (List.mem_of_getElem? (i := 0) rfl))
theorem qX7_knot_f27 : Cond.fieldLink RX7 27 "SquareTilerModel" "turnMany" "[I" ∈ vsX7_knot := List.mem_cons_of_mem _ (List.mem_append_left _ (List.mem_of_getElem? (i := 1) rfl))
theorem qX7_knot_f33 : Cond.fieldLink RX7 33 "SquareTilerModel" "knotClaim" "[I" ∈ vsX7_knot := List.mem_cons_of_mem _ (List.mem_append_left _ (List.mem_of_getElem? (i := 2) rfl))
theorem qX7_knot_k107 : Cond.constant RX7 107 (-2000000000) ∈ vsX7_knot := List.mem_cons_of_mem _ (List.mem_append_left _ (List.mem_of_getElem? (i := 3) rfl))
theorem qX7_knot_X7 : ∀ w ∈ u_ws RX7 TX7 40, w ∈ vsX7_knot := fun w h => List.mem_cons_of_mem _ (List.mem_append_right _ (List.mem_append_left _ h))
theorem gd_vsX7_knot : ∀ w ∈ vsX7_knot, goodWord w = true := dk_cons rfl (dk_app (dk_all (by decide +kernel)) (dk_app gd_wsX70 dk_nil))
def fX7_knot (M_knots : Int32) (M_turnMany M_knotClaim : Nat → Int32) : Option (Int32 × Int32 × (Nat → Int32) × (Nat → Int32)) := if M_knots = 12 then some ((-2000000000), M_knots, M_turnMany, M_knotClaim) else dk_gd (dk_in M_knots 12) (dk_let (upd M_turnMany M_knots.toNatClampNeg 0) (fun M_turnMany_3 => dk_let (upd M_knotClaim M_knots.toNatClampNeg 0) (fun M_knotClaim_4 => dk_let ((M_knots + 1)) (fun M_knots_5 => some ((M_knots_5 - 1), M_knots_5, M_turnMany_3, M_knotClaim_4)))))
section
variable {p : Program} {l : Launch} {e : Env} {s : State} {m : MethodId} {args : Array Value} {below : List Frame} {meth : Method} {c : Code} {dC : Nat → ClassId} {dI : Nat → Nat → Nat} {cI cJ cZ : ClassId} {A : Nat → Prop} {oM : Nat} {aM : Nat → Nat} {M_knots M_wires M_battery : Int32} {M_first M_second M_isCut M_turns M_turnMany M_wireClaim M_knotClaim : Nat → Int32} {M_hasKept M_keptKnots M_keptWires M_keptBattery : Int32} {M_keptFirst M_keptSecond M_keptTurns M_keptMany M_keptWire M_keptKnot M_keptCut : Nat → Int32} {M_told : Int32} {M_left M_low M_side M_faceOf : Nat → Int32} {M_faceMany : Int32} {M_table : Nat → Int64} {M_heights M_currents M_places : Nat → Int32} {M_treeMany : Int64} {M_wide M_high : Int32} {M_newTurns M_newMany M_lineHeight M_lineLeft M_lineRight : Nat → Int32} {M_lines : Int32}
end
set_option maxHeartbeats 4000000 in
set_option maxRecDepth 100000 in
theorem mX7_knot (l : Launch) (dC : Nat → ClassId) (dI : Nat → Nat → Nat) (cI cJ cZ : ClassId) {oM : Nat} {aM : Nat → Nat} {M_knots M_wires M_battery : Int32} {M_first M_second M_isCut M_turns M_turnMany M_wireClaim M_knotClaim : Nat → Int32} {M_hasKept M_keptKnots M_keptWires M_keptBattery : Int32} {M_keptFirst M_keptSecond M_keptTurns M_keptMany M_keptWire M_keptKnot M_keptCut : Nat → Int32} {M_told : Int32} {M_left M_low M_side M_faceOf : Nat → Int32} {M_faceMany : Int32} {M_table : Nat → Int64} {M_heights M_currents M_places : Nat → Int32} {M_treeMany : Int64} {M_wide M_high : Int32} {M_newTurns M_newMany M_lineHeight M_lineLeft M_lineRight : Nat → Int32} {M_lines : Int32} {out : Int32 × Int32 × (Nat → Int32) × (Nat → Int32)} (h : fX7_knot M_knots M_turnMany M_knotClaim = some out) (sz : Nat) : Met l yX7_knot vsX7_knot rX7_knot (va_Pc [.ref oM] (dk_Pre (dC, dI) (dk_ty cI cJ cZ) (wX7 oM aM cI cJ cZ M_knots M_wires M_battery M_first M_second M_isCut M_turns M_turnMany M_wireClaim M_knotClaim M_hasKept M_keptKnots M_keptWires M_keptBattery M_keptFirst M_keptSecond M_keptTurns M_keptMany M_keptWire M_keptKnot M_keptCut M_told M_left M_low M_side M_faceOf M_faceMany M_table M_heights M_currents M_places M_treeMany M_wide M_high M_newTurns M_newMany M_lineHeight M_lineLeft M_lineRight M_lines) sz)) (dk_Qi (dC, dI) (dk_ty cI cJ cZ) (wX7 oM aM cI cJ cZ out.2.1 M_wires M_battery M_first M_second M_isCut M_turns out.2.2.1 M_wireClaim out.2.2.2 M_hasKept M_keptKnots M_keptWires M_keptBattery M_keptFirst M_keptSecond M_keptTurns M_keptMany M_keptWire M_keptKnot M_keptCut M_told M_left M_low M_side M_faceOf M_faceMany M_table M_heights M_currents M_places M_treeMany M_wide M_high M_newTurns M_newMany M_lineHeight M_lineLeft M_lineRight M_lines) out.1 (va_A (wX7 oM aM cI cJ cZ M_knots M_wires M_battery M_first M_second M_isCut M_turns M_turnMany M_wireClaim M_knotClaim M_hasKept M_keptKnots M_keptWires M_keptBattery M_keptFirst M_keptSecond M_keptTurns M_keptMany M_keptWire M_keptKnot M_keptCut M_told M_left M_low M_side M_faceOf M_faceMany M_table M_heights M_currents M_places M_treeMany M_wide M_high M_newTurns M_newMany M_lineHeight M_lineLeft M_lineRight M_lines) sz)) 0 0 (va_A (wX7 oM aM cI cJ cZ M_knots M_wires M_battery M_first M_second M_isCut M_turns M_turnMany M_wireClaim M_knotClaim M_hasKept M_keptKnots M_keptWires M_keptBattery M_keptFirst M_keptSecond M_keptTurns M_keptMany M_keptWire M_keptKnot M_keptCut M_told M_left M_low M_side M_faceOf M_faceMany M_table M_heights M_currents M_places M_treeMany M_wide M_high M_newTurns M_newMany M_lineHeight M_lineLeft M_lineRight M_lines) sz) := by
  refine dk_met (cc := cX7_knot) (maxL := 1) (ret := (some .int)) (Qc := fun A => dk_Qi (dC, dI) (dk_ty cI cJ cZ) (wX7 oM aM cI cJ cZ out.2.1 M_wires M_battery M_first M_second M_isCut M_turns out.2.2.1 M_wireClaim out.2.2.2 M_hasKept M_keptKnots M_keptWires M_keptBattery M_keptFirst M_keptSecond M_keptTurns M_keptMany M_keptWire M_keptKnot M_keptCut M_told M_left M_low M_side M_faceOf M_faceMany M_table M_heights M_currents M_places M_treeMany M_wide M_high M_newTurns M_newMany M_lineHeight M_lineLeft M_lineRight M_lines) out.1 A) (by decide) rfl (Nat.le_of_ble_eq_true rfl) ?_
  intro p e s m below meth c A C hnm hA hK hP hD hS ls hl
  have C : dk_C p s m meth c _ cX7_knot (some .int) 1 RX7 vsX7_knot := C
  obtain ⟨hx, hb, hr, hml, hown, hts, hlocks⟩ := id C
  have hl : lv_has ls 1 [(0, .ref oM)] := hl
  unfold fX7_knot at h
  refine lv_aload_n hx hb dX7_knot_0 rfl (lv_at hl 0 rfl) ?_
  refine va_get (D := (dC, dI)) (ci := 7) (v := .int M_knots) (C := RX7) (T := TX7) (N := 40) hx hb hts qX7_knot_X7 hown hK hP 0 rfl rfl 0 (by decide) (hts _ qX7_knot_f97) (fun _ h9 => h9) rfl dX7_knot_1 ?_
  refine lv_bipush (v := 12) hx hb dX7_knot_4 (by decide) ?_
  refine lv_icmp_ne (tgt := 12) hx hb dX7_knot_6 (by decide) (fun c_1 => ?_) (fun c_1 => ?_)
  · replace h := dk_ie c_1 h
    refine lv_aload_n hx hb dX7_knot_12 rfl (lv_at hl 0 rfl) ?_
    refine va_get (D := (dC, dI)) (ci := 7) (v := .ref (aM 7)) (C := RX7) (T := TX7) (N := 40) hx hb hts qX7_knot_X7 hown hK hP 0 rfl rfl 7 (by decide) (hts _ qX7_knot_f27) (fun _ h9 => h9) rfl dX7_knot_13 ?_
    refine lv_aload_n hx hb dX7_knot_16 rfl (lv_at hl 0 rfl) ?_
    refine va_get (D := (dC, dI)) (ci := 7) (v := .int M_knots) (C := RX7) (T := TX7) (N := 40) hx hb hts qX7_knot_X7 hown hK hP 0 rfl rfl 0 (by decide) (hts _ qX7_knot_f97) (fun _ h9 => h9) rfl dX7_knot_17 ?_
    refine lv_iconst (v := 0) hx hb dX7_knot_20 (by decide) ?_
    obtain ⟨g_2, h⟩ := dk_gd_to h
    have g_2 := dk_in_to g_2
    refine va_iast hx hb hK hP hD hS 5 0 rfl rfl g_2 dX7_knot_21 (fun H locs hP hD hS => ?_)
    obtain ⟨M_turnMany_3, eM_turnMany_3⟩ : ∃ z : Nat → Int32, z = upd M_turnMany M_knots.toNatClampNeg 0 := ⟨_, rfl⟩
    replace h := dk_let_to eM_turnMany_3 h
    have hP : va_P (dC, dI) vwCl (wX7 oM aM cI cJ cZ M_knots M_wires M_battery M_first M_second M_isCut M_turns M_turnMany_3 M_wireClaim M_knotClaim M_hasKept M_keptKnots M_keptWires M_keptBattery M_keptFirst M_keptSecond M_keptTurns M_keptMany M_keptWire M_keptKnot M_keptCut M_told M_left M_low M_side M_faceOf M_faceMany M_table M_heights M_currents M_places M_treeMany M_wide M_high M_newTurns M_newMany M_lineHeight M_lineLeft M_lineRight M_lines) H := by rw [eM_turnMany_3]; exact hP
    have hD : va_D A (wX7 oM aM cI cJ cZ M_knots M_wires M_battery M_first M_second M_isCut M_turns M_turnMany_3 M_wireClaim M_knotClaim M_hasKept M_keptKnots M_keptWires M_keptBattery M_keptFirst M_keptSecond M_keptTurns M_keptMany M_keptWire M_keptKnot M_keptCut M_told M_left M_low M_side M_faceOf M_faceMany M_table M_heights M_currents M_places M_treeMany M_wide M_high M_newTurns M_newMany M_lineHeight M_lineLeft M_lineRight M_lines) := by rw [eM_turnMany_3]; exact hD
    refine lv_aload_n hx hb dX7_knot_22 rfl (lv_at hl 0 rfl) ?_
    refine va_get (D := (dC, dI)) (ci := 7) (v := .ref (aM 9)) (C := RX7) (T := TX7) (N := 40) hx hb hts qX7_knot_X7 hown hK hP 0 rfl rfl 9 (by decide) (hts _ qX7_knot_f33) (fun _ h9 => h9) rfl dX7_knot_23 ?_
    refine lv_aload_n hx hb dX7_knot_26 rfl (lv_at hl 0 rfl) ?_
    refine va_get (D := (dC, dI)) (ci := 7) (v := .int M_knots) (C := RX7) (T := TX7) (N := 40) hx hb hts qX7_knot_X7 hown hK hP 0 rfl rfl 0 (by decide) (hts _ qX7_knot_f97) (fun _ h9 => h9) rfl dX7_knot_27 ?_
    refine lv_iconst (v := 0) hx hb dX7_knot_30 (by decide) ?_
    refine va_iast hx hb hK hP hD hS 7 0 rfl rfl g_2 dX7_knot_31 (fun H locs hP hD hS => ?_)
    obtain ⟨M_knotClaim_4, eM_knotClaim_4⟩ : ∃ z : Nat → Int32, z = upd M_knotClaim M_knots.toNatClampNeg 0 := ⟨_, rfl⟩
    replace h := dk_let_to eM_knotClaim_4 h
    have hP : va_P (dC, dI) vwCl (wX7 oM aM cI cJ cZ M_knots M_wires M_battery M_first M_second M_isCut M_turns M_turnMany_3 M_wireClaim M_knotClaim_4 M_hasKept M_keptKnots M_keptWires M_keptBattery M_keptFirst M_keptSecond M_keptTurns M_keptMany M_keptWire M_keptKnot M_keptCut M_told M_left M_low M_side M_faceOf M_faceMany M_table M_heights M_currents M_places M_treeMany M_wide M_high M_newTurns M_newMany M_lineHeight M_lineLeft M_lineRight M_lines) H := by rw [eM_knotClaim_4]; exact hP
    have hD : va_D A (wX7 oM aM cI cJ cZ M_knots M_wires M_battery M_first M_second M_isCut M_turns M_turnMany_3 M_wireClaim M_knotClaim_4 M_hasKept M_keptKnots M_keptWires M_keptBattery M_keptFirst M_keptSecond M_keptTurns M_keptMany M_keptWire M_keptKnot M_keptCut M_told M_left M_low M_side M_faceOf M_faceMany M_table M_heights M_currents M_places M_treeMany M_wide M_high M_newTurns M_newMany M_lineHeight M_lineLeft M_lineRight M_lines) := by rw [eM_knotClaim_4]; exact hD
    refine lv_aload_n hx hb dX7_knot_32 rfl (lv_at hl 0 rfl) ?_
    refine lv_dup hx hb dX7_knot_33 rfl ?_
    refine va_get (D := (dC, dI)) (ci := 7) (v := .int M_knots) (C := RX7) (T := TX7) (N := 40) hx hb hts qX7_knot_X7 hown hK hP 0 rfl rfl 0 (by decide) (hts _ qX7_knot_f97) (fun _ h9 => h9) rfl dX7_knot_34 ?_
    refine lv_iconst (v := 1) hx hb dX7_knot_37 (by decide) ?_
    refine lv_iadd hx hb dX7_knot_38 ?_
    refine va_put (D := (dC, dI)) (ci := 7) (v := .int (M_knots + 1)) (ty := .int) (C := RX7) (T := TX7) (N := 40) hx hb hts qX7_knot_X7 tyX7 tyX7_ok nmX7 hown hK hP hD hS 0 rfl rfl 0 (by decide) (hts _ qX7_knot_f97) (fun _ h9 => h9) rfl (by decide +kernel) rfl rfl (Nat.le_of_ble_eq_true rfl) dX7_knot_39 (fun H locs hP hD hS => ?_)
    obtain ⟨M_knots_5, eM_knots_5⟩ : ∃ z : Int32, z = (M_knots + 1) := ⟨_, rfl⟩
    replace h := dk_let_to eM_knots_5 h
    have hP : va_P (dC, dI) vwCl (wX7 oM aM cI cJ cZ M_knots_5 M_wires M_battery M_first M_second M_isCut M_turns M_turnMany_3 M_wireClaim M_knotClaim_4 M_hasKept M_keptKnots M_keptWires M_keptBattery M_keptFirst M_keptSecond M_keptTurns M_keptMany M_keptWire M_keptKnot M_keptCut M_told M_left M_low M_side M_faceOf M_faceMany M_table M_heights M_currents M_places M_treeMany M_wide M_high M_newTurns M_newMany M_lineHeight M_lineLeft M_lineRight M_lines) H := by rw [eM_knots_5]; exact hP
    have hD : va_D A (wX7 oM aM cI cJ cZ M_knots_5 M_wires M_battery M_first M_second M_isCut M_turns M_turnMany_3 M_wireClaim M_knotClaim_4 M_hasKept M_keptKnots M_keptWires M_keptBattery M_keptFirst M_keptSecond M_keptTurns M_keptMany M_keptWire M_keptKnot M_keptCut M_told M_left M_low M_side M_faceOf M_faceMany M_table M_heights M_currents M_places M_treeMany M_wide M_high M_newTurns M_newMany M_lineHeight M_lineLeft M_lineRight M_lines) := by rw [eM_knots_5]; exact hD
    refine lv_aload_n hx hb dX7_knot_42 rfl (lv_at hl 0 rfl) ?_
    refine va_get (D := (dC, dI)) (ci := 7) (v := .int M_knots_5) (C := RX7) (T := TX7) (N := 40) hx hb hts qX7_knot_X7 hown hK hP 0 rfl rfl 0 (by decide) (hts _ qX7_knot_f97) (fun _ h9 => h9) rfl dX7_knot_43 ?_
    refine lv_iconst (v := 1) hx hb dX7_knot_46 (by decide) ?_
    refine lv_isub hx hb dX7_knot_47 ?_
    have e9 := Option.some.inj h
    subst e9
    exact dk_iret C hK hP hD hS rfl dX7_knot_48
  · replace h := dk_it c_1 h
    refine lv_ldc (v := (-2000000000)) hx hb hown (hts _ qX7_knot_k107) dX7_knot_9 ?_
    have e9 := Option.some.inj h
    subst e9
    exact dk_iret C hK hP hD hS rfl dX7_knot_11
/-! ===== SquareTilerModel.wire ===== -/
abbrev rX7_wire : Room := { frames := 2, cells := 0, slots := 0, locals := 43 }
def ovX7_wire : List Cond := [Cond.constant RX7 107 (-2000000000), Cond.fieldLink RX7 104 "SquareTilerModel" "wires" "I", Cond.fieldLink RX7 13 "SquareTilerModel" "first" "[I", Cond.fieldLink RX7 17 "SquareTilerModel" "second" "[I", Cond.fieldLink RX7 20 "SquareTilerModel" "isCut" "[Z", Cond.fieldLink RX7 30 "SquareTilerModel" "wireClaim" "[I", Cond.methodLink RX7 108 yX7_isKnot, Cond.instanceMethod yX7_isKnot, Cond.selects RX7 yX7_isKnot yX7_isKnot, Cond.initialized RX7]
def vsX7_wire : List Cond := .code yX7_wire cX7_wire 3 (some .int) :: (ovX7_wire ++ (wsX70 ++ (vsX7_isKnot ++ [])))
theorem qX7_wire_k107 : Cond.constant RX7 107 (-2000000000) ∈ vsX7_wire := List.mem_cons_of_mem _ (List.mem_append_left _ (List.mem_of_getElem? (i := 0) rfl))
theorem qX7_wire_f104 : Cond.fieldLink RX7 104 "SquareTilerModel" "wires" "I" ∈ vsX7_wire := List.mem_cons_of_mem _ (List.mem_append_left _ (List.mem_of_getElem? (i := 1) rfl))
theorem qX7_wire_f13 : Cond.fieldLink RX7 13 "SquareTilerModel" "first" "[I" ∈ vsX7_wire := List.mem_cons_of_mem _ (List.mem_append_left _ (List.mem_of_getElem? (i := 2) rfl))
theorem qX7_wire_f17 : Cond.fieldLink RX7 17 "SquareTilerModel" "second" "[I" ∈ vsX7_wire := List.mem_cons_of_mem _ (List.mem_append_left _ (List.mem_of_getElem? (i := 3) rfl))
theorem qX7_wire_f20 : Cond.fieldLink RX7 20 "SquareTilerModel" "isCut" "[Z" ∈ vsX7_wire := List.mem_cons_of_mem _ (List.mem_append_left _ (List.mem_of_getElem? (i := 4) rfl))
theorem qX7_wire_f30 : Cond.fieldLink RX7 30 "SquareTilerModel" "wireClaim" "[I" ∈ vsX7_wire := List.mem_cons_of_mem _ (List.mem_append_left _ (List.mem_of_getElem? (i := 5) rfl))
theorem qX7_wire_w6 : Cond.methodLink RX7 108 yX7_isKnot ∈ vsX7_wire := List.mem_cons_of_mem _ (List.mem_append_left _ (List.mem_of_getElem? (i := 6) rfl))
theorem qX7_wire_w7 : Cond.instanceMethod yX7_isKnot ∈ vsX7_wire := List.mem_cons_of_mem _ (List.mem_append_left _ (List.mem_of_getElem? (i := 7) rfl))
theorem qX7_wire_w8 : Cond.selects RX7 yX7_isKnot yX7_isKnot ∈ vsX7_wire := List.mem_cons_of_mem _ (List.mem_append_left _ (List.mem_of_getElem? (i := 8) rfl))
theorem qX7_wire_w9 : Cond.initialized RX7 ∈ vsX7_wire := List.mem_cons_of_mem _ (List.mem_append_left _ (List.mem_of_getElem? (i := 9) rfl))
theorem qX7_wire_X7 : ∀ w ∈ u_ws RX7 TX7 40, w ∈ vsX7_wire := fun w h => List.mem_cons_of_mem _ (List.mem_append_right _ (List.mem_append_left _ h))
theorem gd_vsX7_wire : ∀ w ∈ vsX7_wire, goodWord w = true := dk_cons rfl (dk_app (dk_all (by decide +kernel)) (dk_app gd_wsX70 (dk_app gd_vsX7_isKnot dk_nil)))
theorem gvX7_wire_X7_isKnot : GoodIn vsX7_wire (wsV RX7 108 RX7 yX7_isKnot vsX7_isKnot) := goodIn_app (dk_g4 qX7_wire_w6 qX7_wire_w7 qX7_wire_w8 qX7_wire_w9 rfl) (dk_gIn (fun w h => List.mem_cons_of_mem _ (List.mem_append_right _ (List.mem_append_right _ (List.mem_append_left _ h)))) gd_vsX7_isKnot)
def fX7_wire (M_knots M_wires : Int32) (M_first M_second M_isCut M_wireClaim : Nat → Int32) (x1 x2 : Int32) : Option (Int32 × Int32 × (Nat → Int32) × (Nat → Int32) × (Nat → Int32) × (Nat → Int32)) := dk_bnd (fX7_isKnot M_knots x1) (fun r_1 => if r_1 = 0 then some ((-2000000000), M_wires, M_first, M_second, M_isCut, M_wireClaim) else dk_bnd (fX7_isKnot M_knots x2) (fun r_3 => if r_3 = 0 then some ((-2000000000), M_wires, M_first, M_second, M_isCut, M_wireClaim) else if x1 = x2 then some ((-2000000000), M_wires, M_first, M_second, M_isCut, M_wireClaim) else if M_wires = 22 then some ((-2000000000), M_wires, M_first, M_second, M_isCut, M_wireClaim) else dk_gd (dk_in M_wires 22) (dk_let (upd M_first M_wires.toNatClampNeg x1) (fun M_first_8 => dk_let (upd M_second M_wires.toNatClampNeg x2) (fun M_second_9 => dk_let (upd M_isCut M_wires.toNatClampNeg (vp_nar .boolean 0)) (fun M_isCut_10 => dk_let (upd M_wireClaim M_wires.toNatClampNeg 0) (fun M_wireClaim_11 => dk_let ((M_wires + 1)) (fun M_wires_12 => some ((M_wires_12 - 1), M_wires_12, M_first_8, M_second_9, M_isCut_10, M_wireClaim_11)))))))))
section
variable {p : Program} {l : Launch} {e : Env} {s : State} {m : MethodId} {args : Array Value} {below : List Frame} {meth : Method} {c : Code} {dC : Nat → ClassId} {dI : Nat → Nat → Nat} {cI cJ cZ : ClassId} {A : Nat → Prop} {oM : Nat} {aM : Nat → Nat} {M_knots M_wires M_battery : Int32} {M_first M_second M_isCut M_turns M_turnMany M_wireClaim M_knotClaim : Nat → Int32} {M_hasKept M_keptKnots M_keptWires M_keptBattery : Int32} {M_keptFirst M_keptSecond M_keptTurns M_keptMany M_keptWire M_keptKnot M_keptCut : Nat → Int32} {M_told : Int32} {M_left M_low M_side M_faceOf : Nat → Int32} {M_faceMany : Int32} {M_table : Nat → Int64} {M_heights M_currents M_places : Nat → Int32} {M_treeMany : Int64} {M_wide M_high : Int32} {M_newTurns M_newMany M_lineHeight M_lineLeft M_lineRight : Nat → Int32} {M_lines : Int32}
end
set_option maxHeartbeats 4000000 in
set_option maxRecDepth 100000 in
theorem mX7_wire (l : Launch) (dC : Nat → ClassId) (dI : Nat → Nat → Nat) (cI cJ cZ : ClassId) {oM : Nat} {aM : Nat → Nat} {M_knots M_wires M_battery : Int32} {M_first M_second M_isCut M_turns M_turnMany M_wireClaim M_knotClaim : Nat → Int32} {M_hasKept M_keptKnots M_keptWires M_keptBattery : Int32} {M_keptFirst M_keptSecond M_keptTurns M_keptMany M_keptWire M_keptKnot M_keptCut : Nat → Int32} {M_told : Int32} {M_left M_low M_side M_faceOf : Nat → Int32} {M_faceMany : Int32} {M_table : Nat → Int64} {M_heights M_currents M_places : Nat → Int32} {M_treeMany : Int64} {M_wide M_high : Int32} {M_newTurns M_newMany M_lineHeight M_lineLeft M_lineRight : Nat → Int32} {M_lines : Int32} {x1 x2 : Int32} {out : Int32 × Int32 × (Nat → Int32) × (Nat → Int32) × (Nat → Int32) × (Nat → Int32)} (h : fX7_wire M_knots M_wires M_first M_second M_isCut M_wireClaim x1 x2 = some out) (sz : Nat) : Met l yX7_wire vsX7_wire rX7_wire (va_Pc [.ref oM, .int x1, .int x2] (dk_Pre (dC, dI) (dk_ty cI cJ cZ) (wX7 oM aM cI cJ cZ M_knots M_wires M_battery M_first M_second M_isCut M_turns M_turnMany M_wireClaim M_knotClaim M_hasKept M_keptKnots M_keptWires M_keptBattery M_keptFirst M_keptSecond M_keptTurns M_keptMany M_keptWire M_keptKnot M_keptCut M_told M_left M_low M_side M_faceOf M_faceMany M_table M_heights M_currents M_places M_treeMany M_wide M_high M_newTurns M_newMany M_lineHeight M_lineLeft M_lineRight M_lines) sz)) (dk_Qi (dC, dI) (dk_ty cI cJ cZ) (wX7 oM aM cI cJ cZ M_knots out.2.1 M_battery out.2.2.1 out.2.2.2.1 out.2.2.2.2.1 M_turns M_turnMany out.2.2.2.2.2 M_knotClaim M_hasKept M_keptKnots M_keptWires M_keptBattery M_keptFirst M_keptSecond M_keptTurns M_keptMany M_keptWire M_keptKnot M_keptCut M_told M_left M_low M_side M_faceOf M_faceMany M_table M_heights M_currents M_places M_treeMany M_wide M_high M_newTurns M_newMany M_lineHeight M_lineLeft M_lineRight M_lines) out.1 (va_A (wX7 oM aM cI cJ cZ M_knots M_wires M_battery M_first M_second M_isCut M_turns M_turnMany M_wireClaim M_knotClaim M_hasKept M_keptKnots M_keptWires M_keptBattery M_keptFirst M_keptSecond M_keptTurns M_keptMany M_keptWire M_keptKnot M_keptCut M_told M_left M_low M_side M_faceOf M_faceMany M_table M_heights M_currents M_places M_treeMany M_wide M_high M_newTurns M_newMany M_lineHeight M_lineLeft M_lineRight M_lines) sz)) 0 0 (va_A (wX7 oM aM cI cJ cZ M_knots M_wires M_battery M_first M_second M_isCut M_turns M_turnMany M_wireClaim M_knotClaim M_hasKept M_keptKnots M_keptWires M_keptBattery M_keptFirst M_keptSecond M_keptTurns M_keptMany M_keptWire M_keptKnot M_keptCut M_told M_left M_low M_side M_faceOf M_faceMany M_table M_heights M_currents M_places M_treeMany M_wide M_high M_newTurns M_newMany M_lineHeight M_lineLeft M_lineRight M_lines) sz) := by
  refine dk_met (cc := cX7_wire) (maxL := 3) (ret := (some .int)) (Qc := fun A => dk_Qi (dC, dI) (dk_ty cI cJ cZ) (wX7 oM aM cI cJ cZ M_knots out.2.1 M_battery out.2.2.1 out.2.2.2.1 out.2.2.2.2.1 M_turns M_turnMany out.2.2.2.2.2 M_knotClaim M_hasKept M_keptKnots M_keptWires M_keptBattery M_keptFirst M_keptSecond M_keptTurns M_keptMany M_keptWire M_keptKnot M_keptCut M_told M_left M_low M_side M_faceOf M_faceMany M_table M_heights M_currents M_places M_treeMany M_wide M_high M_newTurns M_newMany M_lineHeight M_lineLeft M_lineRight M_lines) out.1 A) (by decide) rfl (Nat.le_of_ble_eq_true rfl) ?_
  intro p e s m below meth c A C hnm hA hK hP hD hS ls hl
  have C : dk_C p s m meth c _ cX7_wire (some .int) 3 RX7 vsX7_wire := C
  obtain ⟨hx, hb, hr, hml, hown, hts, hlocks⟩ := id C
  have hl : lv_has ls 3 [(0, .ref oM), (1, .int x1), (2, .int x2)] := hl
  unfold fX7_wire at h
  refine lv_aload_n hx hb dX7_wire_0 rfl (lv_at hl 0 rfl) ?_
  refine lv_iload_n hx hb dX7_wire_1 rfl (lv_at hl 1 rfl) ?_
  obtain ⟨r_1, hcr_1, h⟩ := dk_bnd_to h
  refine dk_rVi (b := oM) (As := [.int x1]) (rest := []) (wc := (wX7 oM aM cI cJ cZ M_knots M_wires M_battery M_first M_second M_isCut M_turns M_turnMany M_wireClaim M_knotClaim M_hasKept M_keptKnots M_keptWires M_keptBattery M_keptFirst M_keptSecond M_keptTurns M_keptMany M_keptWire M_keptKnot M_keptCut M_told M_left M_low M_side M_faceOf M_faceMany M_table M_heights M_currents M_places M_treeMany M_wide M_high M_newTurns M_newMany M_lineHeight M_lineLeft M_lineRight M_lines)) C hK hP hD hS hA (mX7_isKnot l dC dI cI cJ cZ hcr_1 _) (cwV 1 hts gvX7_wire_X7_isKnot rfl rfl rfl (by decide +kernel) ⟨Nat.le_of_ble_eq_true rfl, Nat.le_of_ble_eq_true rfl⟩) [0, 1, 2, 3, 4, 5, 6, 7, 8, 9, 10, 11, 12, 13, 14, 15, 16, 17, 18, 19, 20, 21, 22, 23, 24, 25, 26, 27] rfl (by decide) 0 7 rfl rfl rfl hl.1 rfl (Nat.le_of_ble_eq_true rfl) ⟨Nat.le_of_ble_eq_true rfl, Nat.le_of_ble_eq_true rfl⟩ dX7_wire_2 (fun H locs hP hD hS => ?_)
  refine lv_if_eq (tgt := 30) hx hb dX7_wire_5 (by decide) (fun c_2 => ?_) (fun c_2 => ?_)
  · replace h := dk_it c_2 h
    refine lv_ldc (v := (-2000000000)) hx hb hown (hts _ qX7_wire_k107) dX7_wire_30 ?_
    have e9 := Option.some.inj h
    subst e9
    exact dk_iret C hK hP hD hS rfl dX7_wire_32
  · replace h := dk_ie c_2 h
    refine lv_aload_n hx hb dX7_wire_8 rfl (lv_at hl 0 rfl) ?_
    refine lv_iload_n hx hb dX7_wire_9 rfl (lv_at hl 2 rfl) ?_
    obtain ⟨r_3, hcr_3, h⟩ := dk_bnd_to h
    refine dk_rVi (b := oM) (As := [.int x2]) (rest := []) (wc := (wX7 oM aM cI cJ cZ M_knots M_wires M_battery M_first M_second M_isCut M_turns M_turnMany M_wireClaim M_knotClaim M_hasKept M_keptKnots M_keptWires M_keptBattery M_keptFirst M_keptSecond M_keptTurns M_keptMany M_keptWire M_keptKnot M_keptCut M_told M_left M_low M_side M_faceOf M_faceMany M_table M_heights M_currents M_places M_treeMany M_wide M_high M_newTurns M_newMany M_lineHeight M_lineLeft M_lineRight M_lines)) C hK hP hD hS hA (mX7_isKnot l dC dI cI cJ cZ hcr_3 _) (cwV 1 hts gvX7_wire_X7_isKnot rfl rfl rfl (by decide +kernel) ⟨Nat.le_of_ble_eq_true rfl, Nat.le_of_ble_eq_true rfl⟩) [0, 1, 2, 3, 4, 5, 6, 7, 8, 9, 10, 11, 12, 13, 14, 15, 16, 17, 18, 19, 20, 21, 22, 23, 24, 25, 26, 27] rfl (by decide) 0 7 rfl rfl rfl hl.1 rfl (Nat.le_of_ble_eq_true rfl) ⟨Nat.le_of_ble_eq_true rfl, Nat.le_of_ble_eq_true rfl⟩ dX7_wire_10 (fun H locs hP hD hS => ?_)
    refine lv_if_eq (tgt := 30) hx hb dX7_wire_13 (by decide) (fun c_4 => ?_) (fun c_4 => ?_)
    · replace h := dk_it c_4 h
      refine lv_ldc (v := (-2000000000)) hx hb hown (hts _ qX7_wire_k107) dX7_wire_30 ?_
      have e9 := Option.some.inj h
      subst e9
      exact dk_iret C hK hP hD hS rfl dX7_wire_32
    · replace h := dk_ie c_4 h
      refine lv_iload_n hx hb dX7_wire_16 rfl (lv_at hl 1 rfl) ?_
      refine lv_iload_n hx hb dX7_wire_17 rfl (lv_at hl 2 rfl) ?_
      refine lv_icmp_eq (tgt := 30) hx hb dX7_wire_18 (by decide) (fun c_5 => ?_) (fun c_5 => ?_)
      · replace h := dk_it c_5 h
        refine lv_ldc (v := (-2000000000)) hx hb hown (hts _ qX7_wire_k107) dX7_wire_30 ?_
        have e9 := Option.some.inj h
        subst e9
        exact dk_iret C hK hP hD hS rfl dX7_wire_32
      · replace h := dk_ie c_5 h
        refine lv_aload_n hx hb dX7_wire_21 rfl (lv_at hl 0 rfl) ?_
        refine va_get (D := (dC, dI)) (ci := 7) (v := .int M_wires) (C := RX7) (T := TX7) (N := 40) hx hb hts qX7_wire_X7 hown hK hP 0 rfl rfl 1 (by decide) (hts _ qX7_wire_f104) (fun _ h9 => h9) rfl dX7_wire_22 ?_
        refine lv_bipush (v := 22) hx hb dX7_wire_25 (by decide) ?_
        refine lv_icmp_ne (tgt := 33) hx hb dX7_wire_27 (by decide) (fun c_6 => ?_) (fun c_6 => ?_)
        · replace h := dk_ie c_6 h
          refine lv_aload_n hx hb dX7_wire_33 rfl (lv_at hl 0 rfl) ?_
          refine va_get (D := (dC, dI)) (ci := 7) (v := .ref (aM 3)) (C := RX7) (T := TX7) (N := 40) hx hb hts qX7_wire_X7 hown hK hP 0 rfl rfl 3 (by decide) (hts _ qX7_wire_f13) (fun _ h9 => h9) rfl dX7_wire_34 ?_
          refine lv_aload_n hx hb dX7_wire_37 rfl (lv_at hl 0 rfl) ?_
          refine va_get (D := (dC, dI)) (ci := 7) (v := .int M_wires) (C := RX7) (T := TX7) (N := 40) hx hb hts qX7_wire_X7 hown hK hP 0 rfl rfl 1 (by decide) (hts _ qX7_wire_f104) (fun _ h9 => h9) rfl dX7_wire_38 ?_
          refine lv_iload_n hx hb dX7_wire_41 rfl (lv_at hl 1 rfl) ?_
          obtain ⟨g_7, h⟩ := dk_gd_to h
          have g_7 := dk_in_to g_7
          refine va_iast hx hb hK hP hD hS 1 0 rfl rfl g_7 dX7_wire_42 (fun H locs hP hD hS => ?_)
          obtain ⟨M_first_8, eM_first_8⟩ : ∃ z : Nat → Int32, z = upd M_first M_wires.toNatClampNeg x1 := ⟨_, rfl⟩
          replace h := dk_let_to eM_first_8 h
          have hP : va_P (dC, dI) vwCl (wX7 oM aM cI cJ cZ M_knots M_wires M_battery M_first_8 M_second M_isCut M_turns M_turnMany M_wireClaim M_knotClaim M_hasKept M_keptKnots M_keptWires M_keptBattery M_keptFirst M_keptSecond M_keptTurns M_keptMany M_keptWire M_keptKnot M_keptCut M_told M_left M_low M_side M_faceOf M_faceMany M_table M_heights M_currents M_places M_treeMany M_wide M_high M_newTurns M_newMany M_lineHeight M_lineLeft M_lineRight M_lines) H := by rw [eM_first_8]; exact hP
          have hD : va_D A (wX7 oM aM cI cJ cZ M_knots M_wires M_battery M_first_8 M_second M_isCut M_turns M_turnMany M_wireClaim M_knotClaim M_hasKept M_keptKnots M_keptWires M_keptBattery M_keptFirst M_keptSecond M_keptTurns M_keptMany M_keptWire M_keptKnot M_keptCut M_told M_left M_low M_side M_faceOf M_faceMany M_table M_heights M_currents M_places M_treeMany M_wide M_high M_newTurns M_newMany M_lineHeight M_lineLeft M_lineRight M_lines) := by rw [eM_first_8]; exact hD
          refine lv_aload_n hx hb dX7_wire_43 rfl (lv_at hl 0 rfl) ?_
          refine va_get (D := (dC, dI)) (ci := 7) (v := .ref (aM 4)) (C := RX7) (T := TX7) (N := 40) hx hb hts qX7_wire_X7 hown hK hP 0 rfl rfl 4 (by decide) (hts _ qX7_wire_f17) (fun _ h9 => h9) rfl dX7_wire_44 ?_
          refine lv_aload_n hx hb dX7_wire_47 rfl (lv_at hl 0 rfl) ?_
          refine va_get (D := (dC, dI)) (ci := 7) (v := .int M_wires) (C := RX7) (T := TX7) (N := 40) hx hb hts qX7_wire_X7 hown hK hP 0 rfl rfl 1 (by decide) (hts _ qX7_wire_f104) (fun _ h9 => h9) rfl dX7_wire_48 ?_
          refine lv_iload_n hx hb dX7_wire_51 rfl (lv_at hl 2 rfl) ?_
          refine va_iast hx hb hK hP hD hS 2 0 rfl rfl g_7 dX7_wire_52 (fun H locs hP hD hS => ?_)
          obtain ⟨M_second_9, eM_second_9⟩ : ∃ z : Nat → Int32, z = upd M_second M_wires.toNatClampNeg x2 := ⟨_, rfl⟩
          replace h := dk_let_to eM_second_9 h
          have hP : va_P (dC, dI) vwCl (wX7 oM aM cI cJ cZ M_knots M_wires M_battery M_first_8 M_second_9 M_isCut M_turns M_turnMany M_wireClaim M_knotClaim M_hasKept M_keptKnots M_keptWires M_keptBattery M_keptFirst M_keptSecond M_keptTurns M_keptMany M_keptWire M_keptKnot M_keptCut M_told M_left M_low M_side M_faceOf M_faceMany M_table M_heights M_currents M_places M_treeMany M_wide M_high M_newTurns M_newMany M_lineHeight M_lineLeft M_lineRight M_lines) H := by rw [eM_second_9]; exact hP
          have hD : va_D A (wX7 oM aM cI cJ cZ M_knots M_wires M_battery M_first_8 M_second_9 M_isCut M_turns M_turnMany M_wireClaim M_knotClaim M_hasKept M_keptKnots M_keptWires M_keptBattery M_keptFirst M_keptSecond M_keptTurns M_keptMany M_keptWire M_keptKnot M_keptCut M_told M_left M_low M_side M_faceOf M_faceMany M_table M_heights M_currents M_places M_treeMany M_wide M_high M_newTurns M_newMany M_lineHeight M_lineLeft M_lineRight M_lines) := by rw [eM_second_9]; exact hD
          refine lv_aload_n hx hb dX7_wire_53 rfl (lv_at hl 0 rfl) ?_
          refine va_get (D := (dC, dI)) (ci := 7) (v := .ref (aM 5)) (C := RX7) (T := TX7) (N := 40) hx hb hts qX7_wire_X7 hown hK hP 0 rfl rfl 5 (by decide) (hts _ qX7_wire_f20) (fun _ h9 => h9) rfl dX7_wire_54 ?_
          refine lv_aload_n hx hb dX7_wire_57 rfl (lv_at hl 0 rfl) ?_
          refine va_get (D := (dC, dI)) (ci := 7) (v := .int M_wires) (C := RX7) (T := TX7) (N := 40) hx hb hts qX7_wire_X7 hown hK hP 0 rfl rfl 1 (by decide) (hts _ qX7_wire_f104) (fun _ h9 => h9) rfl dX7_wire_58 ?_
          refine lv_iconst (v := 0) hx hb dX7_wire_61 (by decide) ?_
          refine va_zast hx hb hK hP hD hS 3 2 rfl rfl g_7 dX7_wire_62 (fun H locs hP hD hS => ?_)
          obtain ⟨M_isCut_10, eM_isCut_10⟩ : ∃ z : Nat → Int32, z = upd M_isCut M_wires.toNatClampNeg (vp_nar .boolean 0) := ⟨_, rfl⟩
          replace h := dk_let_to eM_isCut_10 h
          have hP : va_P (dC, dI) vwCl (wX7 oM aM cI cJ cZ M_knots M_wires M_battery M_first_8 M_second_9 M_isCut_10 M_turns M_turnMany M_wireClaim M_knotClaim M_hasKept M_keptKnots M_keptWires M_keptBattery M_keptFirst M_keptSecond M_keptTurns M_keptMany M_keptWire M_keptKnot M_keptCut M_told M_left M_low M_side M_faceOf M_faceMany M_table M_heights M_currents M_places M_treeMany M_wide M_high M_newTurns M_newMany M_lineHeight M_lineLeft M_lineRight M_lines) H := by rw [eM_isCut_10]; exact hP
          have hD : va_D A (wX7 oM aM cI cJ cZ M_knots M_wires M_battery M_first_8 M_second_9 M_isCut_10 M_turns M_turnMany M_wireClaim M_knotClaim M_hasKept M_keptKnots M_keptWires M_keptBattery M_keptFirst M_keptSecond M_keptTurns M_keptMany M_keptWire M_keptKnot M_keptCut M_told M_left M_low M_side M_faceOf M_faceMany M_table M_heights M_currents M_places M_treeMany M_wide M_high M_newTurns M_newMany M_lineHeight M_lineLeft M_lineRight M_lines) := by rw [eM_isCut_10]; exact hD
          refine lv_aload_n hx hb dX7_wire_63 rfl (lv_at hl 0 rfl) ?_
          refine va_get (D := (dC, dI)) (ci := 7) (v := .ref (aM 8)) (C := RX7) (T := TX7) (N := 40) hx hb hts qX7_wire_X7 hown hK hP 0 rfl rfl 8 (by decide) (hts _ qX7_wire_f30) (fun _ h9 => h9) rfl dX7_wire_64 ?_
          refine lv_aload_n hx hb dX7_wire_67 rfl (lv_at hl 0 rfl) ?_
          refine va_get (D := (dC, dI)) (ci := 7) (v := .int M_wires) (C := RX7) (T := TX7) (N := 40) hx hb hts qX7_wire_X7 hown hK hP 0 rfl rfl 1 (by decide) (hts _ qX7_wire_f104) (fun _ h9 => h9) rfl dX7_wire_68 ?_
          refine lv_iconst (v := 0) hx hb dX7_wire_71 (by decide) ?_
          refine va_iast hx hb hK hP hD hS 6 0 rfl rfl g_7 dX7_wire_72 (fun H locs hP hD hS => ?_)
          obtain ⟨M_wireClaim_11, eM_wireClaim_11⟩ : ∃ z : Nat → Int32, z = upd M_wireClaim M_wires.toNatClampNeg 0 := ⟨_, rfl⟩
          replace h := dk_let_to eM_wireClaim_11 h
          have hP : va_P (dC, dI) vwCl (wX7 oM aM cI cJ cZ M_knots M_wires M_battery M_first_8 M_second_9 M_isCut_10 M_turns M_turnMany M_wireClaim_11 M_knotClaim M_hasKept M_keptKnots M_keptWires M_keptBattery M_keptFirst M_keptSecond M_keptTurns M_keptMany M_keptWire M_keptKnot M_keptCut M_told M_left M_low M_side M_faceOf M_faceMany M_table M_heights M_currents M_places M_treeMany M_wide M_high M_newTurns M_newMany M_lineHeight M_lineLeft M_lineRight M_lines) H := by rw [eM_wireClaim_11]; exact hP
          have hD : va_D A (wX7 oM aM cI cJ cZ M_knots M_wires M_battery M_first_8 M_second_9 M_isCut_10 M_turns M_turnMany M_wireClaim_11 M_knotClaim M_hasKept M_keptKnots M_keptWires M_keptBattery M_keptFirst M_keptSecond M_keptTurns M_keptMany M_keptWire M_keptKnot M_keptCut M_told M_left M_low M_side M_faceOf M_faceMany M_table M_heights M_currents M_places M_treeMany M_wide M_high M_newTurns M_newMany M_lineHeight M_lineLeft M_lineRight M_lines) := by rw [eM_wireClaim_11]; exact hD
          refine lv_aload_n hx hb dX7_wire_73 rfl (lv_at hl 0 rfl) ?_
          refine lv_dup hx hb dX7_wire_74 rfl ?_
          refine va_get (D := (dC, dI)) (ci := 7) (v := .int M_wires) (C := RX7) (T := TX7) (N := 40) hx hb hts qX7_wire_X7 hown hK hP 0 rfl rfl 1 (by decide) (hts _ qX7_wire_f104) (fun _ h9 => h9) rfl dX7_wire_75 ?_
          refine lv_iconst (v := 1) hx hb dX7_wire_78 (by decide) ?_
          refine lv_iadd hx hb dX7_wire_79 ?_
          refine va_put (D := (dC, dI)) (ci := 7) (v := .int (M_wires + 1)) (ty := .int) (C := RX7) (T := TX7) (N := 40) hx hb hts qX7_wire_X7 tyX7 tyX7_ok nmX7 hown hK hP hD hS 0 rfl rfl 1 (by decide) (hts _ qX7_wire_f104) (fun _ h9 => h9) rfl (by decide +kernel) rfl rfl (Nat.le_of_ble_eq_true rfl) dX7_wire_80 (fun H locs hP hD hS => ?_)
          obtain ⟨M_wires_12, eM_wires_12⟩ : ∃ z : Int32, z = (M_wires + 1) := ⟨_, rfl⟩
          replace h := dk_let_to eM_wires_12 h
          have hP : va_P (dC, dI) vwCl (wX7 oM aM cI cJ cZ M_knots M_wires_12 M_battery M_first_8 M_second_9 M_isCut_10 M_turns M_turnMany M_wireClaim_11 M_knotClaim M_hasKept M_keptKnots M_keptWires M_keptBattery M_keptFirst M_keptSecond M_keptTurns M_keptMany M_keptWire M_keptKnot M_keptCut M_told M_left M_low M_side M_faceOf M_faceMany M_table M_heights M_currents M_places M_treeMany M_wide M_high M_newTurns M_newMany M_lineHeight M_lineLeft M_lineRight M_lines) H := by rw [eM_wires_12]; exact hP
          have hD : va_D A (wX7 oM aM cI cJ cZ M_knots M_wires_12 M_battery M_first_8 M_second_9 M_isCut_10 M_turns M_turnMany M_wireClaim_11 M_knotClaim M_hasKept M_keptKnots M_keptWires M_keptBattery M_keptFirst M_keptSecond M_keptTurns M_keptMany M_keptWire M_keptKnot M_keptCut M_told M_left M_low M_side M_faceOf M_faceMany M_table M_heights M_currents M_places M_treeMany M_wide M_high M_newTurns M_newMany M_lineHeight M_lineLeft M_lineRight M_lines) := by rw [eM_wires_12]; exact hD
          refine lv_aload_n hx hb dX7_wire_83 rfl (lv_at hl 0 rfl) ?_
          refine va_get (D := (dC, dI)) (ci := 7) (v := .int M_wires_12) (C := RX7) (T := TX7) (N := 40) hx hb hts qX7_wire_X7 hown hK hP 0 rfl rfl 1 (by decide) (hts _ qX7_wire_f104) (fun _ h9 => h9) rfl dX7_wire_84 ?_
          refine lv_iconst (v := 1) hx hb dX7_wire_87 (by decide) ?_
          refine lv_isub hx hb dX7_wire_88 ?_
          have e9 := Option.some.inj h
          subst e9
          exact dk_iret C hK hP hD hS rfl dX7_wire_89
        · replace h := dk_it c_6 h
          refine lv_ldc (v := (-2000000000)) hx hb hown (hts _ qX7_wire_k107) dX7_wire_30 ?_
          have e9 := Option.some.inj h
          subst e9
          exact dk_iret C hK hP hD hS rfl dX7_wire_32
/-! ===== SquareTilerModel.battery ===== -/
abbrev rX7_battery : Room := { frames := 2, cells := 0, slots := 0, locals := 43 }
def ovX7_battery : List Cond := [Cond.constant RX7 107 (-2000000000), Cond.fieldLink RX7 7 "SquareTilerModel" "battery" "I", Cond.fieldLink RX7 20 "SquareTilerModel" "isCut" "[Z", Cond.methodLink RX7 112 yX7_isWire, Cond.instanceMethod yX7_isWire, Cond.selects RX7 yX7_isWire yX7_isWire, Cond.initialized RX7]
def vsX7_battery : List Cond := .code yX7_battery cX7_battery 3 (some .int) :: (ovX7_battery ++ (wsX70 ++ (vsX7_isWire ++ [])))
theorem qX7_battery_k107 : Cond.constant RX7 107 (-2000000000) ∈ vsX7_battery := List.mem_cons_of_mem _ (List.mem_append_left _ (List.mem_of_getElem? (i := 0) rfl))
theorem qX7_battery_f7 : Cond.fieldLink RX7 7 "SquareTilerModel" "battery" "I" ∈ vsX7_battery := List.mem_cons_of_mem _ (List.mem_append_left _ (List.mem_of_getElem? (i := 1) rfl))
theorem qX7_battery_f20 : Cond.fieldLink RX7 20 "SquareTilerModel" "isCut" "[Z" ∈ vsX7_battery := List.mem_cons_of_mem _ (List.mem_append_left _ (List.mem_of_getElem? (i := 2) rfl))
theorem qX7_battery_w3 : Cond.methodLink RX7 112 yX7_isWire ∈ vsX7_battery := List.mem_cons_of_mem _ (List.mem_append_left _ (List.mem_of_getElem? (i := 3) rfl))
theorem qX7_battery_w4 : Cond.instanceMethod yX7_isWire ∈ vsX7_battery := List.mem_cons_of_mem _ (List.mem_append_left _ (List.mem_of_getElem? (i := 4) rfl))
theorem qX7_battery_w5 : Cond.selects RX7 yX7_isWire yX7_isWire ∈ vsX7_battery := List.mem_cons_of_mem _ (List.mem_append_left _ (List.mem_of_getElem? (i := 5) rfl))
theorem qX7_battery_w6 : Cond.initialized RX7 ∈ vsX7_battery := List.mem_cons_of_mem _ (List.mem_append_left _ (List.mem_of_getElem? (i := 6) rfl))
theorem qX7_battery_X7 : ∀ w ∈ u_ws RX7 TX7 40, w ∈ vsX7_battery := fun w h => List.mem_cons_of_mem _ (List.mem_append_right _ (List.mem_append_left _ h))
theorem gd_vsX7_battery : ∀ w ∈ vsX7_battery, goodWord w = true := dk_cons rfl (dk_app (dk_all (by decide +kernel)) (dk_app gd_wsX70 (dk_app gd_vsX7_isWire dk_nil)))
theorem gvX7_battery_X7_isWire : GoodIn vsX7_battery (wsV RX7 112 RX7 yX7_isWire vsX7_isWire) := goodIn_app (dk_g4 qX7_battery_w3 qX7_battery_w4 qX7_battery_w5 qX7_battery_w6 rfl) (dk_gIn (fun w h => List.mem_cons_of_mem _ (List.mem_append_right _ (List.mem_append_right _ (List.mem_append_left _ h)))) gd_vsX7_isWire)
def jX7_battery_16 (M_wires M_battery : Int32) (M_isCut : Nat → Int32) (x1 : Int32) : Option (Int32 × Int32 × (Nat → Int32)) := if x1 < 0 then some (M_battery, x1, M_isCut) else dk_gd (dk_in x1 22) (dk_let (upd M_isCut x1.toNatClampNeg (vp_nar .boolean 0)) (fun M_isCut_6 => some (M_battery, x1, M_isCut_6)))
def fX7_battery (M_wires M_battery : Int32) (M_isCut : Nat → Int32) (x1 : Int32) : Option (Int32 × Int32 × (Nat → Int32)) := if x1 = (-1) then jX7_battery_16 M_wires M_battery M_isCut x1 else dk_bnd (fX7_isWire M_wires x1) (fun r_2 => if r_2 = 0 then some ((-2000000000), M_battery, M_isCut) else jX7_battery_16 M_wires M_battery M_isCut x1)
section
variable {p : Program} {l : Launch} {e : Env} {s : State} {m : MethodId} {args : Array Value} {below : List Frame} {meth : Method} {c : Code} {dC : Nat → ClassId} {dI : Nat → Nat → Nat} {cI cJ cZ : ClassId} {A : Nat → Prop} {oM : Nat} {aM : Nat → Nat} {M_knots M_wires M_battery : Int32} {M_first M_second M_isCut M_turns M_turnMany M_wireClaim M_knotClaim : Nat → Int32} {M_hasKept M_keptKnots M_keptWires M_keptBattery : Int32} {M_keptFirst M_keptSecond M_keptTurns M_keptMany M_keptWire M_keptKnot M_keptCut : Nat → Int32} {M_told : Int32} {M_left M_low M_side M_faceOf : Nat → Int32} {M_faceMany : Int32} {M_table : Nat → Int64} {M_heights M_currents M_places : Nat → Int32} {M_treeMany : Int64} {M_wide M_high : Int32} {M_newTurns M_newMany M_lineHeight M_lineLeft M_lineRight : Nat → Int32} {M_lines : Int32}
set_option maxHeartbeats 4000000 in
set_option maxRecDepth 100000 in
theorem kX7_battery_16 (C : dk_C p s m meth c args cX7_battery (some .int) 3 RX7 vsX7_battery) (hK : va_K (dC, dI) vwCl (dk_ty cI cJ cZ) s) (hA : ∀ q : Nat, s.heap.size ≤ q → A q) {out : Int32 × Int32 × (Nat → Int32)} {x1 : Int32} (h : jX7_battery_16 M_wires M_battery M_isCut x1 = some out) : ∀ (H : Heap) (locs : List Loc), va_P (dC, dI) vwCl (wX7 oM aM cI cJ cZ M_knots M_wires M_battery M_first M_second M_isCut M_turns M_turnMany M_wireClaim M_knotClaim M_hasKept M_keptKnots M_keptWires M_keptBattery M_keptFirst M_keptSecond M_keptTurns M_keptMany M_keptWire M_keptKnot M_keptCut M_told M_left M_low M_side M_faceOf M_faceMany M_table M_heights M_currents M_places M_treeMany M_wide M_high M_newTurns M_newMany M_lineHeight M_lineLeft M_lineRight M_lines) H → va_D A (wX7 oM aM cI cJ cZ M_knots M_wires M_battery M_first M_second M_isCut M_turns M_turnMany M_wireClaim M_knotClaim M_hasKept M_keptKnots M_keptWires M_keptBattery M_keptFirst M_keptSecond M_keptTurns M_keptMany M_keptWire M_keptKnot M_keptCut M_told M_left M_low M_side M_faceOf M_faceMany M_table M_heights M_currents M_places M_treeMany M_wide M_high M_newTurns M_newMany M_lineHeight M_lineLeft M_lineRight M_lines) → va_S A s.heap H locs → ∀ ls : Array Slot, lv_has ls 3 [(0, .ref oM), (1, .int x1)] → W p l e rX7_battery s m args below meth c H locs 0 0 (MQ below (dk_Qi (dC, dI) (dk_ty cI cJ cZ) (wX7 oM aM cI cJ cZ M_knots M_wires out.2.1 M_first M_second out.2.2 M_turns M_turnMany M_wireClaim M_knotClaim M_hasKept M_keptKnots M_keptWires M_keptBattery M_keptFirst M_keptSecond M_keptTurns M_keptMany M_keptWire M_keptKnot M_keptCut M_told M_left M_low M_side M_faceOf M_faceMany M_table M_heights M_currents M_places M_treeMany M_wide M_high M_newTurns M_newMany M_lineHeight M_lineLeft M_lineRight M_lines) out.1 A) args s 0 0 A) (F0 m 16 ls []) := by
  obtain ⟨hx, hb, hr, hml, hown, hts, hlocks⟩ := id C
  intro H locs hP hD hS ls hl
  unfold jX7_battery_16 at h
  refine lv_aload_n hx hb dX7_battery_16 rfl (lv_at hl 0 rfl) ?_
  refine va_get (D := (dC, dI)) (ci := 7) (v := .int M_battery) (C := RX7) (T := TX7) (N := 40) hx hb hts qX7_battery_X7 hown hK hP 0 rfl rfl 2 (by decide) (hts _ qX7_battery_f7) (fun _ h9 => h9) rfl dX7_battery_17 ?_
  refine lv_istore_n (lv' := [(2, .int M_battery), (0, .ref oM), (1, .int x1)]) hx hb dX7_battery_20 rfl hl (by decide) rfl (fun ls hl => ?_)
  refine lv_aload_n hx hb dX7_battery_21 rfl (lv_at hl 1 rfl) ?_
  refine lv_iload_n hx hb dX7_battery_22 rfl (lv_at hl 2 rfl) ?_
  refine va_put (D := (dC, dI)) (ci := 7) (v := .int x1) (ty := .int) (C := RX7) (T := TX7) (N := 40) hx hb hts qX7_battery_X7 tyX7 tyX7_ok nmX7 hown hK hP hD hS 0 rfl rfl 2 (by decide) (hts _ qX7_battery_f7) (fun _ h9 => h9) rfl (by decide +kernel) rfl rfl (Nat.le_of_ble_eq_true rfl) dX7_battery_23 (fun H locs hP hD hS => ?_)
  have hP : va_P (dC, dI) vwCl (wX7 oM aM cI cJ cZ M_knots M_wires x1 M_first M_second M_isCut M_turns M_turnMany M_wireClaim M_knotClaim M_hasKept M_keptKnots M_keptWires M_keptBattery M_keptFirst M_keptSecond M_keptTurns M_keptMany M_keptWire M_keptKnot M_keptCut M_told M_left M_low M_side M_faceOf M_faceMany M_table M_heights M_currents M_places M_treeMany M_wide M_high M_newTurns M_newMany M_lineHeight M_lineLeft M_lineRight M_lines) H := hP
  have hD : va_D A (wX7 oM aM cI cJ cZ M_knots M_wires x1 M_first M_second M_isCut M_turns M_turnMany M_wireClaim M_knotClaim M_hasKept M_keptKnots M_keptWires M_keptBattery M_keptFirst M_keptSecond M_keptTurns M_keptMany M_keptWire M_keptKnot M_keptCut M_told M_left M_low M_side M_faceOf M_faceMany M_table M_heights M_currents M_places M_treeMany M_wide M_high M_newTurns M_newMany M_lineHeight M_lineLeft M_lineRight M_lines) := hD
  refine lv_iload_n hx hb dX7_battery_26 rfl (lv_at hl 2 rfl) ?_
  refine lv_if_lt (tgt := 37) hx hb dX7_battery_27 (by decide) (fun c_4 => ?_) (fun c_4 => ?_)
  · replace h := dk_it c_4 h
    refine lv_iload_n hx hb dX7_battery_37 rfl (lv_at hl 0 rfl) ?_
    have e9 := Option.some.inj h
    subst e9
    exact dk_iret C hK hP hD hS rfl dX7_battery_38
  · replace h := dk_ie c_4 h
    refine lv_aload_n hx hb dX7_battery_30 rfl (lv_at hl 1 rfl) ?_
    refine va_get (D := (dC, dI)) (ci := 7) (v := .ref (aM 5)) (C := RX7) (T := TX7) (N := 40) hx hb hts qX7_battery_X7 hown hK hP 0 rfl rfl 5 (by decide) (hts _ qX7_battery_f20) (fun _ h9 => h9) rfl dX7_battery_31 ?_
    refine lv_iload_n hx hb dX7_battery_34 rfl (lv_at hl 2 rfl) ?_
    refine lv_iconst (v := 0) hx hb dX7_battery_35 (by decide) ?_
    obtain ⟨g_5, h⟩ := dk_gd_to h
    have g_5 := dk_in_to g_5
    refine va_zast hx hb hK hP hD hS 3 2 rfl rfl g_5 dX7_battery_36 (fun H locs hP hD hS => ?_)
    obtain ⟨M_isCut_6, eM_isCut_6⟩ : ∃ z : Nat → Int32, z = upd M_isCut x1.toNatClampNeg (vp_nar .boolean 0) := ⟨_, rfl⟩
    replace h := dk_let_to eM_isCut_6 h
    have hP : va_P (dC, dI) vwCl (wX7 oM aM cI cJ cZ M_knots M_wires x1 M_first M_second M_isCut_6 M_turns M_turnMany M_wireClaim M_knotClaim M_hasKept M_keptKnots M_keptWires M_keptBattery M_keptFirst M_keptSecond M_keptTurns M_keptMany M_keptWire M_keptKnot M_keptCut M_told M_left M_low M_side M_faceOf M_faceMany M_table M_heights M_currents M_places M_treeMany M_wide M_high M_newTurns M_newMany M_lineHeight M_lineLeft M_lineRight M_lines) H := by rw [eM_isCut_6]; exact hP
    have hD : va_D A (wX7 oM aM cI cJ cZ M_knots M_wires x1 M_first M_second M_isCut_6 M_turns M_turnMany M_wireClaim M_knotClaim M_hasKept M_keptKnots M_keptWires M_keptBattery M_keptFirst M_keptSecond M_keptTurns M_keptMany M_keptWire M_keptKnot M_keptCut M_told M_left M_low M_side M_faceOf M_faceMany M_table M_heights M_currents M_places M_treeMany M_wide M_high M_newTurns M_newMany M_lineHeight M_lineLeft M_lineRight M_lines) := by rw [eM_isCut_6]; exact hD
    refine lv_iload_n hx hb dX7_battery_37 rfl (lv_at hl 0 rfl) ?_
    have e9 := Option.some.inj h
    subst e9
    exact dk_iret C hK hP hD hS rfl dX7_battery_38
end
set_option maxHeartbeats 4000000 in
set_option maxRecDepth 100000 in
theorem mX7_battery (l : Launch) (dC : Nat → ClassId) (dI : Nat → Nat → Nat) (cI cJ cZ : ClassId) {oM : Nat} {aM : Nat → Nat} {M_knots M_wires M_battery : Int32} {M_first M_second M_isCut M_turns M_turnMany M_wireClaim M_knotClaim : Nat → Int32} {M_hasKept M_keptKnots M_keptWires M_keptBattery : Int32} {M_keptFirst M_keptSecond M_keptTurns M_keptMany M_keptWire M_keptKnot M_keptCut : Nat → Int32} {M_told : Int32} {M_left M_low M_side M_faceOf : Nat → Int32} {M_faceMany : Int32} {M_table : Nat → Int64} {M_heights M_currents M_places : Nat → Int32} {M_treeMany : Int64} {M_wide M_high : Int32} {M_newTurns M_newMany M_lineHeight M_lineLeft M_lineRight : Nat → Int32} {M_lines : Int32} {x1 : Int32} {out : Int32 × Int32 × (Nat → Int32)} (h : fX7_battery M_wires M_battery M_isCut x1 = some out) (sz : Nat) : Met l yX7_battery vsX7_battery rX7_battery (va_Pc [.ref oM, .int x1] (dk_Pre (dC, dI) (dk_ty cI cJ cZ) (wX7 oM aM cI cJ cZ M_knots M_wires M_battery M_first M_second M_isCut M_turns M_turnMany M_wireClaim M_knotClaim M_hasKept M_keptKnots M_keptWires M_keptBattery M_keptFirst M_keptSecond M_keptTurns M_keptMany M_keptWire M_keptKnot M_keptCut M_told M_left M_low M_side M_faceOf M_faceMany M_table M_heights M_currents M_places M_treeMany M_wide M_high M_newTurns M_newMany M_lineHeight M_lineLeft M_lineRight M_lines) sz)) (dk_Qi (dC, dI) (dk_ty cI cJ cZ) (wX7 oM aM cI cJ cZ M_knots M_wires out.2.1 M_first M_second out.2.2 M_turns M_turnMany M_wireClaim M_knotClaim M_hasKept M_keptKnots M_keptWires M_keptBattery M_keptFirst M_keptSecond M_keptTurns M_keptMany M_keptWire M_keptKnot M_keptCut M_told M_left M_low M_side M_faceOf M_faceMany M_table M_heights M_currents M_places M_treeMany M_wide M_high M_newTurns M_newMany M_lineHeight M_lineLeft M_lineRight M_lines) out.1 (va_A (wX7 oM aM cI cJ cZ M_knots M_wires M_battery M_first M_second M_isCut M_turns M_turnMany M_wireClaim M_knotClaim M_hasKept M_keptKnots M_keptWires M_keptBattery M_keptFirst M_keptSecond M_keptTurns M_keptMany M_keptWire M_keptKnot M_keptCut M_told M_left M_low M_side M_faceOf M_faceMany M_table M_heights M_currents M_places M_treeMany M_wide M_high M_newTurns M_newMany M_lineHeight M_lineLeft M_lineRight M_lines) sz)) 0 0 (va_A (wX7 oM aM cI cJ cZ M_knots M_wires M_battery M_first M_second M_isCut M_turns M_turnMany M_wireClaim M_knotClaim M_hasKept M_keptKnots M_keptWires M_keptBattery M_keptFirst M_keptSecond M_keptTurns M_keptMany M_keptWire M_keptKnot M_keptCut M_told M_left M_low M_side M_faceOf M_faceMany M_table M_heights M_currents M_places M_treeMany M_wide M_high M_newTurns M_newMany M_lineHeight M_lineLeft M_lineRight M_lines) sz) := by
  refine dk_met (cc := cX7_battery) (maxL := 3) (ret := (some .int)) (Qc := fun A => dk_Qi (dC, dI) (dk_ty cI cJ cZ) (wX7 oM aM cI cJ cZ M_knots M_wires out.2.1 M_first M_second out.2.2 M_turns M_turnMany M_wireClaim M_knotClaim M_hasKept M_keptKnots M_keptWires M_keptBattery M_keptFirst M_keptSecond M_keptTurns M_keptMany M_keptWire M_keptKnot M_keptCut M_told M_left M_low M_side M_faceOf M_faceMany M_table M_heights M_currents M_places M_treeMany M_wide M_high M_newTurns M_newMany M_lineHeight M_lineLeft M_lineRight M_lines) out.1 A) (by decide) rfl (Nat.le_of_ble_eq_true rfl) ?_
  intro p e s m below meth c A C hnm hA hK hP hD hS ls hl
  have C : dk_C p s m meth c _ cX7_battery (some .int) 3 RX7 vsX7_battery := C
  obtain ⟨hx, hb, hr, hml, hown, hts, hlocks⟩ := id C
  have hl : lv_has ls 3 [(0, .ref oM), (1, .int x1)] := hl
  unfold fX7_battery at h
  refine lv_iload_n hx hb dX7_battery_0 rfl (lv_at hl 1 rfl) ?_
  refine lv_iconst (v := (-1)) hx hb dX7_battery_1 (by decide) ?_
  refine lv_icmp_eq (tgt := 16) hx hb dX7_battery_2 (by decide) (fun c_1 => ?_) (fun c_1 => ?_)
  · replace h := dk_it c_1 h
    exact kX7_battery_16 C hK hA h _ _ hP hD hS ls (lv_sub hl [0, 1] rfl)
  · replace h := dk_ie c_1 h
    refine lv_aload_n hx hb dX7_battery_5 rfl (lv_at hl 0 rfl) ?_
    refine lv_iload_n hx hb dX7_battery_6 rfl (lv_at hl 1 rfl) ?_
    obtain ⟨r_2, hcr_2, h⟩ := dk_bnd_to h
    refine dk_rVi (b := oM) (As := [.int x1]) (rest := []) (wc := (wX7 oM aM cI cJ cZ M_knots M_wires M_battery M_first M_second M_isCut M_turns M_turnMany M_wireClaim M_knotClaim M_hasKept M_keptKnots M_keptWires M_keptBattery M_keptFirst M_keptSecond M_keptTurns M_keptMany M_keptWire M_keptKnot M_keptCut M_told M_left M_low M_side M_faceOf M_faceMany M_table M_heights M_currents M_places M_treeMany M_wide M_high M_newTurns M_newMany M_lineHeight M_lineLeft M_lineRight M_lines)) C hK hP hD hS hA (mX7_isWire l dC dI cI cJ cZ hcr_2 _) (cwV 1 hts gvX7_battery_X7_isWire rfl rfl rfl (by decide +kernel) ⟨Nat.le_of_ble_eq_true rfl, Nat.le_of_ble_eq_true rfl⟩) [0, 1, 2, 3, 4, 5, 6, 7, 8, 9, 10, 11, 12, 13, 14, 15, 16, 17, 18, 19, 20, 21, 22, 23, 24, 25, 26, 27] rfl (by decide) 0 7 rfl rfl rfl hl.1 rfl (Nat.le_of_ble_eq_true rfl) ⟨Nat.le_of_ble_eq_true rfl, Nat.le_of_ble_eq_true rfl⟩ dX7_battery_7 (fun H locs hP hD hS => ?_)
    refine lv_if_ne (tgt := 16) hx hb dX7_battery_10 (by decide) (fun c_3 => ?_) (fun c_3 => ?_)
    · replace h := dk_ie c_3 h
      exact kX7_battery_16 C hK hA h _ _ hP hD hS ls (lv_sub hl [0, 1] rfl)
    · replace h := dk_it c_3 h
      refine lv_ldc (v := (-2000000000)) hx hb hown (hts _ qX7_battery_k107) dX7_battery_13 ?_
      have e9 := Option.some.inj h
      subst e9
      exact dk_iret C hK hP hD hS rfl dX7_battery_15
/-! ===== SquareTilerModel.cut ===== -/
abbrev rX7_cut : Room := { frames := 2, cells := 0, slots := 0, locals := 43 }
def ovX7_cut : List Cond := [Cond.constant RX7 107 (-2000000000), Cond.fieldLink RX7 7 "SquareTilerModel" "battery" "I", Cond.fieldLink RX7 20 "SquareTilerModel" "isCut" "[Z", Cond.methodLink RX7 112 yX7_isWire, Cond.instanceMethod yX7_isWire, Cond.selects RX7 yX7_isWire yX7_isWire, Cond.initialized RX7]
def vsX7_cut : List Cond := .code yX7_cut cX7_cut 4 (some .int) :: (ovX7_cut ++ (wsX70 ++ (vsX7_isWire ++ [])))
theorem qX7_cut_k107 : Cond.constant RX7 107 (-2000000000) ∈ vsX7_cut := List.mem_cons_of_mem _ (List.mem_append_left _ (List.mem_of_getElem? (i := 0) rfl))
theorem qX7_cut_f7 : Cond.fieldLink RX7 7 "SquareTilerModel" "battery" "I" ∈ vsX7_cut := List.mem_cons_of_mem _ (List.mem_append_left _ (List.mem_of_getElem? (i := 1) rfl))
theorem qX7_cut_f20 : Cond.fieldLink RX7 20 "SquareTilerModel" "isCut" "[Z" ∈ vsX7_cut := List.mem_cons_of_mem _ (List.mem_append_left _ (List.mem_of_getElem? (i := 2) rfl))
theorem qX7_cut_w3 : Cond.methodLink RX7 112 yX7_isWire ∈ vsX7_cut := List.mem_cons_of_mem _ (List.mem_append_left _ (List.mem_of_getElem? (i := 3) rfl))
theorem qX7_cut_w4 : Cond.instanceMethod yX7_isWire ∈ vsX7_cut := List.mem_cons_of_mem _ (List.mem_append_left _ (List.mem_of_getElem? (i := 4) rfl))
theorem qX7_cut_w5 : Cond.selects RX7 yX7_isWire yX7_isWire ∈ vsX7_cut := List.mem_cons_of_mem _ (List.mem_append_left _ (List.mem_of_getElem? (i := 5) rfl))
theorem qX7_cut_w6 : Cond.initialized RX7 ∈ vsX7_cut := List.mem_cons_of_mem _ (List.mem_append_left _ (List.mem_of_getElem? (i := 6) rfl))
theorem qX7_cut_X7 : ∀ w ∈ u_ws RX7 TX7 40, w ∈ vsX7_cut := fun w h => List.mem_cons_of_mem _ (List.mem_append_right _ (List.mem_append_left _ h))
theorem gd_vsX7_cut : ∀ w ∈ vsX7_cut, goodWord w = true := dk_cons rfl (dk_app (dk_all (by decide +kernel)) (dk_app gd_wsX70 (dk_app gd_vsX7_isWire dk_nil)))
theorem gvX7_cut_X7_isWire : GoodIn vsX7_cut (wsV RX7 112 RX7 yX7_isWire vsX7_isWire) := goodIn_app (dk_g4 qX7_cut_w3 qX7_cut_w4 qX7_cut_w5 qX7_cut_w6 rfl) (dk_gIn (fun w h => List.mem_cons_of_mem _ (List.mem_append_right _ (List.mem_append_right _ (List.mem_append_left _ h)))) gd_vsX7_isWire)
def fX7_cut (M_wires M_battery : Int32) (M_isCut : Nat → Int32) (x1 x2 : Int32) : Option (Int32 × (Nat → Int32)) := dk_bnd (fX7_isWire M_wires x1) (fun r_1 => if r_1 = 0 then some ((-2000000000), M_isCut) else if x1 = M_battery then some ((-2000000000), M_isCut) else dk_gd (dk_in x1 22) (dk_let ((M_isCut x1.toNatClampNeg)) (fun x3_5 => dk_let (upd M_isCut x1.toNatClampNeg (vp_nar .boolean x2)) (fun M_isCut_6 => if x3_5 = 0 then some (0, M_isCut_6) else some (1, M_isCut_6)))))
section
variable {p : Program} {l : Launch} {e : Env} {s : State} {m : MethodId} {args : Array Value} {below : List Frame} {meth : Method} {c : Code} {dC : Nat → ClassId} {dI : Nat → Nat → Nat} {cI cJ cZ : ClassId} {A : Nat → Prop} {oM : Nat} {aM : Nat → Nat} {M_knots M_wires M_battery : Int32} {M_first M_second M_isCut M_turns M_turnMany M_wireClaim M_knotClaim : Nat → Int32} {M_hasKept M_keptKnots M_keptWires M_keptBattery : Int32} {M_keptFirst M_keptSecond M_keptTurns M_keptMany M_keptWire M_keptKnot M_keptCut : Nat → Int32} {M_told : Int32} {M_left M_low M_side M_faceOf : Nat → Int32} {M_faceMany : Int32} {M_table : Nat → Int64} {M_heights M_currents M_places : Nat → Int32} {M_treeMany : Int64} {M_wide M_high : Int32} {M_newTurns M_newMany M_lineHeight M_lineLeft M_lineRight : Nat → Int32} {M_lines : Int32}
end
set_option maxHeartbeats 4000000 in
set_option maxRecDepth 100000 in
theorem mX7_cut (l : Launch) (dC : Nat → ClassId) (dI : Nat → Nat → Nat) (cI cJ cZ : ClassId) {oM : Nat} {aM : Nat → Nat} {M_knots M_wires M_battery : Int32} {M_first M_second M_isCut M_turns M_turnMany M_wireClaim M_knotClaim : Nat → Int32} {M_hasKept M_keptKnots M_keptWires M_keptBattery : Int32} {M_keptFirst M_keptSecond M_keptTurns M_keptMany M_keptWire M_keptKnot M_keptCut : Nat → Int32} {M_told : Int32} {M_left M_low M_side M_faceOf : Nat → Int32} {M_faceMany : Int32} {M_table : Nat → Int64} {M_heights M_currents M_places : Nat → Int32} {M_treeMany : Int64} {M_wide M_high : Int32} {M_newTurns M_newMany M_lineHeight M_lineLeft M_lineRight : Nat → Int32} {M_lines : Int32} {x1 x2 : Int32} {out : Int32 × (Nat → Int32)} (h : fX7_cut M_wires M_battery M_isCut x1 x2 = some out) (sz : Nat) : Met l yX7_cut vsX7_cut rX7_cut (va_Pc [.ref oM, .int x1, .int x2] (dk_Pre (dC, dI) (dk_ty cI cJ cZ) (wX7 oM aM cI cJ cZ M_knots M_wires M_battery M_first M_second M_isCut M_turns M_turnMany M_wireClaim M_knotClaim M_hasKept M_keptKnots M_keptWires M_keptBattery M_keptFirst M_keptSecond M_keptTurns M_keptMany M_keptWire M_keptKnot M_keptCut M_told M_left M_low M_side M_faceOf M_faceMany M_table M_heights M_currents M_places M_treeMany M_wide M_high M_newTurns M_newMany M_lineHeight M_lineLeft M_lineRight M_lines) sz)) (dk_Qi (dC, dI) (dk_ty cI cJ cZ) (wX7 oM aM cI cJ cZ M_knots M_wires M_battery M_first M_second out.2 M_turns M_turnMany M_wireClaim M_knotClaim M_hasKept M_keptKnots M_keptWires M_keptBattery M_keptFirst M_keptSecond M_keptTurns M_keptMany M_keptWire M_keptKnot M_keptCut M_told M_left M_low M_side M_faceOf M_faceMany M_table M_heights M_currents M_places M_treeMany M_wide M_high M_newTurns M_newMany M_lineHeight M_lineLeft M_lineRight M_lines) out.1 (va_A (wX7 oM aM cI cJ cZ M_knots M_wires M_battery M_first M_second M_isCut M_turns M_turnMany M_wireClaim M_knotClaim M_hasKept M_keptKnots M_keptWires M_keptBattery M_keptFirst M_keptSecond M_keptTurns M_keptMany M_keptWire M_keptKnot M_keptCut M_told M_left M_low M_side M_faceOf M_faceMany M_table M_heights M_currents M_places M_treeMany M_wide M_high M_newTurns M_newMany M_lineHeight M_lineLeft M_lineRight M_lines) sz)) 0 0 (va_A (wX7 oM aM cI cJ cZ M_knots M_wires M_battery M_first M_second M_isCut M_turns M_turnMany M_wireClaim M_knotClaim M_hasKept M_keptKnots M_keptWires M_keptBattery M_keptFirst M_keptSecond M_keptTurns M_keptMany M_keptWire M_keptKnot M_keptCut M_told M_left M_low M_side M_faceOf M_faceMany M_table M_heights M_currents M_places M_treeMany M_wide M_high M_newTurns M_newMany M_lineHeight M_lineLeft M_lineRight M_lines) sz) := by
  refine dk_met (cc := cX7_cut) (maxL := 4) (ret := (some .int)) (Qc := fun A => dk_Qi (dC, dI) (dk_ty cI cJ cZ) (wX7 oM aM cI cJ cZ M_knots M_wires M_battery M_first M_second out.2 M_turns M_turnMany M_wireClaim M_knotClaim M_hasKept M_keptKnots M_keptWires M_keptBattery M_keptFirst M_keptSecond M_keptTurns M_keptMany M_keptWire M_keptKnot M_keptCut M_told M_left M_low M_side M_faceOf M_faceMany M_table M_heights M_currents M_places M_treeMany M_wide M_high M_newTurns M_newMany M_lineHeight M_lineLeft M_lineRight M_lines) out.1 A) (by decide) rfl (Nat.le_of_ble_eq_true rfl) ?_
  intro p e s m below meth c A C hnm hA hK hP hD hS ls hl
  have C : dk_C p s m meth c _ cX7_cut (some .int) 4 RX7 vsX7_cut := C
  obtain ⟨hx, hb, hr, hml, hown, hts, hlocks⟩ := id C
  have hl : lv_has ls 4 [(0, .ref oM), (1, .int x1), (2, .int x2)] := hl
  unfold fX7_cut at h
  refine lv_aload_n hx hb dX7_cut_0 rfl (lv_at hl 0 rfl) ?_
  refine lv_iload_n hx hb dX7_cut_1 rfl (lv_at hl 1 rfl) ?_
  obtain ⟨r_1, hcr_1, h⟩ := dk_bnd_to h
  refine dk_rVi (b := oM) (As := [.int x1]) (rest := []) (wc := (wX7 oM aM cI cJ cZ M_knots M_wires M_battery M_first M_second M_isCut M_turns M_turnMany M_wireClaim M_knotClaim M_hasKept M_keptKnots M_keptWires M_keptBattery M_keptFirst M_keptSecond M_keptTurns M_keptMany M_keptWire M_keptKnot M_keptCut M_told M_left M_low M_side M_faceOf M_faceMany M_table M_heights M_currents M_places M_treeMany M_wide M_high M_newTurns M_newMany M_lineHeight M_lineLeft M_lineRight M_lines)) C hK hP hD hS hA (mX7_isWire l dC dI cI cJ cZ hcr_1 _) (cwV 1 hts gvX7_cut_X7_isWire rfl rfl rfl (by decide +kernel) ⟨Nat.le_of_ble_eq_true rfl, Nat.le_of_ble_eq_true rfl⟩) [0, 1, 2, 3, 4, 5, 6, 7, 8, 9, 10, 11, 12, 13, 14, 15, 16, 17, 18, 19, 20, 21, 22, 23, 24, 25, 26, 27] rfl (by decide) 0 7 rfl rfl rfl hl.1 rfl (Nat.le_of_ble_eq_true rfl) ⟨Nat.le_of_ble_eq_true rfl, Nat.le_of_ble_eq_true rfl⟩ dX7_cut_2 (fun H locs hP hD hS => ?_)
  refine lv_if_eq (tgt := 16) hx hb dX7_cut_5 (by decide) (fun c_2 => ?_) (fun c_2 => ?_)
  · replace h := dk_it c_2 h
    refine lv_ldc (v := (-2000000000)) hx hb hown (hts _ qX7_cut_k107) dX7_cut_16 ?_
    have e9 := Option.some.inj h
    subst e9
    exact dk_iret C hK hP hD hS rfl dX7_cut_18
  · replace h := dk_ie c_2 h
    refine lv_iload_n hx hb dX7_cut_8 rfl (lv_at hl 1 rfl) ?_
    refine lv_aload_n hx hb dX7_cut_9 rfl (lv_at hl 0 rfl) ?_
    refine va_get (D := (dC, dI)) (ci := 7) (v := .int M_battery) (C := RX7) (T := TX7) (N := 40) hx hb hts qX7_cut_X7 hown hK hP 0 rfl rfl 2 (by decide) (hts _ qX7_cut_f7) (fun _ h9 => h9) rfl dX7_cut_10 ?_
    refine lv_icmp_ne (tgt := 19) hx hb dX7_cut_13 (by decide) (fun c_3 => ?_) (fun c_3 => ?_)
    · replace h := dk_ie c_3 h
      refine lv_aload_n hx hb dX7_cut_19 rfl (lv_at hl 0 rfl) ?_
      refine va_get (D := (dC, dI)) (ci := 7) (v := .ref (aM 5)) (C := RX7) (T := TX7) (N := 40) hx hb hts qX7_cut_X7 hown hK hP 0 rfl rfl 5 (by decide) (hts _ qX7_cut_f20) (fun _ h9 => h9) rfl dX7_cut_20 ?_
      refine lv_iload_n hx hb dX7_cut_23 rfl (lv_at hl 1 rfl) ?_
      obtain ⟨g_4, h⟩ := dk_gd_to h
      have g_4 := dk_in_to g_4
      refine va_zald hx hb hK hP 3 2 rfl rfl g_4 dX7_cut_24 ?_
      refine lv_topi (fun x3_5 ex3_5 => ?_)
      replace h := dk_let_to ex3_5 h
      refine lv_istore_n (lv' := [(3, .int x3_5), (0, .ref oM), (1, .int x1), (2, .int x2)]) hx hb dX7_cut_25 rfl hl (by decide) rfl (fun ls hl => ?_)
      refine lv_aload_n hx hb dX7_cut_26 rfl (lv_at hl 1 rfl) ?_
      refine va_get (D := (dC, dI)) (ci := 7) (v := .ref (aM 5)) (C := RX7) (T := TX7) (N := 40) hx hb hts qX7_cut_X7 hown hK hP 0 rfl rfl 5 (by decide) (hts _ qX7_cut_f20) (fun _ h9 => h9) rfl dX7_cut_27 ?_
      refine lv_iload_n hx hb dX7_cut_30 rfl (lv_at hl 2 rfl) ?_
      refine lv_iload_n hx hb dX7_cut_31 rfl (lv_at hl 3 rfl) ?_
      refine va_zast hx hb hK hP hD hS 3 2 rfl rfl g_4 dX7_cut_32 (fun H locs hP hD hS => ?_)
      obtain ⟨M_isCut_6, eM_isCut_6⟩ : ∃ z : Nat → Int32, z = upd M_isCut x1.toNatClampNeg (vp_nar .boolean x2) := ⟨_, rfl⟩
      replace h := dk_let_to eM_isCut_6 h
      have hP : va_P (dC, dI) vwCl (wX7 oM aM cI cJ cZ M_knots M_wires M_battery M_first M_second M_isCut_6 M_turns M_turnMany M_wireClaim M_knotClaim M_hasKept M_keptKnots M_keptWires M_keptBattery M_keptFirst M_keptSecond M_keptTurns M_keptMany M_keptWire M_keptKnot M_keptCut M_told M_left M_low M_side M_faceOf M_faceMany M_table M_heights M_currents M_places M_treeMany M_wide M_high M_newTurns M_newMany M_lineHeight M_lineLeft M_lineRight M_lines) H := by rw [eM_isCut_6]; exact hP
      have hD : va_D A (wX7 oM aM cI cJ cZ M_knots M_wires M_battery M_first M_second M_isCut_6 M_turns M_turnMany M_wireClaim M_knotClaim M_hasKept M_keptKnots M_keptWires M_keptBattery M_keptFirst M_keptSecond M_keptTurns M_keptMany M_keptWire M_keptKnot M_keptCut M_told M_left M_low M_side M_faceOf M_faceMany M_table M_heights M_currents M_places M_treeMany M_wide M_high M_newTurns M_newMany M_lineHeight M_lineLeft M_lineRight M_lines) := by rw [eM_isCut_6]; exact hD
      refine lv_iload_n hx hb dX7_cut_33 rfl (lv_at hl 0 rfl) ?_
      refine lv_if_eq (tgt := 41) hx hb dX7_cut_34 (by decide) (fun c_7 => ?_) (fun c_7 => ?_)
      · replace h := dk_it c_7 h
        refine lv_iconst (v := 0) hx hb dX7_cut_41 (by decide) ?_
        have e9 := Option.some.inj h
        subst e9
        exact dk_iret C hK hP hD hS rfl dX7_cut_42
      · replace h := dk_ie c_7 h
        refine lv_iconst (v := 1) hx hb dX7_cut_37 (by decide) ?_
        refine lv_goto (tgt := 42) hx hb dX7_cut_38 (by decide) ?_
        have e9 := Option.some.inj h
        subst e9
        exact dk_iret C hK hP hD hS rfl dX7_cut_42
    · replace h := dk_it c_3 h
      refine lv_ldc (v := (-2000000000)) hx hb hown (hts _ qX7_cut_k107) dX7_cut_16 ?_
      have e9 := Option.some.inj h
      subst e9
      exact dk_iret C hK hP hD hS rfl dX7_cut_18
/-! ===== SquareTilerModel.placeIn ===== -/
abbrev rX7_placeIn : Room := { frames := 0, cells := 0, slots := 0, locals := 0 }
def ovX7_placeIn : List Cond := [Cond.fieldLink RX7 27 "SquareTilerModel" "turnMany" "[I", Cond.fieldLink RX7 24 "SquareTilerModel" "turns" "[I"]
def vsX7_placeIn : List Cond := .code yX7_placeIn cX7_placeIn 4 (some .int) :: (ovX7_placeIn ++ (wsX70 ++ []))
theorem qX7_placeIn_f27 : Cond.fieldLink RX7 27 "SquareTilerModel" "turnMany" "[I" ∈ vsX7_placeIn := List.mem_cons_of_mem _ (List.mem_append_left _ (List.mem_of_getElem? (i := 0) rfl))
theorem qX7_placeIn_f24 : Cond.fieldLink RX7 24 "SquareTilerModel" "turns" "[I" ∈ vsX7_placeIn := List.mem_cons_of_mem _ (List.mem_append_left _ (List.mem_of_getElem? (i := 1) rfl))
theorem qX7_placeIn_X7 : ∀ w ∈ u_ws RX7 TX7 40, w ∈ vsX7_placeIn := fun w h => List.mem_cons_of_mem _ (List.mem_append_right _ (List.mem_append_left _ h))
theorem gd_vsX7_placeIn : ∀ w ∈ vsX7_placeIn, goodWord w = true := dk_cons rfl (dk_app (dk_all (by decide +kernel)) (dk_app gd_wsX70 dk_nil))
def bX7_placeIn_2 (M_turns M_turnMany : Nat → Int32) (x1 x2 : Int32) (st : Int32) : Option (((Int32) ⊕ (Unit)) ⊕ (Int32)) := dk_gd (dk_in x1 12) (if (M_turnMany x1.toNatClampNeg) ≤ st then some (.inl (.inr ())) else dk_gd (dk_in ((22 * x1) + st) 264) (if (M_turns ((22 * x1) + st).toNatClampNeg) = x2 then some (.inl (.inl st)) else dk_let (st + 1) (fun x3_7 => some (.inr x3_7))))
def fX7_placeIn (M_turns M_turnMany : Nat → Int32) (x1 x2 : Int32) : Option (Int32) := dk_bnd (dk_loop (bX7_placeIn_2 M_turns M_turnMany x1 x2) 1000 0) (fun r_1 => dk_sum r_1 (fun zz => some zz) (fun z_2 => some (-1)))
section
variable {p : Program} {l : Launch} {e : Env} {s : State} {m : MethodId} {args : Array Value} {below : List Frame} {meth : Method} {c : Code} {dC : Nat → ClassId} {dI : Nat → Nat → Nat} {cI cJ cZ : ClassId} {A : Nat → Prop} {oM : Nat} {aM : Nat → Nat} {M_knots M_wires M_battery : Int32} {M_first M_second M_isCut M_turns M_turnMany M_wireClaim M_knotClaim : Nat → Int32} {M_hasKept M_keptKnots M_keptWires M_keptBattery : Int32} {M_keptFirst M_keptSecond M_keptTurns M_keptMany M_keptWire M_keptKnot M_keptCut : Nat → Int32} {M_told : Int32} {M_left M_low M_side M_faceOf : Nat → Int32} {M_faceMany : Int32} {M_table : Nat → Int64} {M_heights M_currents M_places : Nat → Int32} {M_treeMany : Int64} {M_wide M_high : Int32} {M_newTurns M_newMany M_lineHeight M_lineLeft M_lineRight : Nat → Int32} {M_lines : Int32}
set_option maxHeartbeats 4000000 in
set_option maxRecDepth 100000 in
theorem tX7_placeIn_2 (C : dk_C p s m meth c args cX7_placeIn (some .int) 4 RX7 vsX7_placeIn) (hK : va_K (dC, dI) vwCl (dk_ty cI cJ cZ) s) (hA : ∀ q : Nat, s.heap.size ≤ q → A q) {out : Int32} {x1 x2 : Int32} {st : Int32} {y : ((Int32) ⊕ (Unit)) ⊕ (Int32)} (h : bX7_placeIn_2 M_turns M_turnMany x1 x2 st = some y) (hR : ∀ z : Int32, y = .inl (.inl z) → z = out) (hE : ∀ z : Unit, y = .inl (.inr z) → ∀ (H : Heap) (locs : List Loc), va_P (dC, dI) vwCl (wX7 oM aM cI cJ cZ M_knots M_wires M_battery M_first M_second M_isCut M_turns M_turnMany M_wireClaim M_knotClaim M_hasKept M_keptKnots M_keptWires M_keptBattery M_keptFirst M_keptSecond M_keptTurns M_keptMany M_keptWire M_keptKnot M_keptCut M_told M_left M_low M_side M_faceOf M_faceMany M_table M_heights M_currents M_places M_treeMany M_wide M_high M_newTurns M_newMany M_lineHeight M_lineLeft M_lineRight M_lines) H → va_D A (wX7 oM aM cI cJ cZ M_knots M_wires M_battery M_first M_second M_isCut M_turns M_turnMany M_wireClaim M_knotClaim M_hasKept M_keptKnots M_keptWires M_keptBattery M_keptFirst M_keptSecond M_keptTurns M_keptMany M_keptWire M_keptKnot M_keptCut M_told M_left M_low M_side M_faceOf M_faceMany M_table M_heights M_currents M_places M_treeMany M_wide M_high M_newTurns M_newMany M_lineHeight M_lineLeft M_lineRight M_lines) → va_S A s.heap H locs → ∀ ls : Array Slot, lv_has ls 4 [(0, .ref oM)] → W p l e rX7_placeIn s m args below meth c H locs 0 0 (MQ below (dk_Qi (dC, dI) (dk_ty cI cJ cZ) (wX7 oM aM cI cJ cZ M_knots M_wires M_battery M_first M_second M_isCut M_turns M_turnMany M_wireClaim M_knotClaim M_hasKept M_keptKnots M_keptWires M_keptBattery M_keptFirst M_keptSecond M_keptTurns M_keptMany M_keptWire M_keptKnot M_keptCut M_told M_left M_low M_side M_faceOf M_faceMany M_table M_heights M_currents M_places M_treeMany M_wide M_high M_newTurns M_newMany M_lineHeight M_lineLeft M_lineRight M_lines) out A) args s 0 0 A) (F0 m 35 ls [])) (hC : ∀ z : Int32, y = .inr z → ∀ (H : Heap) (locs : List Loc), va_P (dC, dI) vwCl (wX7 oM aM cI cJ cZ M_knots M_wires M_battery M_first M_second M_isCut M_turns M_turnMany M_wireClaim M_knotClaim M_hasKept M_keptKnots M_keptWires M_keptBattery M_keptFirst M_keptSecond M_keptTurns M_keptMany M_keptWire M_keptKnot M_keptCut M_told M_left M_low M_side M_faceOf M_faceMany M_table M_heights M_currents M_places M_treeMany M_wide M_high M_newTurns M_newMany M_lineHeight M_lineLeft M_lineRight M_lines) H → va_D A (wX7 oM aM cI cJ cZ M_knots M_wires M_battery M_first M_second M_isCut M_turns M_turnMany M_wireClaim M_knotClaim M_hasKept M_keptKnots M_keptWires M_keptBattery M_keptFirst M_keptSecond M_keptTurns M_keptMany M_keptWire M_keptKnot M_keptCut M_told M_left M_low M_side M_faceOf M_faceMany M_table M_heights M_currents M_places M_treeMany M_wide M_high M_newTurns M_newMany M_lineHeight M_lineLeft M_lineRight M_lines) → va_S A s.heap H locs → ∀ ls : Array Slot, lv_has ls 4 [(0, .ref oM), (1, .int x1), (2, .int x2), (3, .int z)] → W p l e rX7_placeIn s m args below meth c H locs 0 0 (MQ below (dk_Qi (dC, dI) (dk_ty cI cJ cZ) (wX7 oM aM cI cJ cZ M_knots M_wires M_battery M_first M_second M_isCut M_turns M_turnMany M_wireClaim M_knotClaim M_hasKept M_keptKnots M_keptWires M_keptBattery M_keptFirst M_keptSecond M_keptTurns M_keptMany M_keptWire M_keptKnot M_keptCut M_told M_left M_low M_side M_faceOf M_faceMany M_table M_heights M_currents M_places M_treeMany M_wide M_high M_newTurns M_newMany M_lineHeight M_lineLeft M_lineRight M_lines) out A) args s 0 0 A) (F0 m 2 ls [])) : ∀ (H : Heap) (locs : List Loc), va_P (dC, dI) vwCl (wX7 oM aM cI cJ cZ M_knots M_wires M_battery M_first M_second M_isCut M_turns M_turnMany M_wireClaim M_knotClaim M_hasKept M_keptKnots M_keptWires M_keptBattery M_keptFirst M_keptSecond M_keptTurns M_keptMany M_keptWire M_keptKnot M_keptCut M_told M_left M_low M_side M_faceOf M_faceMany M_table M_heights M_currents M_places M_treeMany M_wide M_high M_newTurns M_newMany M_lineHeight M_lineLeft M_lineRight M_lines) H → va_D A (wX7 oM aM cI cJ cZ M_knots M_wires M_battery M_first M_second M_isCut M_turns M_turnMany M_wireClaim M_knotClaim M_hasKept M_keptKnots M_keptWires M_keptBattery M_keptFirst M_keptSecond M_keptTurns M_keptMany M_keptWire M_keptKnot M_keptCut M_told M_left M_low M_side M_faceOf M_faceMany M_table M_heights M_currents M_places M_treeMany M_wide M_high M_newTurns M_newMany M_lineHeight M_lineLeft M_lineRight M_lines) → va_S A s.heap H locs → ∀ ls : Array Slot, lv_has ls 4 [(0, .ref oM), (1, .int x1), (2, .int x2), (3, .int st)] → W p l e rX7_placeIn s m args below meth c H locs 0 0 (MQ below (dk_Qi (dC, dI) (dk_ty cI cJ cZ) (wX7 oM aM cI cJ cZ M_knots M_wires M_battery M_first M_second M_isCut M_turns M_turnMany M_wireClaim M_knotClaim M_hasKept M_keptKnots M_keptWires M_keptBattery M_keptFirst M_keptSecond M_keptTurns M_keptMany M_keptWire M_keptKnot M_keptCut M_told M_left M_low M_side M_faceOf M_faceMany M_table M_heights M_currents M_places M_treeMany M_wide M_high M_newTurns M_newMany M_lineHeight M_lineLeft M_lineRight M_lines) out A) args s 0 0 A) (F0 m 2 ls []) := by
  obtain ⟨hx, hb, hr, hml, hown, hts, hlocks⟩ := id C
  intro H locs hP hD hS ls hl
  unfold bX7_placeIn_2 at h
  refine lv_iload_n hx hb dX7_placeIn_2 rfl (lv_at hl 3 rfl) ?_
  refine lv_aload_n hx hb dX7_placeIn_3 rfl (lv_at hl 0 rfl) ?_
  refine va_get (D := (dC, dI)) (ci := 7) (v := .ref (aM 7)) (C := RX7) (T := TX7) (N := 40) hx hb hts qX7_placeIn_X7 hown hK hP 0 rfl rfl 7 (by decide) (hts _ qX7_placeIn_f27) (fun _ h9 => h9) rfl dX7_placeIn_4 ?_
  refine lv_iload_n hx hb dX7_placeIn_7 rfl (lv_at hl 1 rfl) ?_
  obtain ⟨g_3, h⟩ := dk_gd_to h
  have g_3 := dk_in_to g_3
  refine va_iald hx hb hK hP 5 0 rfl rfl g_3 dX7_placeIn_8 ?_
  refine lv_icmp_ge (tgt := 35) hx hb dX7_placeIn_9 (by decide) (fun c_4 => ?_) (fun c_4 => ?_)
  · replace h := dk_it c_4 h
    exact hE _ (Option.some.inj h).symm _ _ hP hD hS ls (lv_sub hl [0] rfl)
  · replace h := dk_ie c_4 h
    refine lv_aload_n hx hb dX7_placeIn_12 rfl (lv_at hl 0 rfl) ?_
    refine va_get (D := (dC, dI)) (ci := 7) (v := .ref (aM 6)) (C := RX7) (T := TX7) (N := 40) hx hb hts qX7_placeIn_X7 hown hK hP 0 rfl rfl 6 (by decide) (hts _ qX7_placeIn_f24) (fun _ h9 => h9) rfl dX7_placeIn_13 ?_
    refine lv_bipush (v := 22) hx hb dX7_placeIn_16 (by decide) ?_
    refine lv_iload_n hx hb dX7_placeIn_18 rfl (lv_at hl 1 rfl) ?_
    refine lv_imul hx hb dX7_placeIn_19 ?_
    refine lv_iload_n hx hb dX7_placeIn_20 rfl (lv_at hl 3 rfl) ?_
    refine lv_iadd hx hb dX7_placeIn_21 ?_
    obtain ⟨g_5, h⟩ := dk_gd_to h
    have g_5 := dk_in_to g_5
    refine va_iald hx hb hK hP 4 0 rfl rfl g_5 dX7_placeIn_22 ?_
    refine lv_iload_n hx hb dX7_placeIn_23 rfl (lv_at hl 2 rfl) ?_
    refine lv_icmp_ne (tgt := 29) hx hb dX7_placeIn_24 (by decide) (fun c_6 => ?_) (fun c_6 => ?_)
    · replace h := dk_ie c_6 h
      obtain ⟨x3_7, ex3_7⟩ : ∃ z : Int32, z = st + 1 := ⟨_, rfl⟩
      replace h := dk_let_to ex3_7 h
      refine lv_iinc (v := x3_7) (lv' := [(3, .int x3_7), (0, .ref oM), (1, .int x1), (2, .int x2)]) hx hb dX7_placeIn_29 hl (k := 3) rfl (by rw [ex3_7]; rfl) (by decide) rfl (fun ls hl => ?_)
      refine lv_goto (tgt := 2) hx hb dX7_placeIn_32 (by decide) ?_
      exact hC _ (Option.some.inj h).symm _ _ hP hD hS ls (lv_sub hl [1, 2, 3, 0] rfl)
    · replace h := dk_it c_6 h
      refine lv_iload_n hx hb dX7_placeIn_27 rfl (lv_at hl 3 rfl) ?_
      have e9 := hR _ (Option.some.inj h).symm
      subst e9
      exact dk_iret C hK hP hD hS rfl dX7_placeIn_28
set_option maxHeartbeats 4000000 in
set_option maxRecDepth 100000 in
theorem lX7_placeIn_2 (C : dk_C p s m meth c args cX7_placeIn (some .int) 4 RX7 vsX7_placeIn) (hK : va_K (dC, dI) vwCl (dk_ty cI cJ cZ) s) (hA : ∀ q : Nat, s.heap.size ≤ q → A q) {out : Int32} {x1 x2 : Int32} {n : Nat} {st : Int32} {r : (Int32) ⊕ (Unit)} (h : dk_loop (bX7_placeIn_2 M_turns M_turnMany x1 x2) n st = some r) (hR : ∀ z : Int32, r = .inl z → z = out) (hE : ∀ z : Unit, r = .inr z → ∀ (H : Heap) (locs : List Loc), va_P (dC, dI) vwCl (wX7 oM aM cI cJ cZ M_knots M_wires M_battery M_first M_second M_isCut M_turns M_turnMany M_wireClaim M_knotClaim M_hasKept M_keptKnots M_keptWires M_keptBattery M_keptFirst M_keptSecond M_keptTurns M_keptMany M_keptWire M_keptKnot M_keptCut M_told M_left M_low M_side M_faceOf M_faceMany M_table M_heights M_currents M_places M_treeMany M_wide M_high M_newTurns M_newMany M_lineHeight M_lineLeft M_lineRight M_lines) H → va_D A (wX7 oM aM cI cJ cZ M_knots M_wires M_battery M_first M_second M_isCut M_turns M_turnMany M_wireClaim M_knotClaim M_hasKept M_keptKnots M_keptWires M_keptBattery M_keptFirst M_keptSecond M_keptTurns M_keptMany M_keptWire M_keptKnot M_keptCut M_told M_left M_low M_side M_faceOf M_faceMany M_table M_heights M_currents M_places M_treeMany M_wide M_high M_newTurns M_newMany M_lineHeight M_lineLeft M_lineRight M_lines) → va_S A s.heap H locs → ∀ ls : Array Slot, lv_has ls 4 [(0, .ref oM)] → W p l e rX7_placeIn s m args below meth c H locs 0 0 (MQ below (dk_Qi (dC, dI) (dk_ty cI cJ cZ) (wX7 oM aM cI cJ cZ M_knots M_wires M_battery M_first M_second M_isCut M_turns M_turnMany M_wireClaim M_knotClaim M_hasKept M_keptKnots M_keptWires M_keptBattery M_keptFirst M_keptSecond M_keptTurns M_keptMany M_keptWire M_keptKnot M_keptCut M_told M_left M_low M_side M_faceOf M_faceMany M_table M_heights M_currents M_places M_treeMany M_wide M_high M_newTurns M_newMany M_lineHeight M_lineLeft M_lineRight M_lines) out A) args s 0 0 A) (F0 m 35 ls [])) : ∀ (H : Heap) (locs : List Loc), va_P (dC, dI) vwCl (wX7 oM aM cI cJ cZ M_knots M_wires M_battery M_first M_second M_isCut M_turns M_turnMany M_wireClaim M_knotClaim M_hasKept M_keptKnots M_keptWires M_keptBattery M_keptFirst M_keptSecond M_keptTurns M_keptMany M_keptWire M_keptKnot M_keptCut M_told M_left M_low M_side M_faceOf M_faceMany M_table M_heights M_currents M_places M_treeMany M_wide M_high M_newTurns M_newMany M_lineHeight M_lineLeft M_lineRight M_lines) H → va_D A (wX7 oM aM cI cJ cZ M_knots M_wires M_battery M_first M_second M_isCut M_turns M_turnMany M_wireClaim M_knotClaim M_hasKept M_keptKnots M_keptWires M_keptBattery M_keptFirst M_keptSecond M_keptTurns M_keptMany M_keptWire M_keptKnot M_keptCut M_told M_left M_low M_side M_faceOf M_faceMany M_table M_heights M_currents M_places M_treeMany M_wide M_high M_newTurns M_newMany M_lineHeight M_lineLeft M_lineRight M_lines) → va_S A s.heap H locs → ∀ ls : Array Slot, lv_has ls 4 [(0, .ref oM), (1, .int x1), (2, .int x2), (3, .int st)] → W p l e rX7_placeIn s m args below meth c H locs 0 0 (MQ below (dk_Qi (dC, dI) (dk_ty cI cJ cZ) (wX7 oM aM cI cJ cZ M_knots M_wires M_battery M_first M_second M_isCut M_turns M_turnMany M_wireClaim M_knotClaim M_hasKept M_keptKnots M_keptWires M_keptBattery M_keptFirst M_keptSecond M_keptTurns M_keptMany M_keptWire M_keptKnot M_keptCut M_told M_left M_low M_side M_faceOf M_faceMany M_table M_heights M_currents M_places M_treeMany M_wide M_high M_newTurns M_newMany M_lineHeight M_lineLeft M_lineRight M_lines) out A) args s 0 0 A) (F0 m 2 ls []) :=
  dk_loopW (P := fun st => ∀ (H : Heap) (locs : List Loc), va_P (dC, dI) vwCl (wX7 oM aM cI cJ cZ M_knots M_wires M_battery M_first M_second M_isCut M_turns M_turnMany M_wireClaim M_knotClaim M_hasKept M_keptKnots M_keptWires M_keptBattery M_keptFirst M_keptSecond M_keptTurns M_keptMany M_keptWire M_keptKnot M_keptCut M_told M_left M_low M_side M_faceOf M_faceMany M_table M_heights M_currents M_places M_treeMany M_wide M_high M_newTurns M_newMany M_lineHeight M_lineLeft M_lineRight M_lines) H → va_D A (wX7 oM aM cI cJ cZ M_knots M_wires M_battery M_first M_second M_isCut M_turns M_turnMany M_wireClaim M_knotClaim M_hasKept M_keptKnots M_keptWires M_keptBattery M_keptFirst M_keptSecond M_keptTurns M_keptMany M_keptWire M_keptKnot M_keptCut M_told M_left M_low M_side M_faceOf M_faceMany M_table M_heights M_currents M_places M_treeMany M_wide M_high M_newTurns M_newMany M_lineHeight M_lineLeft M_lineRight M_lines) → va_S A s.heap H locs → ∀ ls : Array Slot, lv_has ls 4 [(0, .ref oM), (1, .int x1), (2, .int x2), (3, .int st)] → W p l e rX7_placeIn s m args below meth c H locs 0 0 (MQ below (dk_Qi (dC, dI) (dk_ty cI cJ cZ) (wX7 oM aM cI cJ cZ M_knots M_wires M_battery M_first M_second M_isCut M_turns M_turnMany M_wireClaim M_knotClaim M_hasKept M_keptKnots M_keptWires M_keptBattery M_keptFirst M_keptSecond M_keptTurns M_keptMany M_keptWire M_keptKnot M_keptCut M_told M_left M_low M_side M_faceOf M_faceMany M_table M_heights M_currents M_places M_treeMany M_wide M_high M_newTurns M_newMany M_lineHeight M_lineLeft M_lineRight M_lines) out A) args s 0 0 A) (F0 m 2 ls [])) (K := fun r => (∀ z : Int32, r = .inl z → z = out) ∧ (∀ z : Unit, r = .inr z → ∀ (H : Heap) (locs : List Loc), va_P (dC, dI) vwCl (wX7 oM aM cI cJ cZ M_knots M_wires M_battery M_first M_second M_isCut M_turns M_turnMany M_wireClaim M_knotClaim M_hasKept M_keptKnots M_keptWires M_keptBattery M_keptFirst M_keptSecond M_keptTurns M_keptMany M_keptWire M_keptKnot M_keptCut M_told M_left M_low M_side M_faceOf M_faceMany M_table M_heights M_currents M_places M_treeMany M_wide M_high M_newTurns M_newMany M_lineHeight M_lineLeft M_lineRight M_lines) H → va_D A (wX7 oM aM cI cJ cZ M_knots M_wires M_battery M_first M_second M_isCut M_turns M_turnMany M_wireClaim M_knotClaim M_hasKept M_keptKnots M_keptWires M_keptBattery M_keptFirst M_keptSecond M_keptTurns M_keptMany M_keptWire M_keptKnot M_keptCut M_told M_left M_low M_side M_faceOf M_faceMany M_table M_heights M_currents M_places M_treeMany M_wide M_high M_newTurns M_newMany M_lineHeight M_lineLeft M_lineRight M_lines) → va_S A s.heap H locs → ∀ ls : Array Slot, lv_has ls 4 [(0, .ref oM)] → W p l e rX7_placeIn s m args below meth c H locs 0 0 (MQ below (dk_Qi (dC, dI) (dk_ty cI cJ cZ) (wX7 oM aM cI cJ cZ M_knots M_wires M_battery M_first M_second M_isCut M_turns M_turnMany M_wireClaim M_knotClaim M_hasKept M_keptKnots M_keptWires M_keptBattery M_keptFirst M_keptSecond M_keptTurns M_keptMany M_keptWire M_keptKnot M_keptCut M_told M_left M_low M_side M_faceOf M_faceMany M_table M_heights M_currents M_places M_treeMany M_wide M_high M_newTurns M_newMany M_lineHeight M_lineLeft M_lineRight M_lines) out A) args s 0 0 A) (F0 m 35 ls []))) (fun st y hy k1 k2 => tX7_placeIn_2 C hK hA hy (fun z e1 => (k1 _ e1).1 z rfl) (fun z e1 => (k1 _ e1).2 z rfl) k2) n st r h ⟨hR, hE⟩
end
set_option maxHeartbeats 4000000 in
set_option maxRecDepth 100000 in
theorem mX7_placeIn (l : Launch) (dC : Nat → ClassId) (dI : Nat → Nat → Nat) (cI cJ cZ : ClassId) {oM : Nat} {aM : Nat → Nat} {M_knots M_wires M_battery : Int32} {M_first M_second M_isCut M_turns M_turnMany M_wireClaim M_knotClaim : Nat → Int32} {M_hasKept M_keptKnots M_keptWires M_keptBattery : Int32} {M_keptFirst M_keptSecond M_keptTurns M_keptMany M_keptWire M_keptKnot M_keptCut : Nat → Int32} {M_told : Int32} {M_left M_low M_side M_faceOf : Nat → Int32} {M_faceMany : Int32} {M_table : Nat → Int64} {M_heights M_currents M_places : Nat → Int32} {M_treeMany : Int64} {M_wide M_high : Int32} {M_newTurns M_newMany M_lineHeight M_lineLeft M_lineRight : Nat → Int32} {M_lines : Int32} {x1 x2 : Int32} {out : Int32} (h : fX7_placeIn M_turns M_turnMany x1 x2 = some out) (sz : Nat) : Met l yX7_placeIn vsX7_placeIn rX7_placeIn (va_Pc [.ref oM, .int x1, .int x2] (dk_Pre (dC, dI) (dk_ty cI cJ cZ) (wX7 oM aM cI cJ cZ M_knots M_wires M_battery M_first M_second M_isCut M_turns M_turnMany M_wireClaim M_knotClaim M_hasKept M_keptKnots M_keptWires M_keptBattery M_keptFirst M_keptSecond M_keptTurns M_keptMany M_keptWire M_keptKnot M_keptCut M_told M_left M_low M_side M_faceOf M_faceMany M_table M_heights M_currents M_places M_treeMany M_wide M_high M_newTurns M_newMany M_lineHeight M_lineLeft M_lineRight M_lines) sz)) (dk_Qi (dC, dI) (dk_ty cI cJ cZ) (wX7 oM aM cI cJ cZ M_knots M_wires M_battery M_first M_second M_isCut M_turns M_turnMany M_wireClaim M_knotClaim M_hasKept M_keptKnots M_keptWires M_keptBattery M_keptFirst M_keptSecond M_keptTurns M_keptMany M_keptWire M_keptKnot M_keptCut M_told M_left M_low M_side M_faceOf M_faceMany M_table M_heights M_currents M_places M_treeMany M_wide M_high M_newTurns M_newMany M_lineHeight M_lineLeft M_lineRight M_lines) out (va_A (wX7 oM aM cI cJ cZ M_knots M_wires M_battery M_first M_second M_isCut M_turns M_turnMany M_wireClaim M_knotClaim M_hasKept M_keptKnots M_keptWires M_keptBattery M_keptFirst M_keptSecond M_keptTurns M_keptMany M_keptWire M_keptKnot M_keptCut M_told M_left M_low M_side M_faceOf M_faceMany M_table M_heights M_currents M_places M_treeMany M_wide M_high M_newTurns M_newMany M_lineHeight M_lineLeft M_lineRight M_lines) sz)) 0 0 (va_A (wX7 oM aM cI cJ cZ M_knots M_wires M_battery M_first M_second M_isCut M_turns M_turnMany M_wireClaim M_knotClaim M_hasKept M_keptKnots M_keptWires M_keptBattery M_keptFirst M_keptSecond M_keptTurns M_keptMany M_keptWire M_keptKnot M_keptCut M_told M_left M_low M_side M_faceOf M_faceMany M_table M_heights M_currents M_places M_treeMany M_wide M_high M_newTurns M_newMany M_lineHeight M_lineLeft M_lineRight M_lines) sz) := by
  refine dk_met (cc := cX7_placeIn) (maxL := 4) (ret := (some .int)) (Qc := fun A => dk_Qi (dC, dI) (dk_ty cI cJ cZ) (wX7 oM aM cI cJ cZ M_knots M_wires M_battery M_first M_second M_isCut M_turns M_turnMany M_wireClaim M_knotClaim M_hasKept M_keptKnots M_keptWires M_keptBattery M_keptFirst M_keptSecond M_keptTurns M_keptMany M_keptWire M_keptKnot M_keptCut M_told M_left M_low M_side M_faceOf M_faceMany M_table M_heights M_currents M_places M_treeMany M_wide M_high M_newTurns M_newMany M_lineHeight M_lineLeft M_lineRight M_lines) out A) (by decide) rfl (Nat.le_of_ble_eq_true rfl) ?_
  intro p e s m below meth c A C hnm hA hK hP hD hS ls hl
  have C : dk_C p s m meth c _ cX7_placeIn (some .int) 4 RX7 vsX7_placeIn := C
  obtain ⟨hx, hb, hr, hml, hown, hts, hlocks⟩ := id C
  have hl : lv_has ls 4 [(0, .ref oM), (1, .int x1), (2, .int x2)] := hl
  unfold fX7_placeIn at h
  refine lv_iconst (v := 0) hx hb dX7_placeIn_0 (by decide) ?_
  refine lv_istore_n (lv' := [(3, .int 0), (0, .ref oM), (1, .int x1), (2, .int x2)]) hx hb dX7_placeIn_1 rfl hl (by decide) rfl (fun ls hl => ?_)
  obtain ⟨r_1, hLr_1, h⟩ := dk_bnd_to h
  cases r_1 with
  | inl zz =>
    replace h := dk_sum_l h
    have hz := Option.some.inj h
    exact lX7_placeIn_2 C hK hA hLr_1 (fun z1 e1 => by cases e1; exact hz) (fun z1 e1 => by cases e1) _ _ hP hD hS ls (lv_sub hl [1, 2, 3, 0] rfl)
  | inr z_2 =>
    replace h := dk_sum_r h
    refine lX7_placeIn_2 C hK hA hLr_1 (fun z1 e1 => by cases e1) (fun z1 e1 => ?_) _ _ hP hD hS ls (lv_sub hl [1, 2, 3, 0] rfl)
    have e2 := Sum.inr.inj e1
    subst e2
    intro H locs hP hD hS ls hl
    refine lv_iconst (v := (-1)) hx hb dX7_placeIn_35 (by decide) ?_
    have e9 := Option.some.inj h
    subst e9
    exact dk_iret C hK hP hD hS rfl dX7_placeIn_36
/-! ===== SquareTilerModel.lay ===== -/
abbrev rX7_lay : Room := { frames := 2, cells := 0, slots := 0, locals := 43 }
def ovX7_lay : List Cond := [Cond.constant RX7 107 (-2000000000), Cond.fieldLink RX7 13 "SquareTilerModel" "first" "[I", Cond.fieldLink RX7 17 "SquareTilerModel" "second" "[I", Cond.fieldLink RX7 24 "SquareTilerModel" "turns" "[I", Cond.fieldLink RX7 27 "SquareTilerModel" "turnMany" "[I", Cond.methodLink RX7 108 yX7_isKnot, Cond.instanceMethod yX7_isKnot, Cond.selects RX7 yX7_isKnot yX7_isKnot, Cond.initialized RX7, Cond.methodLink RX7 112 yX7_isWire, Cond.instanceMethod yX7_isWire, Cond.selects RX7 yX7_isWire yX7_isWire, Cond.methodLink RX7 115 yX7_placeIn, Cond.instanceMethod yX7_placeIn, Cond.selects RX7 yX7_placeIn yX7_placeIn]
def vsX7_lay : List Cond := .code yX7_lay cX7_lay 3 (some .int) :: (ovX7_lay ++ (wsX70 ++ (vsX7_isKnot ++ (vsX7_isWire ++ (vsX7_placeIn ++ [])))))
theorem qX7_lay_k107 : Cond.constant RX7 107 (-2000000000) ∈ vsX7_lay := List.mem_cons_of_mem _ (List.mem_append_left _ (List.mem_of_getElem? (i := 0) rfl))
theorem qX7_lay_f13 : Cond.fieldLink RX7 13 "SquareTilerModel" "first" "[I" ∈ vsX7_lay := List.mem_cons_of_mem _ (List.mem_append_left _ (List.mem_of_getElem? (i := 1) rfl))
theorem qX7_lay_f17 : Cond.fieldLink RX7 17 "SquareTilerModel" "second" "[I" ∈ vsX7_lay := List.mem_cons_of_mem _ (List.mem_append_left _ (List.mem_of_getElem? (i := 2) rfl))
theorem qX7_lay_f24 : Cond.fieldLink RX7 24 "SquareTilerModel" "turns" "[I" ∈ vsX7_lay := List.mem_cons_of_mem _ (List.mem_append_left _ (List.mem_of_getElem? (i := 3) rfl))
theorem qX7_lay_f27 : Cond.fieldLink RX7 27 "SquareTilerModel" "turnMany" "[I" ∈ vsX7_lay := List.mem_cons_of_mem _ (List.mem_append_left _ (List.mem_of_getElem? (i := 4) rfl))
theorem qX7_lay_w5 : Cond.methodLink RX7 108 yX7_isKnot ∈ vsX7_lay := List.mem_cons_of_mem _ (List.mem_append_left _ (List.mem_of_getElem? (i := 5) rfl))
theorem qX7_lay_w6 : Cond.instanceMethod yX7_isKnot ∈ vsX7_lay := List.mem_cons_of_mem _ (List.mem_append_left _ (List.mem_of_getElem? (i := 6) rfl))
theorem qX7_lay_w7 : Cond.selects RX7 yX7_isKnot yX7_isKnot ∈ vsX7_lay := List.mem_cons_of_mem _ (List.mem_append_left _ (List.mem_of_getElem? (i := 7) rfl))
theorem qX7_lay_w8 : Cond.initialized RX7 ∈ vsX7_lay := List.mem_cons_of_mem _ (List.mem_append_left _ (List.mem_of_getElem? (i := 8) rfl))
theorem qX7_lay_w9 : Cond.methodLink RX7 112 yX7_isWire ∈ vsX7_lay := List.mem_cons_of_mem _ (List.mem_append_left _ (List.mem_of_getElem? (i := 9) rfl))
theorem qX7_lay_w10 : Cond.instanceMethod yX7_isWire ∈ vsX7_lay := List.mem_cons_of_mem _ (List.mem_append_left _ (List.mem_of_getElem? (i := 10) rfl))
theorem qX7_lay_w11 : Cond.selects RX7 yX7_isWire yX7_isWire ∈ vsX7_lay := List.mem_cons_of_mem _ (List.mem_append_left _ (List.mem_of_getElem? (i := 11) rfl))
theorem qX7_lay_w12 : Cond.methodLink RX7 115 yX7_placeIn ∈ vsX7_lay := List.mem_cons_of_mem _ (List.mem_append_left _ (List.mem_of_getElem? (i := 12) rfl))
theorem qX7_lay_w13 : Cond.instanceMethod yX7_placeIn ∈ vsX7_lay := List.mem_cons_of_mem _ (List.mem_append_left _ (List.mem_of_getElem? (i := 13) rfl))
theorem qX7_lay_w14 : Cond.selects RX7 yX7_placeIn yX7_placeIn ∈ vsX7_lay := List.mem_cons_of_mem _ (List.mem_append_left _ (List.mem_of_getElem? (i := 14) rfl))
theorem qX7_lay_X7 : ∀ w ∈ u_ws RX7 TX7 40, w ∈ vsX7_lay := fun w h => List.mem_cons_of_mem _ (List.mem_append_right _ (List.mem_append_left _ h))
theorem gd_vsX7_lay : ∀ w ∈ vsX7_lay, goodWord w = true := dk_cons rfl (dk_app (dk_all (by decide +kernel)) (dk_app gd_wsX70 (dk_app gd_vsX7_isKnot (dk_app gd_vsX7_isWire (dk_app gd_vsX7_placeIn dk_nil)))))
theorem gvX7_lay_X7_isKnot : GoodIn vsX7_lay (wsV RX7 108 RX7 yX7_isKnot vsX7_isKnot) := goodIn_app (dk_g4 qX7_lay_w5 qX7_lay_w6 qX7_lay_w7 qX7_lay_w8 rfl) (dk_gIn (fun w h => List.mem_cons_of_mem _ (List.mem_append_right _ (List.mem_append_right _ (List.mem_append_left _ h)))) gd_vsX7_isKnot)
theorem gvX7_lay_X7_isWire : GoodIn vsX7_lay (wsV RX7 112 RX7 yX7_isWire vsX7_isWire) := goodIn_app (dk_g4 qX7_lay_w9 qX7_lay_w10 qX7_lay_w11 qX7_lay_w8 rfl) (dk_gIn (fun w h => List.mem_cons_of_mem _ (List.mem_append_right _ (List.mem_append_right _ (List.mem_append_right _ (List.mem_append_left _ h))))) gd_vsX7_isWire)
theorem gvX7_lay_X7_placeIn : GoodIn vsX7_lay (wsV RX7 115 RX7 yX7_placeIn vsX7_placeIn) := goodIn_app (dk_g4 qX7_lay_w12 qX7_lay_w13 qX7_lay_w14 qX7_lay_w8 rfl) (dk_gIn (fun w h => List.mem_cons_of_mem _ (List.mem_append_right _ (List.mem_append_right _ (List.mem_append_right _ (List.mem_append_right _ (List.mem_append_left _ h)))))) gd_vsX7_placeIn)
def jX7_lay_36 (M_knots M_wires : Int32) (M_first M_second M_turns M_turnMany : Nat → Int32) (x1 x2 : Int32) : Option (Int32 × (Nat → Int32) × (Nat → Int32)) := dk_bnd (fX7_placeIn M_turns M_turnMany x1 x2) (fun r_8 => if r_8 < 0 then dk_gd (dk_in x1 12) (dk_gd (dk_in ((22 * x1) + (M_turnMany x1.toNatClampNeg)) 264) (dk_let (upd M_turns ((22 * x1) + (M_turnMany x1.toNatClampNeg)).toNatClampNeg x2) (fun M_turns_12 => dk_let (upd M_turnMany x1.toNatClampNeg ((M_turnMany x1.toNatClampNeg) + 1)) (fun M_turnMany_13 => some ((M_turnMany_13 x1.toNatClampNeg), M_turns_12, M_turnMany_13))))) else some ((-2000000000), M_turns, M_turnMany))
def fX7_lay (M_knots M_wires : Int32) (M_first M_second M_turns M_turnMany : Nat → Int32) (x1 x2 : Int32) : Option (Int32 × (Nat → Int32) × (Nat → Int32)) := dk_bnd (fX7_isKnot M_knots x1) (fun r_1 => if r_1 = 0 then some ((-2000000000), M_turns, M_turnMany) else dk_bnd (fX7_isWire M_wires x2) (fun r_3 => if r_3 = 0 then some ((-2000000000), M_turns, M_turnMany) else dk_gd (dk_in x2 22) (if (M_first x2.toNatClampNeg) = x1 then jX7_lay_36 M_knots M_wires M_first M_second M_turns M_turnMany x1 x2 else if (M_second x2.toNatClampNeg) = x1 then jX7_lay_36 M_knots M_wires M_first M_second M_turns M_turnMany x1 x2 else some ((-2000000000), M_turns, M_turnMany))))
section
variable {p : Program} {l : Launch} {e : Env} {s : State} {m : MethodId} {args : Array Value} {below : List Frame} {meth : Method} {c : Code} {dC : Nat → ClassId} {dI : Nat → Nat → Nat} {cI cJ cZ : ClassId} {A : Nat → Prop} {oM : Nat} {aM : Nat → Nat} {M_knots M_wires M_battery : Int32} {M_first M_second M_isCut M_turns M_turnMany M_wireClaim M_knotClaim : Nat → Int32} {M_hasKept M_keptKnots M_keptWires M_keptBattery : Int32} {M_keptFirst M_keptSecond M_keptTurns M_keptMany M_keptWire M_keptKnot M_keptCut : Nat → Int32} {M_told : Int32} {M_left M_low M_side M_faceOf : Nat → Int32} {M_faceMany : Int32} {M_table : Nat → Int64} {M_heights M_currents M_places : Nat → Int32} {M_treeMany : Int64} {M_wide M_high : Int32} {M_newTurns M_newMany M_lineHeight M_lineLeft M_lineRight : Nat → Int32} {M_lines : Int32}
set_option maxHeartbeats 4000000 in
set_option maxRecDepth 100000 in
theorem kX7_lay_36 (C : dk_C p s m meth c args cX7_lay (some .int) 3 RX7 vsX7_lay) (hK : va_K (dC, dI) vwCl (dk_ty cI cJ cZ) s) (hA : ∀ q : Nat, s.heap.size ≤ q → A q) {out : Int32 × (Nat → Int32) × (Nat → Int32)} {x1 x2 : Int32} (h : jX7_lay_36 M_knots M_wires M_first M_second M_turns M_turnMany x1 x2 = some out) : ∀ (H : Heap) (locs : List Loc), va_P (dC, dI) vwCl (wX7 oM aM cI cJ cZ M_knots M_wires M_battery M_first M_second M_isCut M_turns M_turnMany M_wireClaim M_knotClaim M_hasKept M_keptKnots M_keptWires M_keptBattery M_keptFirst M_keptSecond M_keptTurns M_keptMany M_keptWire M_keptKnot M_keptCut M_told M_left M_low M_side M_faceOf M_faceMany M_table M_heights M_currents M_places M_treeMany M_wide M_high M_newTurns M_newMany M_lineHeight M_lineLeft M_lineRight M_lines) H → va_D A (wX7 oM aM cI cJ cZ M_knots M_wires M_battery M_first M_second M_isCut M_turns M_turnMany M_wireClaim M_knotClaim M_hasKept M_keptKnots M_keptWires M_keptBattery M_keptFirst M_keptSecond M_keptTurns M_keptMany M_keptWire M_keptKnot M_keptCut M_told M_left M_low M_side M_faceOf M_faceMany M_table M_heights M_currents M_places M_treeMany M_wide M_high M_newTurns M_newMany M_lineHeight M_lineLeft M_lineRight M_lines) → va_S A s.heap H locs → ∀ ls : Array Slot, lv_has ls 3 [(0, .ref oM), (1, .int x1), (2, .int x2)] → W p l e rX7_lay s m args below meth c H locs 0 0 (MQ below (dk_Qi (dC, dI) (dk_ty cI cJ cZ) (wX7 oM aM cI cJ cZ M_knots M_wires M_battery M_first M_second M_isCut out.2.1 out.2.2 M_wireClaim M_knotClaim M_hasKept M_keptKnots M_keptWires M_keptBattery M_keptFirst M_keptSecond M_keptTurns M_keptMany M_keptWire M_keptKnot M_keptCut M_told M_left M_low M_side M_faceOf M_faceMany M_table M_heights M_currents M_places M_treeMany M_wide M_high M_newTurns M_newMany M_lineHeight M_lineLeft M_lineRight M_lines) out.1 A) args s 0 0 A) (F0 m 36 ls []) := by
  obtain ⟨hx, hb, hr, hml, hown, hts, hlocks⟩ := id C
  intro H locs hP hD hS ls hl
  unfold jX7_lay_36 at h
  refine lv_aload_n hx hb dX7_lay_36 rfl (lv_at hl 0 rfl) ?_
  refine lv_iload_n hx hb dX7_lay_37 rfl (lv_at hl 1 rfl) ?_
  refine lv_iload_n hx hb dX7_lay_38 rfl (lv_at hl 2 rfl) ?_
  obtain ⟨r_8, hcr_8, h⟩ := dk_bnd_to h
  refine dk_rVi (b := oM) (As := [.int x1, .int x2]) (rest := []) (wc := (wX7 oM aM cI cJ cZ M_knots M_wires M_battery M_first M_second M_isCut M_turns M_turnMany M_wireClaim M_knotClaim M_hasKept M_keptKnots M_keptWires M_keptBattery M_keptFirst M_keptSecond M_keptTurns M_keptMany M_keptWire M_keptKnot M_keptCut M_told M_left M_low M_side M_faceOf M_faceMany M_table M_heights M_currents M_places M_treeMany M_wide M_high M_newTurns M_newMany M_lineHeight M_lineLeft M_lineRight M_lines)) C hK hP hD hS hA (mX7_placeIn l dC dI cI cJ cZ hcr_8 _) (cwV 2 hts gvX7_lay_X7_placeIn rfl rfl rfl (by decide +kernel) ⟨Nat.le_of_ble_eq_true rfl, Nat.le_of_ble_eq_true rfl⟩) [0, 1, 2, 3, 4, 5, 6, 7, 8, 9, 10, 11, 12, 13, 14, 15, 16, 17, 18, 19, 20, 21, 22, 23, 24, 25, 26, 27] rfl (by decide) 0 7 rfl rfl rfl hl.1 rfl (Nat.le_of_ble_eq_true rfl) ⟨Nat.le_of_ble_eq_true rfl, Nat.le_of_ble_eq_true rfl⟩ dX7_lay_39 (fun H locs hP hD hS => ?_)
  refine lv_if_lt (tgt := 48) hx hb dX7_lay_42 (by decide) (fun c_9 => ?_) (fun c_9 => ?_)
  · replace h := dk_it c_9 h
    refine lv_aload_n hx hb dX7_lay_48 rfl (lv_at hl 0 rfl) ?_
    refine va_get (D := (dC, dI)) (ci := 7) (v := .ref (aM 6)) (C := RX7) (T := TX7) (N := 40) hx hb hts qX7_lay_X7 hown hK hP 0 rfl rfl 6 (by decide) (hts _ qX7_lay_f24) (fun _ h9 => h9) rfl dX7_lay_49 ?_
    refine lv_bipush (v := 22) hx hb dX7_lay_52 (by decide) ?_
    refine lv_iload_n hx hb dX7_lay_54 rfl (lv_at hl 1 rfl) ?_
    refine lv_imul hx hb dX7_lay_55 ?_
    refine lv_aload_n hx hb dX7_lay_56 rfl (lv_at hl 0 rfl) ?_
    refine va_get (D := (dC, dI)) (ci := 7) (v := .ref (aM 7)) (C := RX7) (T := TX7) (N := 40) hx hb hts qX7_lay_X7 hown hK hP 0 rfl rfl 7 (by decide) (hts _ qX7_lay_f27) (fun _ h9 => h9) rfl dX7_lay_57 ?_
    refine lv_iload_n hx hb dX7_lay_60 rfl (lv_at hl 1 rfl) ?_
    obtain ⟨g_10, h⟩ := dk_gd_to h
    have g_10 := dk_in_to g_10
    refine va_iald hx hb hK hP 5 0 rfl rfl g_10 dX7_lay_61 ?_
    refine lv_iadd hx hb dX7_lay_62 ?_
    refine lv_iload_n hx hb dX7_lay_63 rfl (lv_at hl 2 rfl) ?_
    obtain ⟨g_11, h⟩ := dk_gd_to h
    have g_11 := dk_in_to g_11
    refine va_iast hx hb hK hP hD hS 4 0 rfl rfl g_11 dX7_lay_64 (fun H locs hP hD hS => ?_)
    obtain ⟨M_turns_12, eM_turns_12⟩ : ∃ z : Nat → Int32, z = upd M_turns ((22 * x1) + (M_turnMany x1.toNatClampNeg)).toNatClampNeg x2 := ⟨_, rfl⟩
    replace h := dk_let_to eM_turns_12 h
    have hP : va_P (dC, dI) vwCl (wX7 oM aM cI cJ cZ M_knots M_wires M_battery M_first M_second M_isCut M_turns_12 M_turnMany M_wireClaim M_knotClaim M_hasKept M_keptKnots M_keptWires M_keptBattery M_keptFirst M_keptSecond M_keptTurns M_keptMany M_keptWire M_keptKnot M_keptCut M_told M_left M_low M_side M_faceOf M_faceMany M_table M_heights M_currents M_places M_treeMany M_wide M_high M_newTurns M_newMany M_lineHeight M_lineLeft M_lineRight M_lines) H := by rw [eM_turns_12]; exact hP
    have hD : va_D A (wX7 oM aM cI cJ cZ M_knots M_wires M_battery M_first M_second M_isCut M_turns_12 M_turnMany M_wireClaim M_knotClaim M_hasKept M_keptKnots M_keptWires M_keptBattery M_keptFirst M_keptSecond M_keptTurns M_keptMany M_keptWire M_keptKnot M_keptCut M_told M_left M_low M_side M_faceOf M_faceMany M_table M_heights M_currents M_places M_treeMany M_wide M_high M_newTurns M_newMany M_lineHeight M_lineLeft M_lineRight M_lines) := by rw [eM_turns_12]; exact hD
    refine lv_aload_n hx hb dX7_lay_65 rfl (lv_at hl 0 rfl) ?_
    refine va_get (D := (dC, dI)) (ci := 7) (v := .ref (aM 7)) (C := RX7) (T := TX7) (N := 40) hx hb hts qX7_lay_X7 hown hK hP 0 rfl rfl 7 (by decide) (hts _ qX7_lay_f27) (fun _ h9 => h9) rfl dX7_lay_66 ?_
    refine lv_iload_n hx hb dX7_lay_69 rfl (lv_at hl 1 rfl) ?_
    refine lv_dup2_11 hx hb dX7_lay_70 rfl rfl ?_
    refine va_iald hx hb hK hP 5 0 rfl rfl g_10 dX7_lay_71 ?_
    refine lv_iconst (v := 1) hx hb dX7_lay_72 (by decide) ?_
    refine lv_iadd hx hb dX7_lay_73 ?_
    refine va_iast hx hb hK hP hD hS 5 0 rfl rfl g_10 dX7_lay_74 (fun H locs hP hD hS => ?_)
    obtain ⟨M_turnMany_13, eM_turnMany_13⟩ : ∃ z : Nat → Int32, z = upd M_turnMany x1.toNatClampNeg ((M_turnMany x1.toNatClampNeg) + 1) := ⟨_, rfl⟩
    replace h := dk_let_to eM_turnMany_13 h
    have hP : va_P (dC, dI) vwCl (wX7 oM aM cI cJ cZ M_knots M_wires M_battery M_first M_second M_isCut M_turns_12 M_turnMany_13 M_wireClaim M_knotClaim M_hasKept M_keptKnots M_keptWires M_keptBattery M_keptFirst M_keptSecond M_keptTurns M_keptMany M_keptWire M_keptKnot M_keptCut M_told M_left M_low M_side M_faceOf M_faceMany M_table M_heights M_currents M_places M_treeMany M_wide M_high M_newTurns M_newMany M_lineHeight M_lineLeft M_lineRight M_lines) H := by rw [eM_turnMany_13]; exact hP
    have hD : va_D A (wX7 oM aM cI cJ cZ M_knots M_wires M_battery M_first M_second M_isCut M_turns_12 M_turnMany_13 M_wireClaim M_knotClaim M_hasKept M_keptKnots M_keptWires M_keptBattery M_keptFirst M_keptSecond M_keptTurns M_keptMany M_keptWire M_keptKnot M_keptCut M_told M_left M_low M_side M_faceOf M_faceMany M_table M_heights M_currents M_places M_treeMany M_wide M_high M_newTurns M_newMany M_lineHeight M_lineLeft M_lineRight M_lines) := by rw [eM_turnMany_13]; exact hD
    refine lv_aload_n hx hb dX7_lay_75 rfl (lv_at hl 0 rfl) ?_
    refine va_get (D := (dC, dI)) (ci := 7) (v := .ref (aM 7)) (C := RX7) (T := TX7) (N := 40) hx hb hts qX7_lay_X7 hown hK hP 0 rfl rfl 7 (by decide) (hts _ qX7_lay_f27) (fun _ h9 => h9) rfl dX7_lay_76 ?_
    refine lv_iload_n hx hb dX7_lay_79 rfl (lv_at hl 1 rfl) ?_
    refine va_iald hx hb hK hP 5 0 rfl rfl g_10 dX7_lay_80 ?_
    have e9 := Option.some.inj h
    subst e9
    exact dk_iret C hK hP hD hS rfl dX7_lay_81
  · replace h := dk_ie c_9 h
    refine lv_ldc (v := (-2000000000)) hx hb hown (hts _ qX7_lay_k107) dX7_lay_45 ?_
    have e9 := Option.some.inj h
    subst e9
    exact dk_iret C hK hP hD hS rfl dX7_lay_47
end
set_option maxHeartbeats 4000000 in
set_option maxRecDepth 100000 in
theorem mX7_lay (l : Launch) (dC : Nat → ClassId) (dI : Nat → Nat → Nat) (cI cJ cZ : ClassId) {oM : Nat} {aM : Nat → Nat} {M_knots M_wires M_battery : Int32} {M_first M_second M_isCut M_turns M_turnMany M_wireClaim M_knotClaim : Nat → Int32} {M_hasKept M_keptKnots M_keptWires M_keptBattery : Int32} {M_keptFirst M_keptSecond M_keptTurns M_keptMany M_keptWire M_keptKnot M_keptCut : Nat → Int32} {M_told : Int32} {M_left M_low M_side M_faceOf : Nat → Int32} {M_faceMany : Int32} {M_table : Nat → Int64} {M_heights M_currents M_places : Nat → Int32} {M_treeMany : Int64} {M_wide M_high : Int32} {M_newTurns M_newMany M_lineHeight M_lineLeft M_lineRight : Nat → Int32} {M_lines : Int32} {x1 x2 : Int32} {out : Int32 × (Nat → Int32) × (Nat → Int32)} (h : fX7_lay M_knots M_wires M_first M_second M_turns M_turnMany x1 x2 = some out) (sz : Nat) : Met l yX7_lay vsX7_lay rX7_lay (va_Pc [.ref oM, .int x1, .int x2] (dk_Pre (dC, dI) (dk_ty cI cJ cZ) (wX7 oM aM cI cJ cZ M_knots M_wires M_battery M_first M_second M_isCut M_turns M_turnMany M_wireClaim M_knotClaim M_hasKept M_keptKnots M_keptWires M_keptBattery M_keptFirst M_keptSecond M_keptTurns M_keptMany M_keptWire M_keptKnot M_keptCut M_told M_left M_low M_side M_faceOf M_faceMany M_table M_heights M_currents M_places M_treeMany M_wide M_high M_newTurns M_newMany M_lineHeight M_lineLeft M_lineRight M_lines) sz)) (dk_Qi (dC, dI) (dk_ty cI cJ cZ) (wX7 oM aM cI cJ cZ M_knots M_wires M_battery M_first M_second M_isCut out.2.1 out.2.2 M_wireClaim M_knotClaim M_hasKept M_keptKnots M_keptWires M_keptBattery M_keptFirst M_keptSecond M_keptTurns M_keptMany M_keptWire M_keptKnot M_keptCut M_told M_left M_low M_side M_faceOf M_faceMany M_table M_heights M_currents M_places M_treeMany M_wide M_high M_newTurns M_newMany M_lineHeight M_lineLeft M_lineRight M_lines) out.1 (va_A (wX7 oM aM cI cJ cZ M_knots M_wires M_battery M_first M_second M_isCut M_turns M_turnMany M_wireClaim M_knotClaim M_hasKept M_keptKnots M_keptWires M_keptBattery M_keptFirst M_keptSecond M_keptTurns M_keptMany M_keptWire M_keptKnot M_keptCut M_told M_left M_low M_side M_faceOf M_faceMany M_table M_heights M_currents M_places M_treeMany M_wide M_high M_newTurns M_newMany M_lineHeight M_lineLeft M_lineRight M_lines) sz)) 0 0 (va_A (wX7 oM aM cI cJ cZ M_knots M_wires M_battery M_first M_second M_isCut M_turns M_turnMany M_wireClaim M_knotClaim M_hasKept M_keptKnots M_keptWires M_keptBattery M_keptFirst M_keptSecond M_keptTurns M_keptMany M_keptWire M_keptKnot M_keptCut M_told M_left M_low M_side M_faceOf M_faceMany M_table M_heights M_currents M_places M_treeMany M_wide M_high M_newTurns M_newMany M_lineHeight M_lineLeft M_lineRight M_lines) sz) := by
  refine dk_met (cc := cX7_lay) (maxL := 3) (ret := (some .int)) (Qc := fun A => dk_Qi (dC, dI) (dk_ty cI cJ cZ) (wX7 oM aM cI cJ cZ M_knots M_wires M_battery M_first M_second M_isCut out.2.1 out.2.2 M_wireClaim M_knotClaim M_hasKept M_keptKnots M_keptWires M_keptBattery M_keptFirst M_keptSecond M_keptTurns M_keptMany M_keptWire M_keptKnot M_keptCut M_told M_left M_low M_side M_faceOf M_faceMany M_table M_heights M_currents M_places M_treeMany M_wide M_high M_newTurns M_newMany M_lineHeight M_lineLeft M_lineRight M_lines) out.1 A) (by decide) rfl (Nat.le_of_ble_eq_true rfl) ?_
  intro p e s m below meth c A C hnm hA hK hP hD hS ls hl
  have C : dk_C p s m meth c _ cX7_lay (some .int) 3 RX7 vsX7_lay := C
  obtain ⟨hx, hb, hr, hml, hown, hts, hlocks⟩ := id C
  have hl : lv_has ls 3 [(0, .ref oM), (1, .int x1), (2, .int x2)] := hl
  unfold fX7_lay at h
  refine lv_aload_n hx hb dX7_lay_0 rfl (lv_at hl 0 rfl) ?_
  refine lv_iload_n hx hb dX7_lay_1 rfl (lv_at hl 1 rfl) ?_
  obtain ⟨r_1, hcr_1, h⟩ := dk_bnd_to h
  refine dk_rVi (b := oM) (As := [.int x1]) (rest := []) (wc := (wX7 oM aM cI cJ cZ M_knots M_wires M_battery M_first M_second M_isCut M_turns M_turnMany M_wireClaim M_knotClaim M_hasKept M_keptKnots M_keptWires M_keptBattery M_keptFirst M_keptSecond M_keptTurns M_keptMany M_keptWire M_keptKnot M_keptCut M_told M_left M_low M_side M_faceOf M_faceMany M_table M_heights M_currents M_places M_treeMany M_wide M_high M_newTurns M_newMany M_lineHeight M_lineLeft M_lineRight M_lines)) C hK hP hD hS hA (mX7_isKnot l dC dI cI cJ cZ hcr_1 _) (cwV 1 hts gvX7_lay_X7_isKnot rfl rfl rfl (by decide +kernel) ⟨Nat.le_of_ble_eq_true rfl, Nat.le_of_ble_eq_true rfl⟩) [0, 1, 2, 3, 4, 5, 6, 7, 8, 9, 10, 11, 12, 13, 14, 15, 16, 17, 18, 19, 20, 21, 22, 23, 24, 25, 26, 27] rfl (by decide) 0 7 rfl rfl rfl hl.1 rfl (Nat.le_of_ble_eq_true rfl) ⟨Nat.le_of_ble_eq_true rfl, Nat.le_of_ble_eq_true rfl⟩ dX7_lay_2 (fun H locs hP hD hS => ?_)
  refine lv_if_eq (tgt := 45) hx hb dX7_lay_5 (by decide) (fun c_2 => ?_) (fun c_2 => ?_)
  · replace h := dk_it c_2 h
    refine lv_ldc (v := (-2000000000)) hx hb hown (hts _ qX7_lay_k107) dX7_lay_45 ?_
    have e9 := Option.some.inj h
    subst e9
    exact dk_iret C hK hP hD hS rfl dX7_lay_47
  · replace h := dk_ie c_2 h
    refine lv_aload_n hx hb dX7_lay_8 rfl (lv_at hl 0 rfl) ?_
    refine lv_iload_n hx hb dX7_lay_9 rfl (lv_at hl 2 rfl) ?_
    obtain ⟨r_3, hcr_3, h⟩ := dk_bnd_to h
    refine dk_rVi (b := oM) (As := [.int x2]) (rest := []) (wc := (wX7 oM aM cI cJ cZ M_knots M_wires M_battery M_first M_second M_isCut M_turns M_turnMany M_wireClaim M_knotClaim M_hasKept M_keptKnots M_keptWires M_keptBattery M_keptFirst M_keptSecond M_keptTurns M_keptMany M_keptWire M_keptKnot M_keptCut M_told M_left M_low M_side M_faceOf M_faceMany M_table M_heights M_currents M_places M_treeMany M_wide M_high M_newTurns M_newMany M_lineHeight M_lineLeft M_lineRight M_lines)) C hK hP hD hS hA (mX7_isWire l dC dI cI cJ cZ hcr_3 _) (cwV 1 hts gvX7_lay_X7_isWire rfl rfl rfl (by decide +kernel) ⟨Nat.le_of_ble_eq_true rfl, Nat.le_of_ble_eq_true rfl⟩) [0, 1, 2, 3, 4, 5, 6, 7, 8, 9, 10, 11, 12, 13, 14, 15, 16, 17, 18, 19, 20, 21, 22, 23, 24, 25, 26, 27] rfl (by decide) 0 7 rfl rfl rfl hl.1 rfl (Nat.le_of_ble_eq_true rfl) ⟨Nat.le_of_ble_eq_true rfl, Nat.le_of_ble_eq_true rfl⟩ dX7_lay_10 (fun H locs hP hD hS => ?_)
    refine lv_if_eq (tgt := 45) hx hb dX7_lay_13 (by decide) (fun c_4 => ?_) (fun c_4 => ?_)
    · replace h := dk_it c_4 h
      refine lv_ldc (v := (-2000000000)) hx hb hown (hts _ qX7_lay_k107) dX7_lay_45 ?_
      have e9 := Option.some.inj h
      subst e9
      exact dk_iret C hK hP hD hS rfl dX7_lay_47
    · replace h := dk_ie c_4 h
      refine lv_aload_n hx hb dX7_lay_16 rfl (lv_at hl 0 rfl) ?_
      refine va_get (D := (dC, dI)) (ci := 7) (v := .ref (aM 3)) (C := RX7) (T := TX7) (N := 40) hx hb hts qX7_lay_X7 hown hK hP 0 rfl rfl 3 (by decide) (hts _ qX7_lay_f13) (fun _ h9 => h9) rfl dX7_lay_17 ?_
      refine lv_iload_n hx hb dX7_lay_20 rfl (lv_at hl 2 rfl) ?_
      obtain ⟨g_5, h⟩ := dk_gd_to h
      have g_5 := dk_in_to g_5
      refine va_iald hx hb hK hP 1 0 rfl rfl g_5 dX7_lay_21 ?_
      refine lv_iload_n hx hb dX7_lay_22 rfl (lv_at hl 1 rfl) ?_
      refine lv_icmp_eq (tgt := 36) hx hb dX7_lay_23 (by decide) (fun c_6 => ?_) (fun c_6 => ?_)
      · replace h := dk_it c_6 h
        exact kX7_lay_36 C hK hA h _ _ hP hD hS ls (lv_sub hl [0, 1, 2] rfl)
      · replace h := dk_ie c_6 h
        refine lv_aload_n hx hb dX7_lay_26 rfl (lv_at hl 0 rfl) ?_
        refine va_get (D := (dC, dI)) (ci := 7) (v := .ref (aM 4)) (C := RX7) (T := TX7) (N := 40) hx hb hts qX7_lay_X7 hown hK hP 0 rfl rfl 4 (by decide) (hts _ qX7_lay_f17) (fun _ h9 => h9) rfl dX7_lay_27 ?_
        refine lv_iload_n hx hb dX7_lay_30 rfl (lv_at hl 2 rfl) ?_
        refine va_iald hx hb hK hP 2 0 rfl rfl g_5 dX7_lay_31 ?_
        refine lv_iload_n hx hb dX7_lay_32 rfl (lv_at hl 1 rfl) ?_
        refine lv_icmp_ne (tgt := 45) hx hb dX7_lay_33 (by decide) (fun c_7 => ?_) (fun c_7 => ?_)
        · replace h := dk_ie c_7 h
          refine lv_ldc (v := (-2000000000)) hx hb hown (hts _ qX7_lay_k107) dX7_lay_45 ?_
          have e9 := Option.some.inj h
          subst e9
          exact dk_iret C hK hP hD hS rfl dX7_lay_47
        · replace h := dk_it c_7 h
          exact kX7_lay_36 C hK hA h _ _ hP hD hS ls (lv_sub hl [0, 1, 2] rfl)
/-! ===== SquareTilerModel.bare ===== -/
abbrev rX7_bare : Room := { frames := 2, cells := 0, slots := 0, locals := 43 }
def ovX7_bare : List Cond := [Cond.fieldLink RX7 27 "SquareTilerModel" "turnMany" "[I", Cond.constant RX7 107 (-2000000000), Cond.methodLink RX7 108 yX7_isKnot, Cond.instanceMethod yX7_isKnot, Cond.selects RX7 yX7_isKnot yX7_isKnot, Cond.initialized RX7]
def vsX7_bare : List Cond := .code yX7_bare cX7_bare 3 (some .int) :: (ovX7_bare ++ (wsX70 ++ (vsX7_isKnot ++ [])))
theorem qX7_bare_f27 : Cond.fieldLink RX7 27 "SquareTilerModel" "turnMany" "[I" ∈ vsX7_bare := List.mem_cons_of_mem _ (List.mem_append_left _ (List.mem_of_getElem? (i := 0) rfl))
theorem qX7_bare_k107 : Cond.constant RX7 107 (-2000000000) ∈ vsX7_bare := List.mem_cons_of_mem _ (List.mem_append_left _ (List.mem_of_getElem? (i := 1) rfl))
theorem qX7_bare_w2 : Cond.methodLink RX7 108 yX7_isKnot ∈ vsX7_bare := List.mem_cons_of_mem _ (List.mem_append_left _ (List.mem_of_getElem? (i := 2) rfl))
theorem qX7_bare_w3 : Cond.instanceMethod yX7_isKnot ∈ vsX7_bare := List.mem_cons_of_mem _ (List.mem_append_left _ (List.mem_of_getElem? (i := 3) rfl))
theorem qX7_bare_w4 : Cond.selects RX7 yX7_isKnot yX7_isKnot ∈ vsX7_bare := List.mem_cons_of_mem _ (List.mem_append_left _ (List.mem_of_getElem? (i := 4) rfl))
theorem qX7_bare_w5 : Cond.initialized RX7 ∈ vsX7_bare := List.mem_cons_of_mem _ (List.mem_append_left _ (List.mem_of_getElem? (i := 5) rfl))
theorem qX7_bare_X7 : ∀ w ∈ u_ws RX7 TX7 40, w ∈ vsX7_bare := fun w h => List.mem_cons_of_mem _ (List.mem_append_right _ (List.mem_append_left _ h))
theorem gd_vsX7_bare : ∀ w ∈ vsX7_bare, goodWord w = true := dk_cons rfl (dk_app (dk_all (by decide +kernel)) (dk_app gd_wsX70 (dk_app gd_vsX7_isKnot dk_nil)))
theorem gvX7_bare_X7_isKnot : GoodIn vsX7_bare (wsV RX7 108 RX7 yX7_isKnot vsX7_isKnot) := goodIn_app (dk_g4 qX7_bare_w2 qX7_bare_w3 qX7_bare_w4 qX7_bare_w5 rfl) (dk_gIn (fun w h => List.mem_cons_of_mem _ (List.mem_append_right _ (List.mem_append_right _ (List.mem_append_left _ h)))) gd_vsX7_isKnot)
def fX7_bare (M_knots : Int32) (M_turnMany : Nat → Int32) (x1 : Int32) : Option (Int32 × (Nat → Int32)) := dk_bnd (fX7_isKnot M_knots x1) (fun r_1 => if r_1 = 0 then some ((-2000000000), M_turnMany) else dk_gd (dk_in x1 12) (dk_let ((M_turnMany x1.toNatClampNeg)) (fun x2_4 => dk_let (upd M_turnMany x1.toNatClampNeg 0) (fun M_turnMany_5 => some (x2_4, M_turnMany_5)))))
section
variable {p : Program} {l : Launch} {e : Env} {s : State} {m : MethodId} {args : Array Value} {below : List Frame} {meth : Method} {c : Code} {dC : Nat → ClassId} {dI : Nat → Nat → Nat} {cI cJ cZ : ClassId} {A : Nat → Prop} {oM : Nat} {aM : Nat → Nat} {M_knots M_wires M_battery : Int32} {M_first M_second M_isCut M_turns M_turnMany M_wireClaim M_knotClaim : Nat → Int32} {M_hasKept M_keptKnots M_keptWires M_keptBattery : Int32} {M_keptFirst M_keptSecond M_keptTurns M_keptMany M_keptWire M_keptKnot M_keptCut : Nat → Int32} {M_told : Int32} {M_left M_low M_side M_faceOf : Nat → Int32} {M_faceMany : Int32} {M_table : Nat → Int64} {M_heights M_currents M_places : Nat → Int32} {M_treeMany : Int64} {M_wide M_high : Int32} {M_newTurns M_newMany M_lineHeight M_lineLeft M_lineRight : Nat → Int32} {M_lines : Int32}
end
set_option maxHeartbeats 4000000 in
set_option maxRecDepth 100000 in
theorem mX7_bare (l : Launch) (dC : Nat → ClassId) (dI : Nat → Nat → Nat) (cI cJ cZ : ClassId) {oM : Nat} {aM : Nat → Nat} {M_knots M_wires M_battery : Int32} {M_first M_second M_isCut M_turns M_turnMany M_wireClaim M_knotClaim : Nat → Int32} {M_hasKept M_keptKnots M_keptWires M_keptBattery : Int32} {M_keptFirst M_keptSecond M_keptTurns M_keptMany M_keptWire M_keptKnot M_keptCut : Nat → Int32} {M_told : Int32} {M_left M_low M_side M_faceOf : Nat → Int32} {M_faceMany : Int32} {M_table : Nat → Int64} {M_heights M_currents M_places : Nat → Int32} {M_treeMany : Int64} {M_wide M_high : Int32} {M_newTurns M_newMany M_lineHeight M_lineLeft M_lineRight : Nat → Int32} {M_lines : Int32} {x1 : Int32} {out : Int32 × (Nat → Int32)} (h : fX7_bare M_knots M_turnMany x1 = some out) (sz : Nat) : Met l yX7_bare vsX7_bare rX7_bare (va_Pc [.ref oM, .int x1] (dk_Pre (dC, dI) (dk_ty cI cJ cZ) (wX7 oM aM cI cJ cZ M_knots M_wires M_battery M_first M_second M_isCut M_turns M_turnMany M_wireClaim M_knotClaim M_hasKept M_keptKnots M_keptWires M_keptBattery M_keptFirst M_keptSecond M_keptTurns M_keptMany M_keptWire M_keptKnot M_keptCut M_told M_left M_low M_side M_faceOf M_faceMany M_table M_heights M_currents M_places M_treeMany M_wide M_high M_newTurns M_newMany M_lineHeight M_lineLeft M_lineRight M_lines) sz)) (dk_Qi (dC, dI) (dk_ty cI cJ cZ) (wX7 oM aM cI cJ cZ M_knots M_wires M_battery M_first M_second M_isCut M_turns out.2 M_wireClaim M_knotClaim M_hasKept M_keptKnots M_keptWires M_keptBattery M_keptFirst M_keptSecond M_keptTurns M_keptMany M_keptWire M_keptKnot M_keptCut M_told M_left M_low M_side M_faceOf M_faceMany M_table M_heights M_currents M_places M_treeMany M_wide M_high M_newTurns M_newMany M_lineHeight M_lineLeft M_lineRight M_lines) out.1 (va_A (wX7 oM aM cI cJ cZ M_knots M_wires M_battery M_first M_second M_isCut M_turns M_turnMany M_wireClaim M_knotClaim M_hasKept M_keptKnots M_keptWires M_keptBattery M_keptFirst M_keptSecond M_keptTurns M_keptMany M_keptWire M_keptKnot M_keptCut M_told M_left M_low M_side M_faceOf M_faceMany M_table M_heights M_currents M_places M_treeMany M_wide M_high M_newTurns M_newMany M_lineHeight M_lineLeft M_lineRight M_lines) sz)) 0 0 (va_A (wX7 oM aM cI cJ cZ M_knots M_wires M_battery M_first M_second M_isCut M_turns M_turnMany M_wireClaim M_knotClaim M_hasKept M_keptKnots M_keptWires M_keptBattery M_keptFirst M_keptSecond M_keptTurns M_keptMany M_keptWire M_keptKnot M_keptCut M_told M_left M_low M_side M_faceOf M_faceMany M_table M_heights M_currents M_places M_treeMany M_wide M_high M_newTurns M_newMany M_lineHeight M_lineLeft M_lineRight M_lines) sz) := by
  refine dk_met (cc := cX7_bare) (maxL := 3) (ret := (some .int)) (Qc := fun A => dk_Qi (dC, dI) (dk_ty cI cJ cZ) (wX7 oM aM cI cJ cZ M_knots M_wires M_battery M_first M_second M_isCut M_turns out.2 M_wireClaim M_knotClaim M_hasKept M_keptKnots M_keptWires M_keptBattery M_keptFirst M_keptSecond M_keptTurns M_keptMany M_keptWire M_keptKnot M_keptCut M_told M_left M_low M_side M_faceOf M_faceMany M_table M_heights M_currents M_places M_treeMany M_wide M_high M_newTurns M_newMany M_lineHeight M_lineLeft M_lineRight M_lines) out.1 A) (by decide) rfl (Nat.le_of_ble_eq_true rfl) ?_
  intro p e s m below meth c A C hnm hA hK hP hD hS ls hl
  have C : dk_C p s m meth c _ cX7_bare (some .int) 3 RX7 vsX7_bare := C
  obtain ⟨hx, hb, hr, hml, hown, hts, hlocks⟩ := id C
  have hl : lv_has ls 3 [(0, .ref oM), (1, .int x1)] := hl
  unfold fX7_bare at h
  refine lv_aload_n hx hb dX7_bare_0 rfl (lv_at hl 0 rfl) ?_
  refine lv_iload_n hx hb dX7_bare_1 rfl (lv_at hl 1 rfl) ?_
  obtain ⟨r_1, hcr_1, h⟩ := dk_bnd_to h
  refine dk_rVi (b := oM) (As := [.int x1]) (rest := []) (wc := (wX7 oM aM cI cJ cZ M_knots M_wires M_battery M_first M_second M_isCut M_turns M_turnMany M_wireClaim M_knotClaim M_hasKept M_keptKnots M_keptWires M_keptBattery M_keptFirst M_keptSecond M_keptTurns M_keptMany M_keptWire M_keptKnot M_keptCut M_told M_left M_low M_side M_faceOf M_faceMany M_table M_heights M_currents M_places M_treeMany M_wide M_high M_newTurns M_newMany M_lineHeight M_lineLeft M_lineRight M_lines)) C hK hP hD hS hA (mX7_isKnot l dC dI cI cJ cZ hcr_1 _) (cwV 1 hts gvX7_bare_X7_isKnot rfl rfl rfl (by decide +kernel) ⟨Nat.le_of_ble_eq_true rfl, Nat.le_of_ble_eq_true rfl⟩) [0, 1, 2, 3, 4, 5, 6, 7, 8, 9, 10, 11, 12, 13, 14, 15, 16, 17, 18, 19, 20, 21, 22, 23, 24, 25, 26, 27] rfl (by decide) 0 7 rfl rfl rfl hl.1 rfl (Nat.le_of_ble_eq_true rfl) ⟨Nat.le_of_ble_eq_true rfl, Nat.le_of_ble_eq_true rfl⟩ dX7_bare_2 (fun H locs hP hD hS => ?_)
  refine lv_if_ne (tgt := 11) hx hb dX7_bare_5 (by decide) (fun c_2 => ?_) (fun c_2 => ?_)
  · replace h := dk_ie c_2 h
    refine lv_aload_n hx hb dX7_bare_11 rfl (lv_at hl 0 rfl) ?_
    refine va_get (D := (dC, dI)) (ci := 7) (v := .ref (aM 7)) (C := RX7) (T := TX7) (N := 40) hx hb hts qX7_bare_X7 hown hK hP 0 rfl rfl 7 (by decide) (hts _ qX7_bare_f27) (fun _ h9 => h9) rfl dX7_bare_12 ?_
    refine lv_iload_n hx hb dX7_bare_15 rfl (lv_at hl 1 rfl) ?_
    obtain ⟨g_3, h⟩ := dk_gd_to h
    have g_3 := dk_in_to g_3
    refine va_iald hx hb hK hP 5 0 rfl rfl g_3 dX7_bare_16 ?_
    refine lv_topi (fun x2_4 ex2_4 => ?_)
    replace h := dk_let_to ex2_4 h
    refine lv_istore_n (lv' := [(2, .int x2_4), (0, .ref oM), (1, .int x1)]) hx hb dX7_bare_17 rfl hl (by decide) rfl (fun ls hl => ?_)
    refine lv_aload_n hx hb dX7_bare_18 rfl (lv_at hl 1 rfl) ?_
    refine va_get (D := (dC, dI)) (ci := 7) (v := .ref (aM 7)) (C := RX7) (T := TX7) (N := 40) hx hb hts qX7_bare_X7 hown hK hP 0 rfl rfl 7 (by decide) (hts _ qX7_bare_f27) (fun _ h9 => h9) rfl dX7_bare_19 ?_
    refine lv_iload_n hx hb dX7_bare_22 rfl (lv_at hl 2 rfl) ?_
    refine lv_iconst (v := 0) hx hb dX7_bare_23 (by decide) ?_
    refine va_iast hx hb hK hP hD hS 5 0 rfl rfl g_3 dX7_bare_24 (fun H locs hP hD hS => ?_)
    obtain ⟨M_turnMany_5, eM_turnMany_5⟩ : ∃ z : Nat → Int32, z = upd M_turnMany x1.toNatClampNeg 0 := ⟨_, rfl⟩
    replace h := dk_let_to eM_turnMany_5 h
    have hP : va_P (dC, dI) vwCl (wX7 oM aM cI cJ cZ M_knots M_wires M_battery M_first M_second M_isCut M_turns M_turnMany_5 M_wireClaim M_knotClaim M_hasKept M_keptKnots M_keptWires M_keptBattery M_keptFirst M_keptSecond M_keptTurns M_keptMany M_keptWire M_keptKnot M_keptCut M_told M_left M_low M_side M_faceOf M_faceMany M_table M_heights M_currents M_places M_treeMany M_wide M_high M_newTurns M_newMany M_lineHeight M_lineLeft M_lineRight M_lines) H := by rw [eM_turnMany_5]; exact hP
    have hD : va_D A (wX7 oM aM cI cJ cZ M_knots M_wires M_battery M_first M_second M_isCut M_turns M_turnMany_5 M_wireClaim M_knotClaim M_hasKept M_keptKnots M_keptWires M_keptBattery M_keptFirst M_keptSecond M_keptTurns M_keptMany M_keptWire M_keptKnot M_keptCut M_told M_left M_low M_side M_faceOf M_faceMany M_table M_heights M_currents M_places M_treeMany M_wide M_high M_newTurns M_newMany M_lineHeight M_lineLeft M_lineRight M_lines) := by rw [eM_turnMany_5]; exact hD
    refine lv_iload_n hx hb dX7_bare_25 rfl (lv_at hl 0 rfl) ?_
    have e9 := Option.some.inj h
    subst e9
    exact dk_iret C hK hP hD hS rfl dX7_bare_26
  · replace h := dk_it c_2 h
    refine lv_ldc (v := (-2000000000)) hx hb hown (hts _ qX7_bare_k107) dX7_bare_8 ?_
    have e9 := Option.some.inj h
    subst e9
    exact dk_iret C hK hP hD hS rfl dX7_bare_10

/-! ===== SquareTilerModel.cause ===== -/
abbrev rX7_cause : Room := { frames := 4, cells := 0, slots := 0, locals := 89 }
def ovX7_cause : List Cond := [Cond.methodLink RX7 163 yX7_causeOf, Cond.instanceMethod yX7_causeOf, Cond.selects RX7 yX7_causeOf yX7_causeOf, Cond.initialized RX7]
def vsX7_cause : List Cond := .code yX7_cause cX7_cause 1 (some .int) :: (ovX7_cause ++ (vsX7_causeOf ++ []))
theorem qX7_cause_w0 : Cond.methodLink RX7 163 yX7_causeOf ∈ vsX7_cause := List.mem_cons_of_mem _ (List.mem_append_left _ (List.mem_of_getElem? (i := 0) rfl))
theorem qX7_cause_w1 : Cond.instanceMethod yX7_causeOf ∈ vsX7_cause := List.mem_cons_of_mem _ (List.mem_append_left _ (List.mem_of_getElem? (i := 1) rfl))
theorem qX7_cause_w2 : Cond.selects RX7 yX7_causeOf yX7_causeOf ∈ vsX7_cause := List.mem_cons_of_mem _ (List.mem_append_left _ (List.mem_of_getElem? (i := 2) rfl))
theorem qX7_cause_w3 : Cond.initialized RX7 ∈ vsX7_cause := List.mem_cons_of_mem _ (List.mem_append_left _ (List.mem_of_getElem? (i := 3) rfl))
theorem gd_vsX7_cause : ∀ w ∈ vsX7_cause, goodWord w = true := dk_cons rfl (dk_app (dk_all (by decide +kernel)) (dk_app gd_vsX7_causeOf dk_nil))
theorem gvX7_cause_X7_causeOf : GoodIn vsX7_cause (wsV RX7 163 RX7 yX7_causeOf vsX7_causeOf) := goodIn_app (dk_g4 qX7_cause_w0 qX7_cause_w1 qX7_cause_w2 qX7_cause_w3 rfl) (dk_gIn (fun w h => List.mem_cons_of_mem _ (List.mem_append_right _ (List.mem_append_left _ h))) gd_vsX7_causeOf)
def fX7_cause (M_knots M_wires M_battery : Int32) (M_first M_second M_isCut M_turns M_turnMany M_faceOf : Nat → Int32) (M_faceMany : Int32) : Option (Int32 × (Nat → Int32) × Int32) := dk_bnd (fX7_causeOf M_knots M_wires M_battery M_first M_second M_isCut M_turns M_turnMany M_faceOf M_faceMany) (fun r_1 => some (r_1.1, r_1.2.1, r_1.2.2))
section
variable {p : Program} {l : Launch} {e : Env} {s : State} {m : MethodId} {args : Array Value} {below : List Frame} {meth : Method} {c : Code} {dC : Nat → ClassId} {dI : Nat → Nat → Nat} {cI cJ cZ : ClassId} {A : Nat → Prop} {oM : Nat} {aM : Nat → Nat} {M_knots M_wires M_battery : Int32} {M_first M_second M_isCut M_turns M_turnMany M_wireClaim M_knotClaim : Nat → Int32} {M_hasKept M_keptKnots M_keptWires M_keptBattery : Int32} {M_keptFirst M_keptSecond M_keptTurns M_keptMany M_keptWire M_keptKnot M_keptCut : Nat → Int32} {M_told : Int32} {M_left M_low M_side M_faceOf : Nat → Int32} {M_faceMany : Int32} {M_table : Nat → Int64} {M_heights M_currents M_places : Nat → Int32} {M_treeMany : Int64} {M_wide M_high : Int32} {M_newTurns M_newMany M_lineHeight M_lineLeft M_lineRight : Nat → Int32} {M_lines : Int32}
end
set_option maxHeartbeats 4000000 in
set_option maxRecDepth 100000 in
theorem mX7_cause (l : Launch) (dC : Nat → ClassId) (dI : Nat → Nat → Nat) (cI cJ cZ : ClassId) {oM : Nat} {aM : Nat → Nat} {M_knots M_wires M_battery : Int32} {M_first M_second M_isCut M_turns M_turnMany M_wireClaim M_knotClaim : Nat → Int32} {M_hasKept M_keptKnots M_keptWires M_keptBattery : Int32} {M_keptFirst M_keptSecond M_keptTurns M_keptMany M_keptWire M_keptKnot M_keptCut : Nat → Int32} {M_told : Int32} {M_left M_low M_side M_faceOf : Nat → Int32} {M_faceMany : Int32} {M_table : Nat → Int64} {M_heights M_currents M_places : Nat → Int32} {M_treeMany : Int64} {M_wide M_high : Int32} {M_newTurns M_newMany M_lineHeight M_lineLeft M_lineRight : Nat → Int32} {M_lines : Int32} {out : Int32 × (Nat → Int32) × Int32} (h : fX7_cause M_knots M_wires M_battery M_first M_second M_isCut M_turns M_turnMany M_faceOf M_faceMany = some out) (sz : Nat) : Met l yX7_cause vsX7_cause rX7_cause (va_Pc [.ref oM] (dk_Pre (dC, dI) (dk_ty cI cJ cZ) (wX7 oM aM cI cJ cZ M_knots M_wires M_battery M_first M_second M_isCut M_turns M_turnMany M_wireClaim M_knotClaim M_hasKept M_keptKnots M_keptWires M_keptBattery M_keptFirst M_keptSecond M_keptTurns M_keptMany M_keptWire M_keptKnot M_keptCut M_told M_left M_low M_side M_faceOf M_faceMany M_table M_heights M_currents M_places M_treeMany M_wide M_high M_newTurns M_newMany M_lineHeight M_lineLeft M_lineRight M_lines) sz)) (dk_Qi (dC, dI) (dk_ty cI cJ cZ) (wX7 oM aM cI cJ cZ M_knots M_wires M_battery M_first M_second M_isCut M_turns M_turnMany M_wireClaim M_knotClaim M_hasKept M_keptKnots M_keptWires M_keptBattery M_keptFirst M_keptSecond M_keptTurns M_keptMany M_keptWire M_keptKnot M_keptCut M_told M_left M_low M_side out.2.1 out.2.2 M_table M_heights M_currents M_places M_treeMany M_wide M_high M_newTurns M_newMany M_lineHeight M_lineLeft M_lineRight M_lines) out.1 (va_A (wX7 oM aM cI cJ cZ M_knots M_wires M_battery M_first M_second M_isCut M_turns M_turnMany M_wireClaim M_knotClaim M_hasKept M_keptKnots M_keptWires M_keptBattery M_keptFirst M_keptSecond M_keptTurns M_keptMany M_keptWire M_keptKnot M_keptCut M_told M_left M_low M_side M_faceOf M_faceMany M_table M_heights M_currents M_places M_treeMany M_wide M_high M_newTurns M_newMany M_lineHeight M_lineLeft M_lineRight M_lines) sz)) 0 0 (va_A (wX7 oM aM cI cJ cZ M_knots M_wires M_battery M_first M_second M_isCut M_turns M_turnMany M_wireClaim M_knotClaim M_hasKept M_keptKnots M_keptWires M_keptBattery M_keptFirst M_keptSecond M_keptTurns M_keptMany M_keptWire M_keptKnot M_keptCut M_told M_left M_low M_side M_faceOf M_faceMany M_table M_heights M_currents M_places M_treeMany M_wide M_high M_newTurns M_newMany M_lineHeight M_lineLeft M_lineRight M_lines) sz) := by
  refine dk_met (cc := cX7_cause) (maxL := 1) (ret := (some .int)) (Qc := fun A => dk_Qi (dC, dI) (dk_ty cI cJ cZ) (wX7 oM aM cI cJ cZ M_knots M_wires M_battery M_first M_second M_isCut M_turns M_turnMany M_wireClaim M_knotClaim M_hasKept M_keptKnots M_keptWires M_keptBattery M_keptFirst M_keptSecond M_keptTurns M_keptMany M_keptWire M_keptKnot M_keptCut M_told M_left M_low M_side out.2.1 out.2.2 M_table M_heights M_currents M_places M_treeMany M_wide M_high M_newTurns M_newMany M_lineHeight M_lineLeft M_lineRight M_lines) out.1 A) (by decide) rfl (Nat.le_of_ble_eq_true rfl) ?_
  intro p e s m below meth c A C hnm hA hK hP hD hS ls hl
  have C : dk_C p s m meth c _ cX7_cause (some .int) 1 RX7 vsX7_cause := C
  obtain ⟨hx, hb, hr, hml, hown, hts, hlocks⟩ := id C
  have hl : lv_has ls 1 [(0, .ref oM)] := hl
  unfold fX7_cause at h
  refine lv_aload_n hx hb dX7_cause_0 rfl (lv_at hl 0 rfl) ?_
  obtain ⟨r_1, hcr_1, h⟩ := dk_bnd_to h
  refine dk_cVi (b := oM) (As := []) (rest := []) (wc := (wX7 oM aM cI cJ cZ M_knots M_wires M_battery M_first M_second M_isCut M_turns M_turnMany M_wireClaim M_knotClaim M_hasKept M_keptKnots M_keptWires M_keptBattery M_keptFirst M_keptSecond M_keptTurns M_keptMany M_keptWire M_keptKnot M_keptCut M_told M_left M_low M_side M_faceOf M_faceMany M_table M_heights M_currents M_places M_treeMany M_wide M_high M_newTurns M_newMany M_lineHeight M_lineLeft M_lineRight M_lines)) (wc' := (wX7 oM aM cI cJ cZ M_knots M_wires M_battery M_first M_second M_isCut M_turns M_turnMany M_wireClaim M_knotClaim M_hasKept M_keptKnots M_keptWires M_keptBattery M_keptFirst M_keptSecond M_keptTurns M_keptMany M_keptWire M_keptKnot M_keptCut M_told M_left M_low M_side r_1.2.1 r_1.2.2 M_table M_heights M_currents M_places M_treeMany M_wide M_high M_newTurns M_newMany M_lineHeight M_lineLeft M_lineRight M_lines)) (wr := []) (ws' := (wX7 oM aM cI cJ cZ M_knots M_wires M_battery M_first M_second M_isCut M_turns M_turnMany M_wireClaim M_knotClaim M_hasKept M_keptKnots M_keptWires M_keptBattery M_keptFirst M_keptSecond M_keptTurns M_keptMany M_keptWire M_keptKnot M_keptCut M_told M_left M_low M_side r_1.2.1 r_1.2.2 M_table M_heights M_currents M_places M_treeMany M_wide M_high M_newTurns M_newMany M_lineHeight M_lineLeft M_lineRight M_lines)) C hK hP hD hS hA (mX7_causeOf l dC dI cI cJ cZ hcr_1 _) (cwV 0 hts gvX7_cause_X7_causeOf rfl rfl rfl (by decide +kernel) ⟨Nat.le_of_ble_eq_true rfl, Nat.le_of_ble_eq_true rfl⟩) [0, 1, 2, 3, 4, 5, 6, 7, 8, 9, 10, 11, 12, 13, 14, 15, 16, 17, 18, 19, 20, 21, 22, 23, 24, 25, 26, 27] [] [0, 1, 2, 3, 4, 5, 6, 7, 8, 9, 10, 11, 12, 13, 14, 15, 16, 17, 18, 19, 20, 21, 22, 23, 24, 25, 26, 27] rfl (by decide) rfl (by decide) (by decide) rfl (by decide) 0 7 rfl rfl rfl hl.1 rfl (Nat.le_of_ble_eq_true rfl) ⟨Nat.le_of_ble_eq_true rfl, Nat.le_of_ble_eq_true rfl⟩ dX7_cause_1 (fun H locs hP hD hS => ?_)
  have e9 := Option.some.inj h
  subst e9
  exact dk_iret C hK hP hD hS rfl dX7_cause_4
/-! ===== SquareTilerModel.of ===== -/
abbrev rX7_of : Room := { frames := 2, cells := 0, slots := 0, locals := 43 }
def ovX7_of : List Cond := [Cond.constant RX7 107 (-2000000000), Cond.fieldLink RX7 7 "SquareTilerModel" "battery" "I", Cond.fieldLink RX7 20 "SquareTilerModel" "isCut" "[Z", Cond.fieldLink RX7 17 "SquareTilerModel" "second" "[I", Cond.fieldLink RX7 13 "SquareTilerModel" "first" "[I", Cond.methodLink RX7 112 yX7_isWire, Cond.instanceMethod yX7_isWire, Cond.selects RX7 yX7_isWire yX7_isWire, Cond.initialized RX7]
def vsX7_of : List Cond := .code yX7_of cX7_of 3 (some .int) :: (ovX7_of ++ (wsX70 ++ (vsX7_isWire ++ [])))
theorem qX7_of_k107 : Cond.constant RX7 107 (-2000000000) ∈ vsX7_of := List.mem_cons_of_mem _ (List.mem_append_left _ (List.mem_of_getElem? (i := 0) rfl))
theorem qX7_of_f7 : Cond.fieldLink RX7 7 "SquareTilerModel" "battery" "I" ∈ vsX7_of := List.mem_cons_of_mem _ (List.mem_append_left _ (List.mem_of_getElem? (i := 1) rfl))
theorem qX7_of_f20 : Cond.fieldLink RX7 20 "SquareTilerModel" "isCut" "[Z" ∈ vsX7_of := List.mem_cons_of_mem _ (List.mem_append_left _ (List.mem_of_getElem? (i := 2) rfl))
theorem qX7_of_f17 : Cond.fieldLink RX7 17 "SquareTilerModel" "second" "[I" ∈ vsX7_of := List.mem_cons_of_mem _ (List.mem_append_left _ (List.mem_of_getElem? (i := 3) rfl))
theorem qX7_of_f13 : Cond.fieldLink RX7 13 "SquareTilerModel" "first" "[I" ∈ vsX7_of := List.mem_cons_of_mem _ (List.mem_append_left _ (List.mem_of_getElem? (i := 4) rfl))
theorem qX7_of_w5 : Cond.methodLink RX7 112 yX7_isWire ∈ vsX7_of := List.mem_cons_of_mem _ (List.mem_append_left _ (List.mem_of_getElem? (i := 5) rfl))
theorem qX7_of_w6 : Cond.instanceMethod yX7_isWire ∈ vsX7_of := List.mem_cons_of_mem _ (List.mem_append_left _ (List.mem_of_getElem? (i := 6) rfl))
theorem qX7_of_w7 : Cond.selects RX7 yX7_isWire yX7_isWire ∈ vsX7_of := List.mem_cons_of_mem _ (List.mem_append_left _ (List.mem_of_getElem? (i := 7) rfl))
theorem qX7_of_w8 : Cond.initialized RX7 ∈ vsX7_of := List.mem_cons_of_mem _ (List.mem_append_left _ (List.mem_of_getElem? (i := 8) rfl))
theorem qX7_of_X7 : ∀ w ∈ u_ws RX7 TX7 40, w ∈ vsX7_of := fun w h => List.mem_cons_of_mem _ (List.mem_append_right _ (List.mem_append_left _ h))
theorem gd_vsX7_of : ∀ w ∈ vsX7_of, goodWord w = true := dk_cons rfl (dk_app (dk_all (by decide +kernel)) (dk_app gd_wsX70 (dk_app gd_vsX7_isWire dk_nil)))
theorem gvX7_of_X7_isWire : GoodIn vsX7_of (wsV RX7 112 RX7 yX7_isWire vsX7_isWire) := goodIn_app (dk_g4 qX7_of_w5 qX7_of_w6 qX7_of_w7 qX7_of_w8 rfl) (dk_gIn (fun w h => List.mem_cons_of_mem _ (List.mem_append_right _ (List.mem_append_right _ (List.mem_append_left _ h)))) gd_vsX7_isWire)
def fX7_of (M_wires M_battery : Int32) (M_first M_second M_isCut : Nat → Int32) (x1 x2 : Int32) : Option (Int32) := dk_bnd (fX7_isWire M_wires x1) (fun r_1 => if r_1 = 0 then some (-2000000000) else if x2 = 0 then dk_gd (dk_in x1 22) (some (M_first x1.toNatClampNeg)) else if x2 = 1 then dk_gd (dk_in x1 22) (some (M_second x1.toNatClampNeg)) else if x2 = 2 then if x1 = M_battery then some 2 else dk_gd (dk_in x1 22) (if (M_isCut x1.toNatClampNeg) = 0 then some 0 else some 1) else some (-2000000000))
section
variable {p : Program} {l : Launch} {e : Env} {s : State} {m : MethodId} {args : Array Value} {below : List Frame} {meth : Method} {c : Code} {dC : Nat → ClassId} {dI : Nat → Nat → Nat} {cI cJ cZ : ClassId} {A : Nat → Prop} {oM : Nat} {aM : Nat → Nat} {M_knots M_wires M_battery : Int32} {M_first M_second M_isCut M_turns M_turnMany M_wireClaim M_knotClaim : Nat → Int32} {M_hasKept M_keptKnots M_keptWires M_keptBattery : Int32} {M_keptFirst M_keptSecond M_keptTurns M_keptMany M_keptWire M_keptKnot M_keptCut : Nat → Int32} {M_told : Int32} {M_left M_low M_side M_faceOf : Nat → Int32} {M_faceMany : Int32} {M_table : Nat → Int64} {M_heights M_currents M_places : Nat → Int32} {M_treeMany : Int64} {M_wide M_high : Int32} {M_newTurns M_newMany M_lineHeight M_lineLeft M_lineRight : Nat → Int32} {M_lines : Int32}
end
set_option maxHeartbeats 4000000 in
set_option maxRecDepth 100000 in
theorem mX7_of (l : Launch) (dC : Nat → ClassId) (dI : Nat → Nat → Nat) (cI cJ cZ : ClassId) {oM : Nat} {aM : Nat → Nat} {M_knots M_wires M_battery : Int32} {M_first M_second M_isCut M_turns M_turnMany M_wireClaim M_knotClaim : Nat → Int32} {M_hasKept M_keptKnots M_keptWires M_keptBattery : Int32} {M_keptFirst M_keptSecond M_keptTurns M_keptMany M_keptWire M_keptKnot M_keptCut : Nat → Int32} {M_told : Int32} {M_left M_low M_side M_faceOf : Nat → Int32} {M_faceMany : Int32} {M_table : Nat → Int64} {M_heights M_currents M_places : Nat → Int32} {M_treeMany : Int64} {M_wide M_high : Int32} {M_newTurns M_newMany M_lineHeight M_lineLeft M_lineRight : Nat → Int32} {M_lines : Int32} {x1 x2 : Int32} {out : Int32} (h : fX7_of M_wires M_battery M_first M_second M_isCut x1 x2 = some out) (sz : Nat) : Met l yX7_of vsX7_of rX7_of (va_Pc [.ref oM, .int x1, .int x2] (dk_Pre (dC, dI) (dk_ty cI cJ cZ) (wX7 oM aM cI cJ cZ M_knots M_wires M_battery M_first M_second M_isCut M_turns M_turnMany M_wireClaim M_knotClaim M_hasKept M_keptKnots M_keptWires M_keptBattery M_keptFirst M_keptSecond M_keptTurns M_keptMany M_keptWire M_keptKnot M_keptCut M_told M_left M_low M_side M_faceOf M_faceMany M_table M_heights M_currents M_places M_treeMany M_wide M_high M_newTurns M_newMany M_lineHeight M_lineLeft M_lineRight M_lines) sz)) (dk_Qi (dC, dI) (dk_ty cI cJ cZ) (wX7 oM aM cI cJ cZ M_knots M_wires M_battery M_first M_second M_isCut M_turns M_turnMany M_wireClaim M_knotClaim M_hasKept M_keptKnots M_keptWires M_keptBattery M_keptFirst M_keptSecond M_keptTurns M_keptMany M_keptWire M_keptKnot M_keptCut M_told M_left M_low M_side M_faceOf M_faceMany M_table M_heights M_currents M_places M_treeMany M_wide M_high M_newTurns M_newMany M_lineHeight M_lineLeft M_lineRight M_lines) out (va_A (wX7 oM aM cI cJ cZ M_knots M_wires M_battery M_first M_second M_isCut M_turns M_turnMany M_wireClaim M_knotClaim M_hasKept M_keptKnots M_keptWires M_keptBattery M_keptFirst M_keptSecond M_keptTurns M_keptMany M_keptWire M_keptKnot M_keptCut M_told M_left M_low M_side M_faceOf M_faceMany M_table M_heights M_currents M_places M_treeMany M_wide M_high M_newTurns M_newMany M_lineHeight M_lineLeft M_lineRight M_lines) sz)) 0 0 (va_A (wX7 oM aM cI cJ cZ M_knots M_wires M_battery M_first M_second M_isCut M_turns M_turnMany M_wireClaim M_knotClaim M_hasKept M_keptKnots M_keptWires M_keptBattery M_keptFirst M_keptSecond M_keptTurns M_keptMany M_keptWire M_keptKnot M_keptCut M_told M_left M_low M_side M_faceOf M_faceMany M_table M_heights M_currents M_places M_treeMany M_wide M_high M_newTurns M_newMany M_lineHeight M_lineLeft M_lineRight M_lines) sz) := by
  refine dk_met (cc := cX7_of) (maxL := 3) (ret := (some .int)) (Qc := fun A => dk_Qi (dC, dI) (dk_ty cI cJ cZ) (wX7 oM aM cI cJ cZ M_knots M_wires M_battery M_first M_second M_isCut M_turns M_turnMany M_wireClaim M_knotClaim M_hasKept M_keptKnots M_keptWires M_keptBattery M_keptFirst M_keptSecond M_keptTurns M_keptMany M_keptWire M_keptKnot M_keptCut M_told M_left M_low M_side M_faceOf M_faceMany M_table M_heights M_currents M_places M_treeMany M_wide M_high M_newTurns M_newMany M_lineHeight M_lineLeft M_lineRight M_lines) out A) (by decide) rfl (Nat.le_of_ble_eq_true rfl) ?_
  intro p e s m below meth c A C hnm hA hK hP hD hS ls hl
  have C : dk_C p s m meth c _ cX7_of (some .int) 3 RX7 vsX7_of := C
  obtain ⟨hx, hb, hr, hml, hown, hts, hlocks⟩ := id C
  have hl : lv_has ls 3 [(0, .ref oM), (1, .int x1), (2, .int x2)] := hl
  unfold fX7_of at h
  refine lv_aload_n hx hb dX7_of_0 rfl (lv_at hl 0 rfl) ?_
  refine lv_iload_n hx hb dX7_of_1 rfl (lv_at hl 1 rfl) ?_
  obtain ⟨r_1, hcr_1, h⟩ := dk_bnd_to h
  refine dk_rVi (b := oM) (As := [.int x1]) (rest := []) (wc := (wX7 oM aM cI cJ cZ M_knots M_wires M_battery M_first M_second M_isCut M_turns M_turnMany M_wireClaim M_knotClaim M_hasKept M_keptKnots M_keptWires M_keptBattery M_keptFirst M_keptSecond M_keptTurns M_keptMany M_keptWire M_keptKnot M_keptCut M_told M_left M_low M_side M_faceOf M_faceMany M_table M_heights M_currents M_places M_treeMany M_wide M_high M_newTurns M_newMany M_lineHeight M_lineLeft M_lineRight M_lines)) C hK hP hD hS hA (mX7_isWire l dC dI cI cJ cZ hcr_1 _) (cwV 1 hts gvX7_of_X7_isWire rfl rfl rfl (by decide +kernel) ⟨Nat.le_of_ble_eq_true rfl, Nat.le_of_ble_eq_true rfl⟩) [0, 1, 2, 3, 4, 5, 6, 7, 8, 9, 10, 11, 12, 13, 14, 15, 16, 17, 18, 19, 20, 21, 22, 23, 24, 25, 26, 27] rfl (by decide) 0 7 rfl rfl rfl hl.1 rfl (Nat.le_of_ble_eq_true rfl) ⟨Nat.le_of_ble_eq_true rfl, Nat.le_of_ble_eq_true rfl⟩ dX7_of_2 (fun H locs hP hD hS => ?_)
  refine lv_if_ne (tgt := 11) hx hb dX7_of_5 (by decide) (fun c_2 => ?_) (fun c_2 => ?_)
  · replace h := dk_ie c_2 h
    refine lv_iload_n hx hb dX7_of_11 rfl (lv_at hl 2 rfl) ?_
    refine lv_if_ne (tgt := 24) hx hb dX7_of_12 (by decide) (fun c_3 => ?_) (fun c_3 => ?_)
    · replace h := dk_ie c_3 h
      refine lv_iload_n hx hb dX7_of_24 rfl (lv_at hl 2 rfl) ?_
      refine lv_iconst (v := 1) hx hb dX7_of_25 (by decide) ?_
      refine lv_icmp_ne (tgt := 38) hx hb dX7_of_26 (by decide) (fun c_4 => ?_) (fun c_4 => ?_)
      · replace h := dk_ie c_4 h
        refine lv_iload_n hx hb dX7_of_38 rfl (lv_at hl 2 rfl) ?_
        refine lv_iconst (v := 2) hx hb dX7_of_39 (by decide) ?_
        refine lv_icmp_ne (tgt := 72) hx hb dX7_of_40 (by decide) (fun c_5 => ?_) (fun c_5 => ?_)
        · replace h := dk_ie c_5 h
          refine lv_ldc (v := (-2000000000)) hx hb hown (hts _ qX7_of_k107) dX7_of_72 ?_
          have e9 := Option.some.inj h
          subst e9
          exact dk_iret C hK hP hD hS rfl dX7_of_74
        · replace h := dk_it c_5 h
          refine lv_iload_n hx hb dX7_of_43 rfl (lv_at hl 1 rfl) ?_
          refine lv_aload_n hx hb dX7_of_44 rfl (lv_at hl 0 rfl) ?_
          refine va_get (D := (dC, dI)) (ci := 7) (v := .int M_battery) (C := RX7) (T := TX7) (N := 40) hx hb hts qX7_of_X7 hown hK hP 0 rfl rfl 2 (by decide) (hts _ qX7_of_f7) (fun _ h9 => h9) rfl dX7_of_45 ?_
          refine lv_icmp_ne (tgt := 55) hx hb dX7_of_48 (by decide) (fun c_6 => ?_) (fun c_6 => ?_)
          · replace h := dk_ie c_6 h
            refine lv_aload_n hx hb dX7_of_55 rfl (lv_at hl 0 rfl) ?_
            refine va_get (D := (dC, dI)) (ci := 7) (v := .ref (aM 5)) (C := RX7) (T := TX7) (N := 40) hx hb hts qX7_of_X7 hown hK hP 0 rfl rfl 5 (by decide) (hts _ qX7_of_f20) (fun _ h9 => h9) rfl dX7_of_56 ?_
            refine lv_iload_n hx hb dX7_of_59 rfl (lv_at hl 1 rfl) ?_
            obtain ⟨g_7, h⟩ := dk_gd_to h
            have g_7 := dk_in_to g_7
            refine va_zald hx hb hK hP 3 2 rfl rfl g_7 dX7_of_60 ?_
            refine lv_if_eq (tgt := 68) hx hb dX7_of_61 (by decide) (fun c_8 => ?_) (fun c_8 => ?_)
            · replace h := dk_it c_8 h
              refine lv_iconst (v := 0) hx hb dX7_of_68 (by decide) ?_
              refine lv_goto (tgt := 74) hx hb dX7_of_69 (by decide) ?_
              have e9 := Option.some.inj h
              subst e9
              exact dk_iret C hK hP hD hS rfl dX7_of_74
            · replace h := dk_ie c_8 h
              refine lv_iconst (v := 1) hx hb dX7_of_64 (by decide) ?_
              refine lv_goto (tgt := 74) hx hb dX7_of_65 (by decide) ?_
              have e9 := Option.some.inj h
              subst e9
              exact dk_iret C hK hP hD hS rfl dX7_of_74
          · replace h := dk_it c_6 h
            refine lv_iconst (v := 2) hx hb dX7_of_51 (by decide) ?_
            refine lv_goto (tgt := 74) hx hb dX7_of_52 (by decide) ?_
            have e9 := Option.some.inj h
            subst e9
            exact dk_iret C hK hP hD hS rfl dX7_of_74
      · replace h := dk_it c_4 h
        refine lv_aload_n hx hb dX7_of_29 rfl (lv_at hl 0 rfl) ?_
        refine va_get (D := (dC, dI)) (ci := 7) (v := .ref (aM 4)) (C := RX7) (T := TX7) (N := 40) hx hb hts qX7_of_X7 hown hK hP 0 rfl rfl 4 (by decide) (hts _ qX7_of_f17) (fun _ h9 => h9) rfl dX7_of_30 ?_
        refine lv_iload_n hx hb dX7_of_33 rfl (lv_at hl 1 rfl) ?_
        obtain ⟨g_9, h⟩ := dk_gd_to h
        have g_9 := dk_in_to g_9
        refine va_iald hx hb hK hP 2 0 rfl rfl g_9 dX7_of_34 ?_
        refine lv_goto (tgt := 74) hx hb dX7_of_35 (by decide) ?_
        have e9 := Option.some.inj h
        subst e9
        exact dk_iret C hK hP hD hS rfl dX7_of_74
    · replace h := dk_it c_3 h
      refine lv_aload_n hx hb dX7_of_15 rfl (lv_at hl 0 rfl) ?_
      refine va_get (D := (dC, dI)) (ci := 7) (v := .ref (aM 3)) (C := RX7) (T := TX7) (N := 40) hx hb hts qX7_of_X7 hown hK hP 0 rfl rfl 3 (by decide) (hts _ qX7_of_f13) (fun _ h9 => h9) rfl dX7_of_16 ?_
      refine lv_iload_n hx hb dX7_of_19 rfl (lv_at hl 1 rfl) ?_
      obtain ⟨g_10, h⟩ := dk_gd_to h
      have g_10 := dk_in_to g_10
      refine va_iald hx hb hK hP 1 0 rfl rfl g_10 dX7_of_20 ?_
      refine lv_goto (tgt := 74) hx hb dX7_of_21 (by decide) ?_
      have e9 := Option.some.inj h
      subst e9
      exact dk_iret C hK hP hD hS rfl dX7_of_74
  · replace h := dk_it c_2 h
    refine lv_ldc (v := (-2000000000)) hx hb hown (hts _ qX7_of_k107) dX7_of_8 ?_
    have e9 := Option.some.inj h
    subst e9
    exact dk_iret C hK hP hD hS rfl dX7_of_10
/-! ===== SquareTilerModel.turn ===== -/
abbrev rX7_turn : Room := { frames := 2, cells := 0, slots := 0, locals := 43 }
def ovX7_turn : List Cond := [Cond.fieldLink RX7 27 "SquareTilerModel" "turnMany" "[I", Cond.fieldLink RX7 24 "SquareTilerModel" "turns" "[I", Cond.constant RX7 107 (-2000000000), Cond.methodLink RX7 108 yX7_isKnot, Cond.instanceMethod yX7_isKnot, Cond.selects RX7 yX7_isKnot yX7_isKnot, Cond.initialized RX7, Cond.methodLink RX7 100 yX7_in, Cond.static yX7_in]
def vsX7_turn : List Cond := .code yX7_turn cX7_turn 3 (some .int) :: (ovX7_turn ++ (wsX70 ++ (vsX7_isKnot ++ (vsX7_in ++ []))))
theorem qX7_turn_f27 : Cond.fieldLink RX7 27 "SquareTilerModel" "turnMany" "[I" ∈ vsX7_turn := List.mem_cons_of_mem _ (List.mem_append_left _ (List.mem_of_getElem? (i := 0) rfl))
theorem qX7_turn_f24 : Cond.fieldLink RX7 24 "SquareTilerModel" "turns" "[I" ∈ vsX7_turn := List.mem_cons_of_mem _ (List.mem_append_left _ (List.mem_of_getElem? (i := 1) rfl))
theorem qX7_turn_k107 : Cond.constant RX7 107 (-2000000000) ∈ vsX7_turn := List.mem_cons_of_mem _ (List.mem_append_left _ (List.mem_of_getElem? (i := 2) rfl))
theorem qX7_turn_w3 : Cond.methodLink RX7 108 yX7_isKnot ∈ vsX7_turn := List.mem_cons_of_mem _ (List.mem_append_left _ (List.mem_of_getElem? (i := 3) rfl))
theorem qX7_turn_w4 : Cond.instanceMethod yX7_isKnot ∈ vsX7_turn := List.mem_cons_of_mem _ (List.mem_append_left _ (List.mem_of_getElem? (i := 4) rfl))
theorem qX7_turn_w5 : Cond.selects RX7 yX7_isKnot yX7_isKnot ∈ vsX7_turn := List.mem_cons_of_mem _ (List.mem_append_left _ (List.mem_of_getElem? (i := 5) rfl))
theorem qX7_turn_w6 : Cond.initialized RX7 ∈ vsX7_turn := List.mem_cons_of_mem _ (List.mem_append_left _ (List.mem_of_getElem? (i := 6) rfl))
theorem qX7_turn_w7 : Cond.methodLink RX7 100 yX7_in ∈ vsX7_turn := List.mem_cons_of_mem _ (List.mem_append_left _ (List.mem_of_getElem? (i := 7) rfl))
theorem qX7_turn_w8 : Cond.static yX7_in ∈ vsX7_turn := List.mem_cons_of_mem _ (List.mem_append_left _ (List.mem_of_getElem? (i := 8) rfl))
theorem qX7_turn_X7 : ∀ w ∈ u_ws RX7 TX7 40, w ∈ vsX7_turn := fun w h => List.mem_cons_of_mem _ (List.mem_append_right _ (List.mem_append_left _ h))
theorem gd_vsX7_turn : ∀ w ∈ vsX7_turn, goodWord w = true := dk_cons rfl (dk_app (dk_all (by decide +kernel)) (dk_app gd_wsX70 (dk_app gd_vsX7_isKnot (dk_app gd_vsX7_in dk_nil))))
theorem gvX7_turn_X7_isKnot : GoodIn vsX7_turn (wsV RX7 108 RX7 yX7_isKnot vsX7_isKnot) := goodIn_app (dk_g4 qX7_turn_w3 qX7_turn_w4 qX7_turn_w5 qX7_turn_w6 rfl) (dk_gIn (fun w h => List.mem_cons_of_mem _ (List.mem_append_right _ (List.mem_append_right _ (List.mem_append_left _ h)))) gd_vsX7_isKnot)
theorem gvX7_turn_X7_in : GoodIn vsX7_turn (va_wsS RX7 100 yX7_in vsX7_in) := goodIn_app (dk_g3 qX7_turn_w7 qX7_turn_w8 qX7_turn_w6 rfl) (dk_gIn (fun w h => List.mem_cons_of_mem _ (List.mem_append_right _ (List.mem_append_right _ (List.mem_append_right _ (List.mem_append_left _ h))))) gd_vsX7_in)
def fX7_turn (M_knots : Int32) (M_turns M_turnMany : Nat → Int32) (x1 x2 : Int32) : Option (Int32) := dk_bnd (fX7_isKnot M_knots x1) (fun r_1 => if r_1 = 0 then some (-2000000000) else dk_gd (dk_in x1 12) (dk_bnd (fX7_in x2 0 ((M_turnMany x1.toNatClampNeg) - 1)) (fun r_4 => if r_4 = 0 then some (-1) else dk_gd (dk_in ((22 * x1) + x2) 264) (some (M_turns ((22 * x1) + x2).toNatClampNeg)))))
section
variable {p : Program} {l : Launch} {e : Env} {s : State} {m : MethodId} {args : Array Value} {below : List Frame} {meth : Method} {c : Code} {dC : Nat → ClassId} {dI : Nat → Nat → Nat} {cI cJ cZ : ClassId} {A : Nat → Prop} {oM : Nat} {aM : Nat → Nat} {M_knots M_wires M_battery : Int32} {M_first M_second M_isCut M_turns M_turnMany M_wireClaim M_knotClaim : Nat → Int32} {M_hasKept M_keptKnots M_keptWires M_keptBattery : Int32} {M_keptFirst M_keptSecond M_keptTurns M_keptMany M_keptWire M_keptKnot M_keptCut : Nat → Int32} {M_told : Int32} {M_left M_low M_side M_faceOf : Nat → Int32} {M_faceMany : Int32} {M_table : Nat → Int64} {M_heights M_currents M_places : Nat → Int32} {M_treeMany : Int64} {M_wide M_high : Int32} {M_newTurns M_newMany M_lineHeight M_lineLeft M_lineRight : Nat → Int32} {M_lines : Int32}
end
set_option maxHeartbeats 4000000 in
set_option maxRecDepth 100000 in
theorem mX7_turn (l : Launch) (dC : Nat → ClassId) (dI : Nat → Nat → Nat) (cI cJ cZ : ClassId) {oM : Nat} {aM : Nat → Nat} {M_knots M_wires M_battery : Int32} {M_first M_second M_isCut M_turns M_turnMany M_wireClaim M_knotClaim : Nat → Int32} {M_hasKept M_keptKnots M_keptWires M_keptBattery : Int32} {M_keptFirst M_keptSecond M_keptTurns M_keptMany M_keptWire M_keptKnot M_keptCut : Nat → Int32} {M_told : Int32} {M_left M_low M_side M_faceOf : Nat → Int32} {M_faceMany : Int32} {M_table : Nat → Int64} {M_heights M_currents M_places : Nat → Int32} {M_treeMany : Int64} {M_wide M_high : Int32} {M_newTurns M_newMany M_lineHeight M_lineLeft M_lineRight : Nat → Int32} {M_lines : Int32} {x1 x2 : Int32} {out : Int32} (h : fX7_turn M_knots M_turns M_turnMany x1 x2 = some out) (sz : Nat) : Met l yX7_turn vsX7_turn rX7_turn (va_Pc [.ref oM, .int x1, .int x2] (dk_Pre (dC, dI) (dk_ty cI cJ cZ) (wX7 oM aM cI cJ cZ M_knots M_wires M_battery M_first M_second M_isCut M_turns M_turnMany M_wireClaim M_knotClaim M_hasKept M_keptKnots M_keptWires M_keptBattery M_keptFirst M_keptSecond M_keptTurns M_keptMany M_keptWire M_keptKnot M_keptCut M_told M_left M_low M_side M_faceOf M_faceMany M_table M_heights M_currents M_places M_treeMany M_wide M_high M_newTurns M_newMany M_lineHeight M_lineLeft M_lineRight M_lines) sz)) (dk_Qi (dC, dI) (dk_ty cI cJ cZ) (wX7 oM aM cI cJ cZ M_knots M_wires M_battery M_first M_second M_isCut M_turns M_turnMany M_wireClaim M_knotClaim M_hasKept M_keptKnots M_keptWires M_keptBattery M_keptFirst M_keptSecond M_keptTurns M_keptMany M_keptWire M_keptKnot M_keptCut M_told M_left M_low M_side M_faceOf M_faceMany M_table M_heights M_currents M_places M_treeMany M_wide M_high M_newTurns M_newMany M_lineHeight M_lineLeft M_lineRight M_lines) out (va_A (wX7 oM aM cI cJ cZ M_knots M_wires M_battery M_first M_second M_isCut M_turns M_turnMany M_wireClaim M_knotClaim M_hasKept M_keptKnots M_keptWires M_keptBattery M_keptFirst M_keptSecond M_keptTurns M_keptMany M_keptWire M_keptKnot M_keptCut M_told M_left M_low M_side M_faceOf M_faceMany M_table M_heights M_currents M_places M_treeMany M_wide M_high M_newTurns M_newMany M_lineHeight M_lineLeft M_lineRight M_lines) sz)) 0 0 (va_A (wX7 oM aM cI cJ cZ M_knots M_wires M_battery M_first M_second M_isCut M_turns M_turnMany M_wireClaim M_knotClaim M_hasKept M_keptKnots M_keptWires M_keptBattery M_keptFirst M_keptSecond M_keptTurns M_keptMany M_keptWire M_keptKnot M_keptCut M_told M_left M_low M_side M_faceOf M_faceMany M_table M_heights M_currents M_places M_treeMany M_wide M_high M_newTurns M_newMany M_lineHeight M_lineLeft M_lineRight M_lines) sz) := by
  refine dk_met (cc := cX7_turn) (maxL := 3) (ret := (some .int)) (Qc := fun A => dk_Qi (dC, dI) (dk_ty cI cJ cZ) (wX7 oM aM cI cJ cZ M_knots M_wires M_battery M_first M_second M_isCut M_turns M_turnMany M_wireClaim M_knotClaim M_hasKept M_keptKnots M_keptWires M_keptBattery M_keptFirst M_keptSecond M_keptTurns M_keptMany M_keptWire M_keptKnot M_keptCut M_told M_left M_low M_side M_faceOf M_faceMany M_table M_heights M_currents M_places M_treeMany M_wide M_high M_newTurns M_newMany M_lineHeight M_lineLeft M_lineRight M_lines) out A) (by decide) rfl (Nat.le_of_ble_eq_true rfl) ?_
  intro p e s m below meth c A C hnm hA hK hP hD hS ls hl
  have C : dk_C p s m meth c _ cX7_turn (some .int) 3 RX7 vsX7_turn := C
  obtain ⟨hx, hb, hr, hml, hown, hts, hlocks⟩ := id C
  have hl : lv_has ls 3 [(0, .ref oM), (1, .int x1), (2, .int x2)] := hl
  unfold fX7_turn at h
  refine lv_aload_n hx hb dX7_turn_0 rfl (lv_at hl 0 rfl) ?_
  refine lv_iload_n hx hb dX7_turn_1 rfl (lv_at hl 1 rfl) ?_
  obtain ⟨r_1, hcr_1, h⟩ := dk_bnd_to h
  refine dk_rVi (b := oM) (As := [.int x1]) (rest := []) (wc := (wX7 oM aM cI cJ cZ M_knots M_wires M_battery M_first M_second M_isCut M_turns M_turnMany M_wireClaim M_knotClaim M_hasKept M_keptKnots M_keptWires M_keptBattery M_keptFirst M_keptSecond M_keptTurns M_keptMany M_keptWire M_keptKnot M_keptCut M_told M_left M_low M_side M_faceOf M_faceMany M_table M_heights M_currents M_places M_treeMany M_wide M_high M_newTurns M_newMany M_lineHeight M_lineLeft M_lineRight M_lines)) C hK hP hD hS hA (mX7_isKnot l dC dI cI cJ cZ hcr_1 _) (cwV 1 hts gvX7_turn_X7_isKnot rfl rfl rfl (by decide +kernel) ⟨Nat.le_of_ble_eq_true rfl, Nat.le_of_ble_eq_true rfl⟩) [0, 1, 2, 3, 4, 5, 6, 7, 8, 9, 10, 11, 12, 13, 14, 15, 16, 17, 18, 19, 20, 21, 22, 23, 24, 25, 26, 27] rfl (by decide) 0 7 rfl rfl rfl hl.1 rfl (Nat.le_of_ble_eq_true rfl) ⟨Nat.le_of_ble_eq_true rfl, Nat.le_of_ble_eq_true rfl⟩ dX7_turn_2 (fun H locs hP hD hS => ?_)
  refine lv_if_ne (tgt := 13) hx hb dX7_turn_5 (by decide) (fun c_2 => ?_) (fun c_2 => ?_)
  · replace h := dk_ie c_2 h
    refine lv_iload_n hx hb dX7_turn_13 rfl (lv_at hl 2 rfl) ?_
    refine lv_iconst (v := 0) hx hb dX7_turn_14 (by decide) ?_
    refine lv_aload_n hx hb dX7_turn_15 rfl (lv_at hl 0 rfl) ?_
    refine va_get (D := (dC, dI)) (ci := 7) (v := .ref (aM 7)) (C := RX7) (T := TX7) (N := 40) hx hb hts qX7_turn_X7 hown hK hP 0 rfl rfl 7 (by decide) (hts _ qX7_turn_f27) (fun _ h9 => h9) rfl dX7_turn_16 ?_
    refine lv_iload_n hx hb dX7_turn_19 rfl (lv_at hl 1 rfl) ?_
    obtain ⟨g_3, h⟩ := dk_gd_to h
    have g_3 := dk_in_to g_3
    refine va_iald hx hb hK hP 5 0 rfl rfl g_3 dX7_turn_20 ?_
    refine lv_iconst (v := 1) hx hb dX7_turn_21 (by decide) ?_
    refine lv_isub hx hb dX7_turn_22 ?_
    obtain ⟨r_4, hcr_4, h⟩ := dk_bnd_to h
    refine dk_rSi (As := [.int x2, .int 0, .int ((M_turnMany x1.toNatClampNeg) - 1)]) (rest := []) (wc := []) C hK hP hD hS hA (mX7_in l dC dI cI cJ cZ hcr_4 _) (va_cwS 3 hts gvX7_turn_X7_in rfl rfl rfl (by decide +kernel) ⟨Nat.le_of_ble_eq_true rfl, Nat.le_of_ble_eq_true rfl⟩) [] rfl (by decide) rfl hl.1 rfl (Nat.le_of_ble_eq_true rfl) ⟨Nat.le_of_ble_eq_true rfl, Nat.le_of_ble_eq_true rfl⟩ dX7_turn_23 (fun H locs hP hD hS => ?_)
    refine lv_if_eq (tgt := 43) hx hb dX7_turn_26 (by decide) (fun c_5 => ?_) (fun c_5 => ?_)
    · replace h := dk_it c_5 h
      refine lv_iconst (v := (-1)) hx hb dX7_turn_43 (by decide) ?_
      have e9 := Option.some.inj h
      subst e9
      exact dk_iret C hK hP hD hS rfl dX7_turn_44
    · replace h := dk_ie c_5 h
      refine lv_aload_n hx hb dX7_turn_29 rfl (lv_at hl 0 rfl) ?_
      refine va_get (D := (dC, dI)) (ci := 7) (v := .ref (aM 6)) (C := RX7) (T := TX7) (N := 40) hx hb hts qX7_turn_X7 hown hK hP 0 rfl rfl 6 (by decide) (hts _ qX7_turn_f24) (fun _ h9 => h9) rfl dX7_turn_30 ?_
      refine lv_bipush (v := 22) hx hb dX7_turn_33 (by decide) ?_
      refine lv_iload_n hx hb dX7_turn_35 rfl (lv_at hl 1 rfl) ?_
      refine lv_imul hx hb dX7_turn_36 ?_
      refine lv_iload_n hx hb dX7_turn_37 rfl (lv_at hl 2 rfl) ?_
      refine lv_iadd hx hb dX7_turn_38 ?_
      obtain ⟨g_6, h⟩ := dk_gd_to h
      have g_6 := dk_in_to g_6
      refine va_iald hx hb hK hP 4 0 rfl rfl g_6 dX7_turn_39 ?_
      refine lv_goto (tgt := 44) hx hb dX7_turn_40 (by decide) ?_
      have e9 := Option.some.inj h
      subst e9
      exact dk_iret C hK hP hD hS rfl dX7_turn_44
  · replace h := dk_it c_2 h
    refine lv_ldc (v := (-2000000000)) hx hb hown (hts _ qX7_turn_k107) dX7_turn_8 ?_
    refine lv_goto (tgt := 44) hx hb dX7_turn_10 (by decide) ?_
    have e9 := Option.some.inj h
    subst e9
    exact dk_iret C hK hP hD hS rfl dX7_turn_44
/-! ===== SquareTilerModel.faces ===== -/
abbrev rX7_faces : Room := { frames := 3, cells := 0, slots := 0, locals := 69 }
def ovX7_faces : List Cond := [Cond.fieldLink RX7 136 "SquareTilerModel" "faceMany" "I", Cond.constant RX7 107 (-2000000000), Cond.methodLink RX7 145 yX7_areTurns, Cond.instanceMethod yX7_areTurns, Cond.selects RX7 yX7_areTurns yX7_areTurns, Cond.initialized RX7, Cond.methodLink RX7 153 yX7_goAlong, Cond.instanceMethod yX7_goAlong, Cond.selects RX7 yX7_goAlong yX7_goAlong]
def vsX7_faces : List Cond := .code yX7_faces cX7_faces 1 (some .int) :: (ovX7_faces ++ (wsX70 ++ (vsX7_areTurns ++ (vsX7_goAlong ++ []))))
theorem qX7_faces_f136 : Cond.fieldLink RX7 136 "SquareTilerModel" "faceMany" "I" ∈ vsX7_faces := List.mem_cons_of_mem _ (List.mem_append_left _ (List.mem_of_getElem? (i := 0) rfl))
theorem qX7_faces_k107 : Cond.constant RX7 107 (-2000000000) ∈ vsX7_faces := List.mem_cons_of_mem _ (List.mem_append_left _ (List.mem_of_getElem? (i := 1) rfl))
theorem qX7_faces_w2 : Cond.methodLink RX7 145 yX7_areTurns ∈ vsX7_faces := List.mem_cons_of_mem _ (List.mem_append_left _ (List.mem_of_getElem? (i := 2) rfl))
theorem qX7_faces_w3 : Cond.instanceMethod yX7_areTurns ∈ vsX7_faces := List.mem_cons_of_mem _ (List.mem_append_left _ (List.mem_of_getElem? (i := 3) rfl))
theorem qX7_faces_w4 : Cond.selects RX7 yX7_areTurns yX7_areTurns ∈ vsX7_faces := List.mem_cons_of_mem _ (List.mem_append_left _ (List.mem_of_getElem? (i := 4) rfl))
theorem qX7_faces_w5 : Cond.initialized RX7 ∈ vsX7_faces := List.mem_cons_of_mem _ (List.mem_append_left _ (List.mem_of_getElem? (i := 5) rfl))
theorem qX7_faces_w6 : Cond.methodLink RX7 153 yX7_goAlong ∈ vsX7_faces := List.mem_cons_of_mem _ (List.mem_append_left _ (List.mem_of_getElem? (i := 6) rfl))
theorem qX7_faces_w7 : Cond.instanceMethod yX7_goAlong ∈ vsX7_faces := List.mem_cons_of_mem _ (List.mem_append_left _ (List.mem_of_getElem? (i := 7) rfl))
theorem qX7_faces_w8 : Cond.selects RX7 yX7_goAlong yX7_goAlong ∈ vsX7_faces := List.mem_cons_of_mem _ (List.mem_append_left _ (List.mem_of_getElem? (i := 8) rfl))
theorem qX7_faces_X7 : ∀ w ∈ u_ws RX7 TX7 40, w ∈ vsX7_faces := fun w h => List.mem_cons_of_mem _ (List.mem_append_right _ (List.mem_append_left _ h))
theorem gd_vsX7_faces : ∀ w ∈ vsX7_faces, goodWord w = true := dk_cons rfl (dk_app (dk_all (by decide +kernel)) (dk_app gd_wsX70 (dk_app gd_vsX7_areTurns (dk_app gd_vsX7_goAlong dk_nil))))
theorem gvX7_faces_X7_areTurns : GoodIn vsX7_faces (wsV RX7 145 RX7 yX7_areTurns vsX7_areTurns) := goodIn_app (dk_g4 qX7_faces_w2 qX7_faces_w3 qX7_faces_w4 qX7_faces_w5 rfl) (dk_gIn (fun w h => List.mem_cons_of_mem _ (List.mem_append_right _ (List.mem_append_right _ (List.mem_append_left _ h)))) gd_vsX7_areTurns)
theorem gvX7_faces_X7_goAlong : GoodIn vsX7_faces (wsV RX7 153 RX7 yX7_goAlong vsX7_goAlong) := goodIn_app (dk_g4 qX7_faces_w6 qX7_faces_w7 qX7_faces_w8 qX7_faces_w5 rfl) (dk_gIn (fun w h => List.mem_cons_of_mem _ (List.mem_append_right _ (List.mem_append_right _ (List.mem_append_right _ (List.mem_append_left _ h))))) gd_vsX7_goAlong)
def fX7_faces (M_knots M_wires : Int32) (M_first M_second M_turns M_turnMany M_faceOf : Nat → Int32) (M_faceMany : Int32) : Option (Int32 × (Nat → Int32) × Int32) := dk_bnd (fX7_areTurns M_knots M_wires M_first M_second M_turnMany) (fun r_1 => if r_1 = 0 then some ((-2000000000), M_faceOf, M_faceMany) else dk_bnd (fX7_goAlong M_wires M_first M_second M_turns M_turnMany M_faceOf M_faceMany) (fun r_3 => some (r_3.2, r_3.1, r_3.2)))
section
variable {p : Program} {l : Launch} {e : Env} {s : State} {m : MethodId} {args : Array Value} {below : List Frame} {meth : Method} {c : Code} {dC : Nat → ClassId} {dI : Nat → Nat → Nat} {cI cJ cZ : ClassId} {A : Nat → Prop} {oM : Nat} {aM : Nat → Nat} {M_knots M_wires M_battery : Int32} {M_first M_second M_isCut M_turns M_turnMany M_wireClaim M_knotClaim : Nat → Int32} {M_hasKept M_keptKnots M_keptWires M_keptBattery : Int32} {M_keptFirst M_keptSecond M_keptTurns M_keptMany M_keptWire M_keptKnot M_keptCut : Nat → Int32} {M_told : Int32} {M_left M_low M_side M_faceOf : Nat → Int32} {M_faceMany : Int32} {M_table : Nat → Int64} {M_heights M_currents M_places : Nat → Int32} {M_treeMany : Int64} {M_wide M_high : Int32} {M_newTurns M_newMany M_lineHeight M_lineLeft M_lineRight : Nat → Int32} {M_lines : Int32}
end
set_option maxHeartbeats 4000000 in
set_option maxRecDepth 100000 in
theorem mX7_faces (l : Launch) (dC : Nat → ClassId) (dI : Nat → Nat → Nat) (cI cJ cZ : ClassId) {oM : Nat} {aM : Nat → Nat} {M_knots M_wires M_battery : Int32} {M_first M_second M_isCut M_turns M_turnMany M_wireClaim M_knotClaim : Nat → Int32} {M_hasKept M_keptKnots M_keptWires M_keptBattery : Int32} {M_keptFirst M_keptSecond M_keptTurns M_keptMany M_keptWire M_keptKnot M_keptCut : Nat → Int32} {M_told : Int32} {M_left M_low M_side M_faceOf : Nat → Int32} {M_faceMany : Int32} {M_table : Nat → Int64} {M_heights M_currents M_places : Nat → Int32} {M_treeMany : Int64} {M_wide M_high : Int32} {M_newTurns M_newMany M_lineHeight M_lineLeft M_lineRight : Nat → Int32} {M_lines : Int32} {out : Int32 × (Nat → Int32) × Int32} (h : fX7_faces M_knots M_wires M_first M_second M_turns M_turnMany M_faceOf M_faceMany = some out) (sz : Nat) : Met l yX7_faces vsX7_faces rX7_faces (va_Pc [.ref oM] (dk_Pre (dC, dI) (dk_ty cI cJ cZ) (wX7 oM aM cI cJ cZ M_knots M_wires M_battery M_first M_second M_isCut M_turns M_turnMany M_wireClaim M_knotClaim M_hasKept M_keptKnots M_keptWires M_keptBattery M_keptFirst M_keptSecond M_keptTurns M_keptMany M_keptWire M_keptKnot M_keptCut M_told M_left M_low M_side M_faceOf M_faceMany M_table M_heights M_currents M_places M_treeMany M_wide M_high M_newTurns M_newMany M_lineHeight M_lineLeft M_lineRight M_lines) sz)) (dk_Qi (dC, dI) (dk_ty cI cJ cZ) (wX7 oM aM cI cJ cZ M_knots M_wires M_battery M_first M_second M_isCut M_turns M_turnMany M_wireClaim M_knotClaim M_hasKept M_keptKnots M_keptWires M_keptBattery M_keptFirst M_keptSecond M_keptTurns M_keptMany M_keptWire M_keptKnot M_keptCut M_told M_left M_low M_side out.2.1 out.2.2 M_table M_heights M_currents M_places M_treeMany M_wide M_high M_newTurns M_newMany M_lineHeight M_lineLeft M_lineRight M_lines) out.1 (va_A (wX7 oM aM cI cJ cZ M_knots M_wires M_battery M_first M_second M_isCut M_turns M_turnMany M_wireClaim M_knotClaim M_hasKept M_keptKnots M_keptWires M_keptBattery M_keptFirst M_keptSecond M_keptTurns M_keptMany M_keptWire M_keptKnot M_keptCut M_told M_left M_low M_side M_faceOf M_faceMany M_table M_heights M_currents M_places M_treeMany M_wide M_high M_newTurns M_newMany M_lineHeight M_lineLeft M_lineRight M_lines) sz)) 0 0 (va_A (wX7 oM aM cI cJ cZ M_knots M_wires M_battery M_first M_second M_isCut M_turns M_turnMany M_wireClaim M_knotClaim M_hasKept M_keptKnots M_keptWires M_keptBattery M_keptFirst M_keptSecond M_keptTurns M_keptMany M_keptWire M_keptKnot M_keptCut M_told M_left M_low M_side M_faceOf M_faceMany M_table M_heights M_currents M_places M_treeMany M_wide M_high M_newTurns M_newMany M_lineHeight M_lineLeft M_lineRight M_lines) sz) := by
  refine dk_met (cc := cX7_faces) (maxL := 1) (ret := (some .int)) (Qc := fun A => dk_Qi (dC, dI) (dk_ty cI cJ cZ) (wX7 oM aM cI cJ cZ M_knots M_wires M_battery M_first M_second M_isCut M_turns M_turnMany M_wireClaim M_knotClaim M_hasKept M_keptKnots M_keptWires M_keptBattery M_keptFirst M_keptSecond M_keptTurns M_keptMany M_keptWire M_keptKnot M_keptCut M_told M_left M_low M_side out.2.1 out.2.2 M_table M_heights M_currents M_places M_treeMany M_wide M_high M_newTurns M_newMany M_lineHeight M_lineLeft M_lineRight M_lines) out.1 A) (by decide) rfl (Nat.le_of_ble_eq_true rfl) ?_
  intro p e s m below meth c A C hnm hA hK hP hD hS ls hl
  have C : dk_C p s m meth c _ cX7_faces (some .int) 1 RX7 vsX7_faces := C
  obtain ⟨hx, hb, hr, hml, hown, hts, hlocks⟩ := id C
  have hl : lv_has ls 1 [(0, .ref oM)] := hl
  unfold fX7_faces at h
  refine lv_aload_n hx hb dX7_faces_0 rfl (lv_at hl 0 rfl) ?_
  obtain ⟨r_1, hcr_1, h⟩ := dk_bnd_to h
  refine dk_rVi (b := oM) (As := []) (rest := []) (wc := (wX7 oM aM cI cJ cZ M_knots M_wires M_battery M_first M_second M_isCut M_turns M_turnMany M_wireClaim M_knotClaim M_hasKept M_keptKnots M_keptWires M_keptBattery M_keptFirst M_keptSecond M_keptTurns M_keptMany M_keptWire M_keptKnot M_keptCut M_told M_left M_low M_side M_faceOf M_faceMany M_table M_heights M_currents M_places M_treeMany M_wide M_high M_newTurns M_newMany M_lineHeight M_lineLeft M_lineRight M_lines)) C hK hP hD hS hA (mX7_areTurns l dC dI cI cJ cZ hcr_1 _) (cwV 0 hts gvX7_faces_X7_areTurns rfl rfl rfl (by decide +kernel) ⟨Nat.le_of_ble_eq_true rfl, Nat.le_of_ble_eq_true rfl⟩) [0, 1, 2, 3, 4, 5, 6, 7, 8, 9, 10, 11, 12, 13, 14, 15, 16, 17, 18, 19, 20, 21, 22, 23, 24, 25, 26, 27] rfl (by decide) 0 7 rfl rfl rfl hl.1 rfl (Nat.le_of_ble_eq_true rfl) ⟨Nat.le_of_ble_eq_true rfl, Nat.le_of_ble_eq_true rfl⟩ dX7_faces_1 (fun H locs hP hD hS => ?_)
  refine lv_if_ne (tgt := 10) hx hb dX7_faces_4 (by decide) (fun c_2 => ?_) (fun c_2 => ?_)
  · replace h := dk_ie c_2 h
    refine lv_aload_n hx hb dX7_faces_10 rfl (lv_at hl 0 rfl) ?_
    obtain ⟨r_3, hcr_3, h⟩ := dk_bnd_to h
    refine dk_cVv (b := oM) (As := []) (rest := []) (wc := (wX7 oM aM cI cJ cZ M_knots M_wires M_battery M_first M_second M_isCut M_turns M_turnMany M_wireClaim M_knotClaim M_hasKept M_keptKnots M_keptWires M_keptBattery M_keptFirst M_keptSecond M_keptTurns M_keptMany M_keptWire M_keptKnot M_keptCut M_told M_left M_low M_side M_faceOf M_faceMany M_table M_heights M_currents M_places M_treeMany M_wide M_high M_newTurns M_newMany M_lineHeight M_lineLeft M_lineRight M_lines)) (wc' := (wX7 oM aM cI cJ cZ M_knots M_wires M_battery M_first M_second M_isCut M_turns M_turnMany M_wireClaim M_knotClaim M_hasKept M_keptKnots M_keptWires M_keptBattery M_keptFirst M_keptSecond M_keptTurns M_keptMany M_keptWire M_keptKnot M_keptCut M_told M_left M_low M_side r_3.1 r_3.2 M_table M_heights M_currents M_places M_treeMany M_wide M_high M_newTurns M_newMany M_lineHeight M_lineLeft M_lineRight M_lines)) (wr := []) (ws' := (wX7 oM aM cI cJ cZ M_knots M_wires M_battery M_first M_second M_isCut M_turns M_turnMany M_wireClaim M_knotClaim M_hasKept M_keptKnots M_keptWires M_keptBattery M_keptFirst M_keptSecond M_keptTurns M_keptMany M_keptWire M_keptKnot M_keptCut M_told M_left M_low M_side r_3.1 r_3.2 M_table M_heights M_currents M_places M_treeMany M_wide M_high M_newTurns M_newMany M_lineHeight M_lineLeft M_lineRight M_lines)) C hK hP hD hS hA (mX7_goAlong l dC dI cI cJ cZ hcr_3 _) (cwV 0 hts gvX7_faces_X7_goAlong rfl rfl rfl (by decide +kernel) ⟨Nat.le_of_ble_eq_true rfl, Nat.le_of_ble_eq_true rfl⟩) [0, 1, 2, 3, 4, 5, 6, 7, 8, 9, 10, 11, 12, 13, 14, 15, 16, 17, 18, 19, 20, 21, 22, 23, 24, 25, 26, 27] [] [0, 1, 2, 3, 4, 5, 6, 7, 8, 9, 10, 11, 12, 13, 14, 15, 16, 17, 18, 19, 20, 21, 22, 23, 24, 25, 26, 27] rfl (by decide) rfl (by decide) (by decide) rfl (by decide) 0 7 rfl rfl rfl hl.1 rfl (Nat.le_of_ble_eq_true rfl) ⟨Nat.le_of_ble_eq_true rfl, Nat.le_of_ble_eq_true rfl⟩ dX7_faces_11 (fun H locs hP hD hS => ?_)
    refine lv_aload_n hx hb dX7_faces_14 rfl (lv_at hl 0 rfl) ?_
    refine va_get (D := (dC, dI)) (ci := 7) (v := .int r_3.2) (C := RX7) (T := TX7) (N := 40) hx hb hts qX7_faces_X7 hown hK hP 0 rfl rfl 26 (by decide) (hts _ qX7_faces_f136) (fun _ h9 => h9) rfl dX7_faces_15 ?_
    have e9 := Option.some.inj h
    subst e9
    exact dk_iret C hK hP hD hS rfl dX7_faces_18
  · replace h := dk_it c_2 h
    refine lv_ldc (v := (-2000000000)) hx hb hown (hts _ qX7_faces_k107) dX7_faces_7 ?_
    have e9 := Option.some.inj h
    subst e9
    exact dk_iret C hK hP hD hS rfl dX7_faces_9
/-! ===== SquareTilerModel.face ===== -/
abbrev rX7_face : Room := { frames := 3, cells := 0, slots := 0, locals := 69 }
def ovX7_face : List Cond := [Cond.constant RX7 107 (-2000000000), Cond.fieldLink RX7 104 "SquareTilerModel" "wires" "I", Cond.fieldLink RX7 66 "SquareTilerModel" "faceOf" "[I", Cond.methodLink RX7 145 yX7_areTurns, Cond.instanceMethod yX7_areTurns, Cond.selects RX7 yX7_areTurns yX7_areTurns, Cond.initialized RX7, Cond.methodLink RX7 100 yX7_in, Cond.static yX7_in, Cond.methodLink RX7 153 yX7_goAlong, Cond.instanceMethod yX7_goAlong, Cond.selects RX7 yX7_goAlong yX7_goAlong]
def vsX7_face : List Cond := .code yX7_face cX7_face 2 (some .int) :: (ovX7_face ++ (wsX70 ++ (vsX7_areTurns ++ (vsX7_in ++ (vsX7_goAlong ++ [])))))
theorem qX7_face_k107 : Cond.constant RX7 107 (-2000000000) ∈ vsX7_face := List.mem_cons_of_mem _ (List.mem_append_left _ (List.mem_of_getElem? (i := 0) rfl))
theorem qX7_face_f104 : Cond.fieldLink RX7 104 "SquareTilerModel" "wires" "I" ∈ vsX7_face := List.mem_cons_of_mem _ (List.mem_append_left _ (List.mem_of_getElem? (i := 1) rfl))
theorem qX7_face_f66 : Cond.fieldLink RX7 66 "SquareTilerModel" "faceOf" "[I" ∈ vsX7_face := List.mem_cons_of_mem _ (List.mem_append_left _ (List.mem_of_getElem? (i := 2) rfl))
theorem qX7_face_w3 : Cond.methodLink RX7 145 yX7_areTurns ∈ vsX7_face := List.mem_cons_of_mem _ (List.mem_append_left _ (List.mem_of_getElem? (i := 3) rfl))
theorem qX7_face_w4 : Cond.instanceMethod yX7_areTurns ∈ vsX7_face := List.mem_cons_of_mem _ (List.mem_append_left _ (List.mem_of_getElem? (i := 4) rfl))
theorem qX7_face_w5 : Cond.selects RX7 yX7_areTurns yX7_areTurns ∈ vsX7_face := List.mem_cons_of_mem _ (List.mem_append_left _ (List.mem_of_getElem? (i := 5) rfl))
theorem qX7_face_w6 : Cond.initialized RX7 ∈ vsX7_face := List.mem_cons_of_mem _ (List.mem_append_left _ (List.mem_of_getElem? (i := 6) rfl))
theorem qX7_face_w7 : Cond.methodLink RX7 100 yX7_in ∈ vsX7_face := List.mem_cons_of_mem _ (List.mem_append_left _ (List.mem_of_getElem? (i := 7) rfl))
theorem qX7_face_w8 : Cond.static yX7_in ∈ vsX7_face := List.mem_cons_of_mem _ (List.mem_append_left _ (List.mem_of_getElem? (i := 8) rfl))
theorem qX7_face_w9 : Cond.methodLink RX7 153 yX7_goAlong ∈ vsX7_face := List.mem_cons_of_mem _ (List.mem_append_left _ (List.mem_of_getElem? (i := 9) rfl))
theorem qX7_face_w10 : Cond.instanceMethod yX7_goAlong ∈ vsX7_face := List.mem_cons_of_mem _ (List.mem_append_left _ (List.mem_of_getElem? (i := 10) rfl))
theorem qX7_face_w11 : Cond.selects RX7 yX7_goAlong yX7_goAlong ∈ vsX7_face := List.mem_cons_of_mem _ (List.mem_append_left _ (List.mem_of_getElem? (i := 11) rfl))
theorem qX7_face_X7 : ∀ w ∈ u_ws RX7 TX7 40, w ∈ vsX7_face := fun w h => List.mem_cons_of_mem _ (List.mem_append_right _ (List.mem_append_left _ h))
theorem gd_vsX7_face : ∀ w ∈ vsX7_face, goodWord w = true := dk_cons rfl (dk_app (dk_all (by decide +kernel)) (dk_app gd_wsX70 (dk_app gd_vsX7_areTurns (dk_app gd_vsX7_in (dk_app gd_vsX7_goAlong dk_nil)))))
theorem gvX7_face_X7_areTurns : GoodIn vsX7_face (wsV RX7 145 RX7 yX7_areTurns vsX7_areTurns) := goodIn_app (dk_g4 qX7_face_w3 qX7_face_w4 qX7_face_w5 qX7_face_w6 rfl) (dk_gIn (fun w h => List.mem_cons_of_mem _ (List.mem_append_right _ (List.mem_append_right _ (List.mem_append_left _ h)))) gd_vsX7_areTurns)
theorem gvX7_face_X7_in : GoodIn vsX7_face (va_wsS RX7 100 yX7_in vsX7_in) := goodIn_app (dk_g3 qX7_face_w7 qX7_face_w8 qX7_face_w6 rfl) (dk_gIn (fun w h => List.mem_cons_of_mem _ (List.mem_append_right _ (List.mem_append_right _ (List.mem_append_right _ (List.mem_append_left _ h))))) gd_vsX7_in)
theorem gvX7_face_X7_goAlong : GoodIn vsX7_face (wsV RX7 153 RX7 yX7_goAlong vsX7_goAlong) := goodIn_app (dk_g4 qX7_face_w9 qX7_face_w10 qX7_face_w11 qX7_face_w6 rfl) (dk_gIn (fun w h => List.mem_cons_of_mem _ (List.mem_append_right _ (List.mem_append_right _ (List.mem_append_right _ (List.mem_append_right _ (List.mem_append_left _ h)))))) gd_vsX7_goAlong)
def fX7_face (M_knots M_wires : Int32) (M_first M_second M_turns M_turnMany M_faceOf : Nat → Int32) (M_faceMany x1 : Int32) : Option (Int32 × (Nat → Int32) × Int32) := dk_bnd (fX7_areTurns M_knots M_wires M_first M_second M_turnMany) (fun r_1 => if r_1 = 0 then some ((-2000000000), M_faceOf, M_faceMany) else dk_bnd (fX7_in x1 0 ((2 * M_wires) - 1)) (fun r_3 => if r_3 = 0 then some ((-2000000000), M_faceOf, M_faceMany) else dk_bnd (fX7_goAlong M_wires M_first M_second M_turns M_turnMany M_faceOf M_faceMany) (fun r_5 => dk_gd (dk_in x1 44) (some ((r_5.1 x1.toNatClampNeg), r_5.1, r_5.2)))))
section
variable {p : Program} {l : Launch} {e : Env} {s : State} {m : MethodId} {args : Array Value} {below : List Frame} {meth : Method} {c : Code} {dC : Nat → ClassId} {dI : Nat → Nat → Nat} {cI cJ cZ : ClassId} {A : Nat → Prop} {oM : Nat} {aM : Nat → Nat} {M_knots M_wires M_battery : Int32} {M_first M_second M_isCut M_turns M_turnMany M_wireClaim M_knotClaim : Nat → Int32} {M_hasKept M_keptKnots M_keptWires M_keptBattery : Int32} {M_keptFirst M_keptSecond M_keptTurns M_keptMany M_keptWire M_keptKnot M_keptCut : Nat → Int32} {M_told : Int32} {M_left M_low M_side M_faceOf : Nat → Int32} {M_faceMany : Int32} {M_table : Nat → Int64} {M_heights M_currents M_places : Nat → Int32} {M_treeMany : Int64} {M_wide M_high : Int32} {M_newTurns M_newMany M_lineHeight M_lineLeft M_lineRight : Nat → Int32} {M_lines : Int32}
end
set_option maxHeartbeats 4000000 in
set_option maxRecDepth 100000 in
theorem mX7_face (l : Launch) (dC : Nat → ClassId) (dI : Nat → Nat → Nat) (cI cJ cZ : ClassId) {oM : Nat} {aM : Nat → Nat} {M_knots M_wires M_battery : Int32} {M_first M_second M_isCut M_turns M_turnMany M_wireClaim M_knotClaim : Nat → Int32} {M_hasKept M_keptKnots M_keptWires M_keptBattery : Int32} {M_keptFirst M_keptSecond M_keptTurns M_keptMany M_keptWire M_keptKnot M_keptCut : Nat → Int32} {M_told : Int32} {M_left M_low M_side M_faceOf : Nat → Int32} {M_faceMany : Int32} {M_table : Nat → Int64} {M_heights M_currents M_places : Nat → Int32} {M_treeMany : Int64} {M_wide M_high : Int32} {M_newTurns M_newMany M_lineHeight M_lineLeft M_lineRight : Nat → Int32} {M_lines : Int32} {x1 : Int32} {out : Int32 × (Nat → Int32) × Int32} (h : fX7_face M_knots M_wires M_first M_second M_turns M_turnMany M_faceOf M_faceMany x1 = some out) (sz : Nat) : Met l yX7_face vsX7_face rX7_face (va_Pc [.ref oM, .int x1] (dk_Pre (dC, dI) (dk_ty cI cJ cZ) (wX7 oM aM cI cJ cZ M_knots M_wires M_battery M_first M_second M_isCut M_turns M_turnMany M_wireClaim M_knotClaim M_hasKept M_keptKnots M_keptWires M_keptBattery M_keptFirst M_keptSecond M_keptTurns M_keptMany M_keptWire M_keptKnot M_keptCut M_told M_left M_low M_side M_faceOf M_faceMany M_table M_heights M_currents M_places M_treeMany M_wide M_high M_newTurns M_newMany M_lineHeight M_lineLeft M_lineRight M_lines) sz)) (dk_Qi (dC, dI) (dk_ty cI cJ cZ) (wX7 oM aM cI cJ cZ M_knots M_wires M_battery M_first M_second M_isCut M_turns M_turnMany M_wireClaim M_knotClaim M_hasKept M_keptKnots M_keptWires M_keptBattery M_keptFirst M_keptSecond M_keptTurns M_keptMany M_keptWire M_keptKnot M_keptCut M_told M_left M_low M_side out.2.1 out.2.2 M_table M_heights M_currents M_places M_treeMany M_wide M_high M_newTurns M_newMany M_lineHeight M_lineLeft M_lineRight M_lines) out.1 (va_A (wX7 oM aM cI cJ cZ M_knots M_wires M_battery M_first M_second M_isCut M_turns M_turnMany M_wireClaim M_knotClaim M_hasKept M_keptKnots M_keptWires M_keptBattery M_keptFirst M_keptSecond M_keptTurns M_keptMany M_keptWire M_keptKnot M_keptCut M_told M_left M_low M_side M_faceOf M_faceMany M_table M_heights M_currents M_places M_treeMany M_wide M_high M_newTurns M_newMany M_lineHeight M_lineLeft M_lineRight M_lines) sz)) 0 0 (va_A (wX7 oM aM cI cJ cZ M_knots M_wires M_battery M_first M_second M_isCut M_turns M_turnMany M_wireClaim M_knotClaim M_hasKept M_keptKnots M_keptWires M_keptBattery M_keptFirst M_keptSecond M_keptTurns M_keptMany M_keptWire M_keptKnot M_keptCut M_told M_left M_low M_side M_faceOf M_faceMany M_table M_heights M_currents M_places M_treeMany M_wide M_high M_newTurns M_newMany M_lineHeight M_lineLeft M_lineRight M_lines) sz) := by
  refine dk_met (cc := cX7_face) (maxL := 2) (ret := (some .int)) (Qc := fun A => dk_Qi (dC, dI) (dk_ty cI cJ cZ) (wX7 oM aM cI cJ cZ M_knots M_wires M_battery M_first M_second M_isCut M_turns M_turnMany M_wireClaim M_knotClaim M_hasKept M_keptKnots M_keptWires M_keptBattery M_keptFirst M_keptSecond M_keptTurns M_keptMany M_keptWire M_keptKnot M_keptCut M_told M_left M_low M_side out.2.1 out.2.2 M_table M_heights M_currents M_places M_treeMany M_wide M_high M_newTurns M_newMany M_lineHeight M_lineLeft M_lineRight M_lines) out.1 A) (by decide) rfl (Nat.le_of_ble_eq_true rfl) ?_
  intro p e s m below meth c A C hnm hA hK hP hD hS ls hl
  have C : dk_C p s m meth c _ cX7_face (some .int) 2 RX7 vsX7_face := C
  obtain ⟨hx, hb, hr, hml, hown, hts, hlocks⟩ := id C
  have hl : lv_has ls 2 [(0, .ref oM), (1, .int x1)] := hl
  unfold fX7_face at h
  refine lv_aload_n hx hb dX7_face_0 rfl (lv_at hl 0 rfl) ?_
  obtain ⟨r_1, hcr_1, h⟩ := dk_bnd_to h
  refine dk_rVi (b := oM) (As := []) (rest := []) (wc := (wX7 oM aM cI cJ cZ M_knots M_wires M_battery M_first M_second M_isCut M_turns M_turnMany M_wireClaim M_knotClaim M_hasKept M_keptKnots M_keptWires M_keptBattery M_keptFirst M_keptSecond M_keptTurns M_keptMany M_keptWire M_keptKnot M_keptCut M_told M_left M_low M_side M_faceOf M_faceMany M_table M_heights M_currents M_places M_treeMany M_wide M_high M_newTurns M_newMany M_lineHeight M_lineLeft M_lineRight M_lines)) C hK hP hD hS hA (mX7_areTurns l dC dI cI cJ cZ hcr_1 _) (cwV 0 hts gvX7_face_X7_areTurns rfl rfl rfl (by decide +kernel) ⟨Nat.le_of_ble_eq_true rfl, Nat.le_of_ble_eq_true rfl⟩) [0, 1, 2, 3, 4, 5, 6, 7, 8, 9, 10, 11, 12, 13, 14, 15, 16, 17, 18, 19, 20, 21, 22, 23, 24, 25, 26, 27] rfl (by decide) 0 7 rfl rfl rfl hl.1 rfl (Nat.le_of_ble_eq_true rfl) ⟨Nat.le_of_ble_eq_true rfl, Nat.le_of_ble_eq_true rfl⟩ dX7_face_1 (fun H locs hP hD hS => ?_)
  refine lv_if_eq (tgt := 23) hx hb dX7_face_4 (by decide) (fun c_2 => ?_) (fun c_2 => ?_)
  · replace h := dk_it c_2 h
    refine lv_ldc (v := (-2000000000)) hx hb hown (hts _ qX7_face_k107) dX7_face_23 ?_
    have e9 := Option.some.inj h
    subst e9
    exact dk_iret C hK hP hD hS rfl dX7_face_25
  · replace h := dk_ie c_2 h
    refine lv_iload_n hx hb dX7_face_7 rfl (lv_at hl 1 rfl) ?_
    refine lv_iconst (v := 0) hx hb dX7_face_8 (by decide) ?_
    refine lv_iconst (v := 2) hx hb dX7_face_9 (by decide) ?_
    refine lv_aload_n hx hb dX7_face_10 rfl (lv_at hl 0 rfl) ?_
    refine va_get (D := (dC, dI)) (ci := 7) (v := .int M_wires) (C := RX7) (T := TX7) (N := 40) hx hb hts qX7_face_X7 hown hK hP 0 rfl rfl 1 (by decide) (hts _ qX7_face_f104) (fun _ h9 => h9) rfl dX7_face_11 ?_
    refine lv_imul hx hb dX7_face_14 ?_
    refine lv_iconst (v := 1) hx hb dX7_face_15 (by decide) ?_
    refine lv_isub hx hb dX7_face_16 ?_
    obtain ⟨r_3, hcr_3, h⟩ := dk_bnd_to h
    refine dk_rSi (As := [.int x1, .int 0, .int ((2 * M_wires) - 1)]) (rest := []) (wc := []) C hK hP hD hS hA (mX7_in l dC dI cI cJ cZ hcr_3 _) (va_cwS 3 hts gvX7_face_X7_in rfl rfl rfl (by decide +kernel) ⟨Nat.le_of_ble_eq_true rfl, Nat.le_of_ble_eq_true rfl⟩) [] rfl (by decide) rfl hl.1 rfl (Nat.le_of_ble_eq_true rfl) ⟨Nat.le_of_ble_eq_true rfl, Nat.le_of_ble_eq_true rfl⟩ dX7_face_17 (fun H locs hP hD hS => ?_)
    refine lv_if_ne (tgt := 26) hx hb dX7_face_20 (by decide) (fun c_4 => ?_) (fun c_4 => ?_)
    · replace h := dk_ie c_4 h
      refine lv_aload_n hx hb dX7_face_26 rfl (lv_at hl 0 rfl) ?_
      obtain ⟨r_5, hcr_5, h⟩ := dk_bnd_to h
      refine dk_cVv (b := oM) (As := []) (rest := []) (wc := (wX7 oM aM cI cJ cZ M_knots M_wires M_battery M_first M_second M_isCut M_turns M_turnMany M_wireClaim M_knotClaim M_hasKept M_keptKnots M_keptWires M_keptBattery M_keptFirst M_keptSecond M_keptTurns M_keptMany M_keptWire M_keptKnot M_keptCut M_told M_left M_low M_side M_faceOf M_faceMany M_table M_heights M_currents M_places M_treeMany M_wide M_high M_newTurns M_newMany M_lineHeight M_lineLeft M_lineRight M_lines)) (wc' := (wX7 oM aM cI cJ cZ M_knots M_wires M_battery M_first M_second M_isCut M_turns M_turnMany M_wireClaim M_knotClaim M_hasKept M_keptKnots M_keptWires M_keptBattery M_keptFirst M_keptSecond M_keptTurns M_keptMany M_keptWire M_keptKnot M_keptCut M_told M_left M_low M_side r_5.1 r_5.2 M_table M_heights M_currents M_places M_treeMany M_wide M_high M_newTurns M_newMany M_lineHeight M_lineLeft M_lineRight M_lines)) (wr := []) (ws' := (wX7 oM aM cI cJ cZ M_knots M_wires M_battery M_first M_second M_isCut M_turns M_turnMany M_wireClaim M_knotClaim M_hasKept M_keptKnots M_keptWires M_keptBattery M_keptFirst M_keptSecond M_keptTurns M_keptMany M_keptWire M_keptKnot M_keptCut M_told M_left M_low M_side r_5.1 r_5.2 M_table M_heights M_currents M_places M_treeMany M_wide M_high M_newTurns M_newMany M_lineHeight M_lineLeft M_lineRight M_lines)) C hK hP hD hS hA (mX7_goAlong l dC dI cI cJ cZ hcr_5 _) (cwV 0 hts gvX7_face_X7_goAlong rfl rfl rfl (by decide +kernel) ⟨Nat.le_of_ble_eq_true rfl, Nat.le_of_ble_eq_true rfl⟩) [0, 1, 2, 3, 4, 5, 6, 7, 8, 9, 10, 11, 12, 13, 14, 15, 16, 17, 18, 19, 20, 21, 22, 23, 24, 25, 26, 27] [] [0, 1, 2, 3, 4, 5, 6, 7, 8, 9, 10, 11, 12, 13, 14, 15, 16, 17, 18, 19, 20, 21, 22, 23, 24, 25, 26, 27] rfl (by decide) rfl (by decide) (by decide) rfl (by decide) 0 7 rfl rfl rfl hl.1 rfl (Nat.le_of_ble_eq_true rfl) ⟨Nat.le_of_ble_eq_true rfl, Nat.le_of_ble_eq_true rfl⟩ dX7_face_27 (fun H locs hP hD hS => ?_)
      refine lv_aload_n hx hb dX7_face_30 rfl (lv_at hl 0 rfl) ?_
      refine va_get (D := (dC, dI)) (ci := 7) (v := .ref (aM 25)) (C := RX7) (T := TX7) (N := 40) hx hb hts qX7_face_X7 hown hK hP 0 rfl rfl 25 (by decide) (hts _ qX7_face_f66) (fun _ h9 => h9) rfl dX7_face_31 ?_
      refine lv_iload_n hx hb dX7_face_34 rfl (lv_at hl 1 rfl) ?_
      obtain ⟨g_6, h⟩ := dk_gd_to h
      have g_6 := dk_in_to g_6
      refine va_iald hx hb hK hP 18 0 rfl rfl g_6 dX7_face_35 ?_
      have e9 := Option.some.inj h
      subst e9
      exact dk_iret C hK hP hD hS rfl dX7_face_36
    · replace h := dk_it c_4 h
      refine lv_ldc (v := (-2000000000)) hx hb hown (hts _ qX7_face_k107) dX7_face_23 ?_
      have e9 := Option.some.inj h
      subst e9
      exact dk_iret C hK hP hD hS rfl dX7_face_25
/-! ===== SquareTilerModel.trees ===== -/
abbrev rX7_trees : Room := { frames := 5, cells := 0, slots := 0, locals := 117 }
def ovX7_trees : List Cond := [Cond.constantLong RX7 213 (-2000000000), Cond.fieldLink RX7 171 "SquareTilerModel" "treeMany" "J", Cond.methodLink RX7 210 yX7_flows, Cond.instanceMethod yX7_flows, Cond.selects RX7 yX7_flows yX7_flows, Cond.initialized RX7]
def vsX7_trees : List Cond := .code yX7_trees cX7_trees 1 (some .long) :: (ovX7_trees ++ (wsX70 ++ (vsX7_flows ++ [])))
theorem qX7_trees_k213 : Cond.constantLong RX7 213 (-2000000000) ∈ vsX7_trees := List.mem_cons_of_mem _ (List.mem_append_left _ (List.mem_of_getElem? (i := 0) rfl))
theorem qX7_trees_f171 : Cond.fieldLink RX7 171 "SquareTilerModel" "treeMany" "J" ∈ vsX7_trees := List.mem_cons_of_mem _ (List.mem_append_left _ (List.mem_of_getElem? (i := 1) rfl))
theorem qX7_trees_w2 : Cond.methodLink RX7 210 yX7_flows ∈ vsX7_trees := List.mem_cons_of_mem _ (List.mem_append_left _ (List.mem_of_getElem? (i := 2) rfl))
theorem qX7_trees_w3 : Cond.instanceMethod yX7_flows ∈ vsX7_trees := List.mem_cons_of_mem _ (List.mem_append_left _ (List.mem_of_getElem? (i := 3) rfl))
theorem qX7_trees_w4 : Cond.selects RX7 yX7_flows yX7_flows ∈ vsX7_trees := List.mem_cons_of_mem _ (List.mem_append_left _ (List.mem_of_getElem? (i := 4) rfl))
theorem qX7_trees_w5 : Cond.initialized RX7 ∈ vsX7_trees := List.mem_cons_of_mem _ (List.mem_append_left _ (List.mem_of_getElem? (i := 5) rfl))
theorem qX7_trees_X7 : ∀ w ∈ u_ws RX7 TX7 40, w ∈ vsX7_trees := fun w h => List.mem_cons_of_mem _ (List.mem_append_right _ (List.mem_append_left _ h))
theorem gd_vsX7_trees : ∀ w ∈ vsX7_trees, goodWord w = true := dk_cons rfl (dk_app (dk_all (by decide +kernel)) (dk_app gd_wsX70 (dk_app gd_vsX7_flows dk_nil)))
theorem gvX7_trees_X7_flows : GoodIn vsX7_trees (wsV RX7 210 RX7 yX7_flows vsX7_flows) := goodIn_app (dk_g4 qX7_trees_w2 qX7_trees_w3 qX7_trees_w4 qX7_trees_w5 rfl) (dk_gIn (fun w h => List.mem_cons_of_mem _ (List.mem_append_right _ (List.mem_append_right _ (List.mem_append_left _ h)))) gd_vsX7_flows)
def fX7_trees (M_knots M_wires M_battery : Int32) (M_first M_second M_isCut M_turns M_turnMany M_faceOf : Nat → Int32) (M_faceMany : Int32) (M_table : Nat → Int64) (M_heights M_currents M_places : Nat → Int32) (M_treeMany : Int64) (M_wide M_high : Int32) : Option (Int64 × (Nat → Int32) × Int32 × (Nat → Int64) × (Nat → Int32) × (Nat → Int32) × (Nat → Int32) × Int64 × Int32 × Int32) := dk_bnd (fX7_flows M_knots M_wires M_battery M_first M_second M_isCut M_turns M_turnMany M_faceOf M_faceMany M_table M_heights M_currents M_places M_treeMany M_wide M_high) (fun r_1 => if r_1.1 = 0 then some ((-2000000000), r_1.2.1, r_1.2.2.1, r_1.2.2.2.1, r_1.2.2.2.2.1, r_1.2.2.2.2.2.1, r_1.2.2.2.2.2.2.1, r_1.2.2.2.2.2.2.2.1, r_1.2.2.2.2.2.2.2.2.1, r_1.2.2.2.2.2.2.2.2.2) else some (r_1.2.2.2.2.2.2.2.1, r_1.2.1, r_1.2.2.1, r_1.2.2.2.1, r_1.2.2.2.2.1, r_1.2.2.2.2.2.1, r_1.2.2.2.2.2.2.1, r_1.2.2.2.2.2.2.2.1, r_1.2.2.2.2.2.2.2.2.1, r_1.2.2.2.2.2.2.2.2.2))
section
variable {p : Program} {l : Launch} {e : Env} {s : State} {m : MethodId} {args : Array Value} {below : List Frame} {meth : Method} {c : Code} {dC : Nat → ClassId} {dI : Nat → Nat → Nat} {cI cJ cZ : ClassId} {A : Nat → Prop} {oM : Nat} {aM : Nat → Nat} {M_knots M_wires M_battery : Int32} {M_first M_second M_isCut M_turns M_turnMany M_wireClaim M_knotClaim : Nat → Int32} {M_hasKept M_keptKnots M_keptWires M_keptBattery : Int32} {M_keptFirst M_keptSecond M_keptTurns M_keptMany M_keptWire M_keptKnot M_keptCut : Nat → Int32} {M_told : Int32} {M_left M_low M_side M_faceOf : Nat → Int32} {M_faceMany : Int32} {M_table : Nat → Int64} {M_heights M_currents M_places : Nat → Int32} {M_treeMany : Int64} {M_wide M_high : Int32} {M_newTurns M_newMany M_lineHeight M_lineLeft M_lineRight : Nat → Int32} {M_lines : Int32}
end
set_option maxHeartbeats 4000000 in
set_option maxRecDepth 100000 in
theorem mX7_trees (l : Launch) (dC : Nat → ClassId) (dI : Nat → Nat → Nat) (cI cJ cZ : ClassId) {oM : Nat} {aM : Nat → Nat} {M_knots M_wires M_battery : Int32} {M_first M_second M_isCut M_turns M_turnMany M_wireClaim M_knotClaim : Nat → Int32} {M_hasKept M_keptKnots M_keptWires M_keptBattery : Int32} {M_keptFirst M_keptSecond M_keptTurns M_keptMany M_keptWire M_keptKnot M_keptCut : Nat → Int32} {M_told : Int32} {M_left M_low M_side M_faceOf : Nat → Int32} {M_faceMany : Int32} {M_table : Nat → Int64} {M_heights M_currents M_places : Nat → Int32} {M_treeMany : Int64} {M_wide M_high : Int32} {M_newTurns M_newMany M_lineHeight M_lineLeft M_lineRight : Nat → Int32} {M_lines : Int32} {out : Int64 × (Nat → Int32) × Int32 × (Nat → Int64) × (Nat → Int32) × (Nat → Int32) × (Nat → Int32) × Int64 × Int32 × Int32} (h : fX7_trees M_knots M_wires M_battery M_first M_second M_isCut M_turns M_turnMany M_faceOf M_faceMany M_table M_heights M_currents M_places M_treeMany M_wide M_high = some out) (sz : Nat) : Met l yX7_trees vsX7_trees rX7_trees (va_Pc [.ref oM] (dk_Pre (dC, dI) (dk_ty cI cJ cZ) (wX7 oM aM cI cJ cZ M_knots M_wires M_battery M_first M_second M_isCut M_turns M_turnMany M_wireClaim M_knotClaim M_hasKept M_keptKnots M_keptWires M_keptBattery M_keptFirst M_keptSecond M_keptTurns M_keptMany M_keptWire M_keptKnot M_keptCut M_told M_left M_low M_side M_faceOf M_faceMany M_table M_heights M_currents M_places M_treeMany M_wide M_high M_newTurns M_newMany M_lineHeight M_lineLeft M_lineRight M_lines) sz)) (dk_Ql (dC, dI) (dk_ty cI cJ cZ) (wX7 oM aM cI cJ cZ M_knots M_wires M_battery M_first M_second M_isCut M_turns M_turnMany M_wireClaim M_knotClaim M_hasKept M_keptKnots M_keptWires M_keptBattery M_keptFirst M_keptSecond M_keptTurns M_keptMany M_keptWire M_keptKnot M_keptCut M_told M_left M_low M_side out.2.1 out.2.2.1 out.2.2.2.1 out.2.2.2.2.1 out.2.2.2.2.2.1 out.2.2.2.2.2.2.1 out.2.2.2.2.2.2.2.1 out.2.2.2.2.2.2.2.2.1 out.2.2.2.2.2.2.2.2.2 M_newTurns M_newMany M_lineHeight M_lineLeft M_lineRight M_lines) out.1 (va_A (wX7 oM aM cI cJ cZ M_knots M_wires M_battery M_first M_second M_isCut M_turns M_turnMany M_wireClaim M_knotClaim M_hasKept M_keptKnots M_keptWires M_keptBattery M_keptFirst M_keptSecond M_keptTurns M_keptMany M_keptWire M_keptKnot M_keptCut M_told M_left M_low M_side M_faceOf M_faceMany M_table M_heights M_currents M_places M_treeMany M_wide M_high M_newTurns M_newMany M_lineHeight M_lineLeft M_lineRight M_lines) sz)) 0 0 (va_A (wX7 oM aM cI cJ cZ M_knots M_wires M_battery M_first M_second M_isCut M_turns M_turnMany M_wireClaim M_knotClaim M_hasKept M_keptKnots M_keptWires M_keptBattery M_keptFirst M_keptSecond M_keptTurns M_keptMany M_keptWire M_keptKnot M_keptCut M_told M_left M_low M_side M_faceOf M_faceMany M_table M_heights M_currents M_places M_treeMany M_wide M_high M_newTurns M_newMany M_lineHeight M_lineLeft M_lineRight M_lines) sz) := by
  refine dk_met (cc := cX7_trees) (maxL := 1) (ret := (some .long)) (Qc := fun A => dk_Ql (dC, dI) (dk_ty cI cJ cZ) (wX7 oM aM cI cJ cZ M_knots M_wires M_battery M_first M_second M_isCut M_turns M_turnMany M_wireClaim M_knotClaim M_hasKept M_keptKnots M_keptWires M_keptBattery M_keptFirst M_keptSecond M_keptTurns M_keptMany M_keptWire M_keptKnot M_keptCut M_told M_left M_low M_side out.2.1 out.2.2.1 out.2.2.2.1 out.2.2.2.2.1 out.2.2.2.2.2.1 out.2.2.2.2.2.2.1 out.2.2.2.2.2.2.2.1 out.2.2.2.2.2.2.2.2.1 out.2.2.2.2.2.2.2.2.2 M_newTurns M_newMany M_lineHeight M_lineLeft M_lineRight M_lines) out.1 A) (by decide) rfl (Nat.le_of_ble_eq_true rfl) ?_
  intro p e s m below meth c A C hnm hA hK hP hD hS ls hl
  have C : dk_C p s m meth c _ cX7_trees (some .long) 1 RX7 vsX7_trees := C
  obtain ⟨hx, hb, hr, hml, hown, hts, hlocks⟩ := id C
  have hl : lv_has ls 1 [(0, .ref oM)] := hl
  unfold fX7_trees at h
  refine lv_aload_n hx hb dX7_trees_0 rfl (lv_at hl 0 rfl) ?_
  obtain ⟨r_1, hcr_1, h⟩ := dk_bnd_to h
  refine dk_cVi (b := oM) (As := []) (rest := []) (wc := (wX7 oM aM cI cJ cZ M_knots M_wires M_battery M_first M_second M_isCut M_turns M_turnMany M_wireClaim M_knotClaim M_hasKept M_keptKnots M_keptWires M_keptBattery M_keptFirst M_keptSecond M_keptTurns M_keptMany M_keptWire M_keptKnot M_keptCut M_told M_left M_low M_side M_faceOf M_faceMany M_table M_heights M_currents M_places M_treeMany M_wide M_high M_newTurns M_newMany M_lineHeight M_lineLeft M_lineRight M_lines)) (wc' := (wX7 oM aM cI cJ cZ M_knots M_wires M_battery M_first M_second M_isCut M_turns M_turnMany M_wireClaim M_knotClaim M_hasKept M_keptKnots M_keptWires M_keptBattery M_keptFirst M_keptSecond M_keptTurns M_keptMany M_keptWire M_keptKnot M_keptCut M_told M_left M_low M_side r_1.2.1 r_1.2.2.1 r_1.2.2.2.1 r_1.2.2.2.2.1 r_1.2.2.2.2.2.1 r_1.2.2.2.2.2.2.1 r_1.2.2.2.2.2.2.2.1 r_1.2.2.2.2.2.2.2.2.1 r_1.2.2.2.2.2.2.2.2.2 M_newTurns M_newMany M_lineHeight M_lineLeft M_lineRight M_lines)) (wr := []) (ws' := (wX7 oM aM cI cJ cZ M_knots M_wires M_battery M_first M_second M_isCut M_turns M_turnMany M_wireClaim M_knotClaim M_hasKept M_keptKnots M_keptWires M_keptBattery M_keptFirst M_keptSecond M_keptTurns M_keptMany M_keptWire M_keptKnot M_keptCut M_told M_left M_low M_side r_1.2.1 r_1.2.2.1 r_1.2.2.2.1 r_1.2.2.2.2.1 r_1.2.2.2.2.2.1 r_1.2.2.2.2.2.2.1 r_1.2.2.2.2.2.2.2.1 r_1.2.2.2.2.2.2.2.2.1 r_1.2.2.2.2.2.2.2.2.2 M_newTurns M_newMany M_lineHeight M_lineLeft M_lineRight M_lines)) C hK hP hD hS hA (mX7_flows l dC dI cI cJ cZ hcr_1 _) (cwV 0 hts gvX7_trees_X7_flows rfl rfl rfl (by decide +kernel) ⟨Nat.le_of_ble_eq_true rfl, Nat.le_of_ble_eq_true rfl⟩) [0, 1, 2, 3, 4, 5, 6, 7, 8, 9, 10, 11, 12, 13, 14, 15, 16, 17, 18, 19, 20, 21, 22, 23, 24, 25, 26, 27] [] [0, 1, 2, 3, 4, 5, 6, 7, 8, 9, 10, 11, 12, 13, 14, 15, 16, 17, 18, 19, 20, 21, 22, 23, 24, 25, 26, 27] rfl (by decide) rfl (by decide) (by decide) rfl (by decide) 0 7 rfl rfl rfl hl.1 rfl (Nat.le_of_ble_eq_true rfl) ⟨Nat.le_of_ble_eq_true rfl, Nat.le_of_ble_eq_true rfl⟩ dX7_trees_1 (fun H locs hP hD hS => ?_)
  refine lv_if_eq (tgt := 14) hx hb dX7_trees_4 (by decide) (fun c_2 => ?_) (fun c_2 => ?_)
  · replace h := dk_it c_2 h
    refine lv_ldc2 (v := (-2000000000)) hx hb hown (hts _ qX7_trees_k213) dX7_trees_14 ?_
    have e9 := Option.some.inj h
    subst e9
    exact dk_lret C hK hP hD hS rfl dX7_trees_17
  · replace h := dk_ie c_2 h
    refine lv_aload_n hx hb dX7_trees_7 rfl (lv_at hl 0 rfl) ?_
    refine va_get (D := (dC, dI)) (ci := 7) (v := .long r_1.2.2.2.2.2.2.2.1) (C := RX7) (T := TX7) (N := 40) hx hb hts qX7_trees_X7 hown hK hP 0 rfl rfl 31 (by decide) (hts _ qX7_trees_f171) (fun _ h9 => h9) rfl dX7_trees_8 ?_
    refine lv_goto (tgt := 17) hx hb dX7_trees_11 (by decide) ?_
    have e9 := Option.some.inj h
    subst e9
    exact dk_lret C hK hP hD hS rfl dX7_trees_17
/-! ===== SquareTilerModel.current ===== -/
abbrev rX7_current : Room := { frames := 5, cells := 0, slots := 0, locals := 117 }
def ovX7_current : List Cond := [Cond.constant RX7 107 (-2000000000), Cond.fieldLink RX7 76 "SquareTilerModel" "currents" "[I", Cond.methodLink RX7 210 yX7_flows, Cond.instanceMethod yX7_flows, Cond.selects RX7 yX7_flows yX7_flows, Cond.initialized RX7, Cond.methodLink RX7 112 yX7_isWire, Cond.instanceMethod yX7_isWire, Cond.selects RX7 yX7_isWire yX7_isWire]
def vsX7_current : List Cond := .code yX7_current cX7_current 2 (some .int) :: (ovX7_current ++ (wsX70 ++ (vsX7_flows ++ (vsX7_isWire ++ []))))
theorem qX7_current_k107 : Cond.constant RX7 107 (-2000000000) ∈ vsX7_current := List.mem_cons_of_mem _ (List.mem_append_left _ (List.mem_of_getElem? (i := 0) rfl))
theorem qX7_current_f76 : Cond.fieldLink RX7 76 "SquareTilerModel" "currents" "[I" ∈ vsX7_current := List.mem_cons_of_mem _ (List.mem_append_left _ (List.mem_of_getElem? (i := 1) rfl))
theorem qX7_current_w2 : Cond.methodLink RX7 210 yX7_flows ∈ vsX7_current := List.mem_cons_of_mem _ (List.mem_append_left _ (List.mem_of_getElem? (i := 2) rfl))
theorem qX7_current_w3 : Cond.instanceMethod yX7_flows ∈ vsX7_current := List.mem_cons_of_mem _ (List.mem_append_left _ (List.mem_of_getElem? (i := 3) rfl))
theorem qX7_current_w4 : Cond.selects RX7 yX7_flows yX7_flows ∈ vsX7_current := List.mem_cons_of_mem _ (List.mem_append_left _ (List.mem_of_getElem? (i := 4) rfl))
theorem qX7_current_w5 : Cond.initialized RX7 ∈ vsX7_current := List.mem_cons_of_mem _ (List.mem_append_left _ (List.mem_of_getElem? (i := 5) rfl))
theorem qX7_current_w6 : Cond.methodLink RX7 112 yX7_isWire ∈ vsX7_current := List.mem_cons_of_mem _ (List.mem_append_left _ (List.mem_of_getElem? (i := 6) rfl))
theorem qX7_current_w7 : Cond.instanceMethod yX7_isWire ∈ vsX7_current := List.mem_cons_of_mem _ (List.mem_append_left _ (List.mem_of_getElem? (i := 7) rfl))
theorem qX7_current_w8 : Cond.selects RX7 yX7_isWire yX7_isWire ∈ vsX7_current := List.mem_cons_of_mem _ (List.mem_append_left _ (List.mem_of_getElem? (i := 8) rfl))
theorem qX7_current_X7 : ∀ w ∈ u_ws RX7 TX7 40, w ∈ vsX7_current := fun w h => List.mem_cons_of_mem _ (List.mem_append_right _ (List.mem_append_left _ h))
theorem gd_vsX7_current : ∀ w ∈ vsX7_current, goodWord w = true := dk_cons rfl (dk_app (dk_all (by decide +kernel)) (dk_app gd_wsX70 (dk_app gd_vsX7_flows (dk_app gd_vsX7_isWire dk_nil))))
theorem gvX7_current_X7_flows : GoodIn vsX7_current (wsV RX7 210 RX7 yX7_flows vsX7_flows) := goodIn_app (dk_g4 qX7_current_w2 qX7_current_w3 qX7_current_w4 qX7_current_w5 rfl) (dk_gIn (fun w h => List.mem_cons_of_mem _ (List.mem_append_right _ (List.mem_append_right _ (List.mem_append_left _ h)))) gd_vsX7_flows)
theorem gvX7_current_X7_isWire : GoodIn vsX7_current (wsV RX7 112 RX7 yX7_isWire vsX7_isWire) := goodIn_app (dk_g4 qX7_current_w6 qX7_current_w7 qX7_current_w8 qX7_current_w5 rfl) (dk_gIn (fun w h => List.mem_cons_of_mem _ (List.mem_append_right _ (List.mem_append_right _ (List.mem_append_right _ (List.mem_append_left _ h))))) gd_vsX7_isWire)
def fX7_current (M_knots M_wires M_battery : Int32) (M_first M_second M_isCut M_turns M_turnMany M_faceOf : Nat → Int32) (M_faceMany : Int32) (M_table : Nat → Int64) (M_heights M_currents M_places : Nat → Int32) (M_treeMany : Int64) (M_wide M_high x1 : Int32) : Option (Int32 × (Nat → Int32) × Int32 × (Nat → Int64) × (Nat → Int32) × (Nat → Int32) × (Nat → Int32) × Int64 × Int32 × Int32) := dk_bnd (fX7_flows M_knots M_wires M_battery M_first M_second M_isCut M_turns M_turnMany M_faceOf M_faceMany M_table M_heights M_currents M_places M_treeMany M_wide M_high) (fun r_1 => if r_1.1 = 0 then some ((-2000000000), r_1.2.1, r_1.2.2.1, r_1.2.2.2.1, r_1.2.2.2.2.1, r_1.2.2.2.2.2.1, r_1.2.2.2.2.2.2.1, r_1.2.2.2.2.2.2.2.1, r_1.2.2.2.2.2.2.2.2.1, r_1.2.2.2.2.2.2.2.2.2) else dk_bnd (fX7_isWire M_wires x1) (fun r_3 => if r_3 = 0 then some ((-2000000000), r_1.2.1, r_1.2.2.1, r_1.2.2.2.1, r_1.2.2.2.2.1, r_1.2.2.2.2.2.1, r_1.2.2.2.2.2.2.1, r_1.2.2.2.2.2.2.2.1, r_1.2.2.2.2.2.2.2.2.1, r_1.2.2.2.2.2.2.2.2.2) else dk_gd (dk_in x1 22) (some ((r_1.2.2.2.2.2.1 x1.toNatClampNeg), r_1.2.1, r_1.2.2.1, r_1.2.2.2.1, r_1.2.2.2.2.1, r_1.2.2.2.2.2.1, r_1.2.2.2.2.2.2.1, r_1.2.2.2.2.2.2.2.1, r_1.2.2.2.2.2.2.2.2.1, r_1.2.2.2.2.2.2.2.2.2))))
section
variable {p : Program} {l : Launch} {e : Env} {s : State} {m : MethodId} {args : Array Value} {below : List Frame} {meth : Method} {c : Code} {dC : Nat → ClassId} {dI : Nat → Nat → Nat} {cI cJ cZ : ClassId} {A : Nat → Prop} {oM : Nat} {aM : Nat → Nat} {M_knots M_wires M_battery : Int32} {M_first M_second M_isCut M_turns M_turnMany M_wireClaim M_knotClaim : Nat → Int32} {M_hasKept M_keptKnots M_keptWires M_keptBattery : Int32} {M_keptFirst M_keptSecond M_keptTurns M_keptMany M_keptWire M_keptKnot M_keptCut : Nat → Int32} {M_told : Int32} {M_left M_low M_side M_faceOf : Nat → Int32} {M_faceMany : Int32} {M_table : Nat → Int64} {M_heights M_currents M_places : Nat → Int32} {M_treeMany : Int64} {M_wide M_high : Int32} {M_newTurns M_newMany M_lineHeight M_lineLeft M_lineRight : Nat → Int32} {M_lines : Int32}
end
set_option maxHeartbeats 4000000 in
set_option maxRecDepth 100000 in
theorem mX7_current (l : Launch) (dC : Nat → ClassId) (dI : Nat → Nat → Nat) (cI cJ cZ : ClassId) {oM : Nat} {aM : Nat → Nat} {M_knots M_wires M_battery : Int32} {M_first M_second M_isCut M_turns M_turnMany M_wireClaim M_knotClaim : Nat → Int32} {M_hasKept M_keptKnots M_keptWires M_keptBattery : Int32} {M_keptFirst M_keptSecond M_keptTurns M_keptMany M_keptWire M_keptKnot M_keptCut : Nat → Int32} {M_told : Int32} {M_left M_low M_side M_faceOf : Nat → Int32} {M_faceMany : Int32} {M_table : Nat → Int64} {M_heights M_currents M_places : Nat → Int32} {M_treeMany : Int64} {M_wide M_high : Int32} {M_newTurns M_newMany M_lineHeight M_lineLeft M_lineRight : Nat → Int32} {M_lines : Int32} {x1 : Int32} {out : Int32 × (Nat → Int32) × Int32 × (Nat → Int64) × (Nat → Int32) × (Nat → Int32) × (Nat → Int32) × Int64 × Int32 × Int32} (h : fX7_current M_knots M_wires M_battery M_first M_second M_isCut M_turns M_turnMany M_faceOf M_faceMany M_table M_heights M_currents M_places M_treeMany M_wide M_high x1 = some out) (sz : Nat) : Met l yX7_current vsX7_current rX7_current (va_Pc [.ref oM, .int x1] (dk_Pre (dC, dI) (dk_ty cI cJ cZ) (wX7 oM aM cI cJ cZ M_knots M_wires M_battery M_first M_second M_isCut M_turns M_turnMany M_wireClaim M_knotClaim M_hasKept M_keptKnots M_keptWires M_keptBattery M_keptFirst M_keptSecond M_keptTurns M_keptMany M_keptWire M_keptKnot M_keptCut M_told M_left M_low M_side M_faceOf M_faceMany M_table M_heights M_currents M_places M_treeMany M_wide M_high M_newTurns M_newMany M_lineHeight M_lineLeft M_lineRight M_lines) sz)) (dk_Qi (dC, dI) (dk_ty cI cJ cZ) (wX7 oM aM cI cJ cZ M_knots M_wires M_battery M_first M_second M_isCut M_turns M_turnMany M_wireClaim M_knotClaim M_hasKept M_keptKnots M_keptWires M_keptBattery M_keptFirst M_keptSecond M_keptTurns M_keptMany M_keptWire M_keptKnot M_keptCut M_told M_left M_low M_side out.2.1 out.2.2.1 out.2.2.2.1 out.2.2.2.2.1 out.2.2.2.2.2.1 out.2.2.2.2.2.2.1 out.2.2.2.2.2.2.2.1 out.2.2.2.2.2.2.2.2.1 out.2.2.2.2.2.2.2.2.2 M_newTurns M_newMany M_lineHeight M_lineLeft M_lineRight M_lines) out.1 (va_A (wX7 oM aM cI cJ cZ M_knots M_wires M_battery M_first M_second M_isCut M_turns M_turnMany M_wireClaim M_knotClaim M_hasKept M_keptKnots M_keptWires M_keptBattery M_keptFirst M_keptSecond M_keptTurns M_keptMany M_keptWire M_keptKnot M_keptCut M_told M_left M_low M_side M_faceOf M_faceMany M_table M_heights M_currents M_places M_treeMany M_wide M_high M_newTurns M_newMany M_lineHeight M_lineLeft M_lineRight M_lines) sz)) 0 0 (va_A (wX7 oM aM cI cJ cZ M_knots M_wires M_battery M_first M_second M_isCut M_turns M_turnMany M_wireClaim M_knotClaim M_hasKept M_keptKnots M_keptWires M_keptBattery M_keptFirst M_keptSecond M_keptTurns M_keptMany M_keptWire M_keptKnot M_keptCut M_told M_left M_low M_side M_faceOf M_faceMany M_table M_heights M_currents M_places M_treeMany M_wide M_high M_newTurns M_newMany M_lineHeight M_lineLeft M_lineRight M_lines) sz) := by
  refine dk_met (cc := cX7_current) (maxL := 2) (ret := (some .int)) (Qc := fun A => dk_Qi (dC, dI) (dk_ty cI cJ cZ) (wX7 oM aM cI cJ cZ M_knots M_wires M_battery M_first M_second M_isCut M_turns M_turnMany M_wireClaim M_knotClaim M_hasKept M_keptKnots M_keptWires M_keptBattery M_keptFirst M_keptSecond M_keptTurns M_keptMany M_keptWire M_keptKnot M_keptCut M_told M_left M_low M_side out.2.1 out.2.2.1 out.2.2.2.1 out.2.2.2.2.1 out.2.2.2.2.2.1 out.2.2.2.2.2.2.1 out.2.2.2.2.2.2.2.1 out.2.2.2.2.2.2.2.2.1 out.2.2.2.2.2.2.2.2.2 M_newTurns M_newMany M_lineHeight M_lineLeft M_lineRight M_lines) out.1 A) (by decide) rfl (Nat.le_of_ble_eq_true rfl) ?_
  intro p e s m below meth c A C hnm hA hK hP hD hS ls hl
  have C : dk_C p s m meth c _ cX7_current (some .int) 2 RX7 vsX7_current := C
  obtain ⟨hx, hb, hr, hml, hown, hts, hlocks⟩ := id C
  have hl : lv_has ls 2 [(0, .ref oM), (1, .int x1)] := hl
  unfold fX7_current at h
  refine lv_aload_n hx hb dX7_current_0 rfl (lv_at hl 0 rfl) ?_
  obtain ⟨r_1, hcr_1, h⟩ := dk_bnd_to h
  refine dk_cVi (b := oM) (As := []) (rest := []) (wc := (wX7 oM aM cI cJ cZ M_knots M_wires M_battery M_first M_second M_isCut M_turns M_turnMany M_wireClaim M_knotClaim M_hasKept M_keptKnots M_keptWires M_keptBattery M_keptFirst M_keptSecond M_keptTurns M_keptMany M_keptWire M_keptKnot M_keptCut M_told M_left M_low M_side M_faceOf M_faceMany M_table M_heights M_currents M_places M_treeMany M_wide M_high M_newTurns M_newMany M_lineHeight M_lineLeft M_lineRight M_lines)) (wc' := (wX7 oM aM cI cJ cZ M_knots M_wires M_battery M_first M_second M_isCut M_turns M_turnMany M_wireClaim M_knotClaim M_hasKept M_keptKnots M_keptWires M_keptBattery M_keptFirst M_keptSecond M_keptTurns M_keptMany M_keptWire M_keptKnot M_keptCut M_told M_left M_low M_side r_1.2.1 r_1.2.2.1 r_1.2.2.2.1 r_1.2.2.2.2.1 r_1.2.2.2.2.2.1 r_1.2.2.2.2.2.2.1 r_1.2.2.2.2.2.2.2.1 r_1.2.2.2.2.2.2.2.2.1 r_1.2.2.2.2.2.2.2.2.2 M_newTurns M_newMany M_lineHeight M_lineLeft M_lineRight M_lines)) (wr := []) (ws' := (wX7 oM aM cI cJ cZ M_knots M_wires M_battery M_first M_second M_isCut M_turns M_turnMany M_wireClaim M_knotClaim M_hasKept M_keptKnots M_keptWires M_keptBattery M_keptFirst M_keptSecond M_keptTurns M_keptMany M_keptWire M_keptKnot M_keptCut M_told M_left M_low M_side r_1.2.1 r_1.2.2.1 r_1.2.2.2.1 r_1.2.2.2.2.1 r_1.2.2.2.2.2.1 r_1.2.2.2.2.2.2.1 r_1.2.2.2.2.2.2.2.1 r_1.2.2.2.2.2.2.2.2.1 r_1.2.2.2.2.2.2.2.2.2 M_newTurns M_newMany M_lineHeight M_lineLeft M_lineRight M_lines)) C hK hP hD hS hA (mX7_flows l dC dI cI cJ cZ hcr_1 _) (cwV 0 hts gvX7_current_X7_flows rfl rfl rfl (by decide +kernel) ⟨Nat.le_of_ble_eq_true rfl, Nat.le_of_ble_eq_true rfl⟩) [0, 1, 2, 3, 4, 5, 6, 7, 8, 9, 10, 11, 12, 13, 14, 15, 16, 17, 18, 19, 20, 21, 22, 23, 24, 25, 26, 27] [] [0, 1, 2, 3, 4, 5, 6, 7, 8, 9, 10, 11, 12, 13, 14, 15, 16, 17, 18, 19, 20, 21, 22, 23, 24, 25, 26, 27] rfl (by decide) rfl (by decide) (by decide) rfl (by decide) 0 7 rfl rfl rfl hl.1 rfl (Nat.le_of_ble_eq_true rfl) ⟨Nat.le_of_ble_eq_true rfl, Nat.le_of_ble_eq_true rfl⟩ dX7_current_1 (fun H locs hP hD hS => ?_)
  refine lv_if_eq (tgt := 24) hx hb dX7_current_4 (by decide) (fun c_2 => ?_) (fun c_2 => ?_)
  · replace h := dk_it c_2 h
    refine lv_ldc (v := (-2000000000)) hx hb hown (hts _ qX7_current_k107) dX7_current_24 ?_
    have e9 := Option.some.inj h
    subst e9
    exact dk_iret C hK hP hD hS rfl dX7_current_26
  · replace h := dk_ie c_2 h
    refine lv_aload_n hx hb dX7_current_7 rfl (lv_at hl 0 rfl) ?_
    refine lv_iload_n hx hb dX7_current_8 rfl (lv_at hl 1 rfl) ?_
    obtain ⟨r_3, hcr_3, h⟩ := dk_bnd_to h
    refine dk_rVi (b := oM) (As := [.int x1]) (rest := []) (wc := (wX7 oM aM cI cJ cZ M_knots M_wires M_battery M_first M_second M_isCut M_turns M_turnMany M_wireClaim M_knotClaim M_hasKept M_keptKnots M_keptWires M_keptBattery M_keptFirst M_keptSecond M_keptTurns M_keptMany M_keptWire M_keptKnot M_keptCut M_told M_left M_low M_side r_1.2.1 r_1.2.2.1 r_1.2.2.2.1 r_1.2.2.2.2.1 r_1.2.2.2.2.2.1 r_1.2.2.2.2.2.2.1 r_1.2.2.2.2.2.2.2.1 r_1.2.2.2.2.2.2.2.2.1 r_1.2.2.2.2.2.2.2.2.2 M_newTurns M_newMany M_lineHeight M_lineLeft M_lineRight M_lines)) C hK hP hD hS hA (mX7_isWire l dC dI cI cJ cZ hcr_3 _) (cwV 1 hts gvX7_current_X7_isWire rfl rfl rfl (by decide +kernel) ⟨Nat.le_of_ble_eq_true rfl, Nat.le_of_ble_eq_true rfl⟩) [0, 1, 2, 3, 4, 5, 6, 7, 8, 9, 10, 11, 12, 13, 14, 15, 16, 17, 18, 19, 20, 21, 22, 23, 24, 25, 26, 27] rfl (by decide) 0 7 rfl rfl rfl hl.1 rfl (Nat.le_of_ble_eq_true rfl) ⟨Nat.le_of_ble_eq_true rfl, Nat.le_of_ble_eq_true rfl⟩ dX7_current_9 (fun H locs hP hD hS => ?_)
    refine lv_if_eq (tgt := 24) hx hb dX7_current_12 (by decide) (fun c_4 => ?_) (fun c_4 => ?_)
    · replace h := dk_it c_4 h
      refine lv_ldc (v := (-2000000000)) hx hb hown (hts _ qX7_current_k107) dX7_current_24 ?_
      have e9 := Option.some.inj h
      subst e9
      exact dk_iret C hK hP hD hS rfl dX7_current_26
    · replace h := dk_ie c_4 h
      refine lv_aload_n hx hb dX7_current_15 rfl (lv_at hl 0 rfl) ?_
      refine va_get (D := (dC, dI)) (ci := 7) (v := .ref (aM 29)) (C := RX7) (T := TX7) (N := 40) hx hb hts qX7_current_X7 hown hK hP 0 rfl rfl 29 (by decide) (hts _ qX7_current_f76) (fun _ h9 => h9) rfl dX7_current_16 ?_
      refine lv_iload_n hx hb dX7_current_19 rfl (lv_at hl 1 rfl) ?_
      obtain ⟨g_5, h⟩ := dk_gd_to h
      have g_5 := dk_in_to g_5
      refine va_iald hx hb hK hP 21 0 rfl rfl g_5 dX7_current_20 ?_
      refine lv_goto (tgt := 26) hx hb dX7_current_21 (by decide) ?_
      have e9 := Option.some.inj h
      subst e9
      exact dk_iret C hK hP hD hS rfl dX7_current_26
/-! ===== SquareTilerModel.height ===== -/
abbrev rX7_height : Room := { frames := 5, cells := 0, slots := 0, locals := 117 }
def ovX7_height : List Cond := [Cond.constant RX7 107 (-2000000000), Cond.fieldLink RX7 73 "SquareTilerModel" "heights" "[I", Cond.methodLink RX7 210 yX7_flows, Cond.instanceMethod yX7_flows, Cond.selects RX7 yX7_flows yX7_flows, Cond.initialized RX7, Cond.methodLink RX7 108 yX7_isKnot, Cond.instanceMethod yX7_isKnot, Cond.selects RX7 yX7_isKnot yX7_isKnot]
def vsX7_height : List Cond := .code yX7_height cX7_height 2 (some .int) :: (ovX7_height ++ (wsX70 ++ (vsX7_flows ++ (vsX7_isKnot ++ []))))
theorem qX7_height_k107 : Cond.constant RX7 107 (-2000000000) ∈ vsX7_height := List.mem_cons_of_mem _ (List.mem_append_left _ (List.mem_of_getElem? (i := 0) rfl))
theorem qX7_height_f73 : Cond.fieldLink RX7 73 "SquareTilerModel" "heights" "[I" ∈ vsX7_height := List.mem_cons_of_mem _ (List.mem_append_left _ (List.mem_of_getElem? (i := 1) rfl))
theorem qX7_height_w2 : Cond.methodLink RX7 210 yX7_flows ∈ vsX7_height := List.mem_cons_of_mem _ (List.mem_append_left _ (List.mem_of_getElem? (i := 2) rfl))
theorem qX7_height_w3 : Cond.instanceMethod yX7_flows ∈ vsX7_height := List.mem_cons_of_mem _ (List.mem_append_left _ (List.mem_of_getElem? (i := 3) rfl))
theorem qX7_height_w4 : Cond.selects RX7 yX7_flows yX7_flows ∈ vsX7_height := List.mem_cons_of_mem _ (List.mem_append_left _ (List.mem_of_getElem? (i := 4) rfl))
theorem qX7_height_w5 : Cond.initialized RX7 ∈ vsX7_height := List.mem_cons_of_mem _ (List.mem_append_left _ (List.mem_of_getElem? (i := 5) rfl))
theorem qX7_height_w6 : Cond.methodLink RX7 108 yX7_isKnot ∈ vsX7_height := List.mem_cons_of_mem _ (List.mem_append_left _ (List.mem_of_getElem? (i := 6) rfl))
theorem qX7_height_w7 : Cond.instanceMethod yX7_isKnot ∈ vsX7_height := List.mem_cons_of_mem _ (List.mem_append_left _ (List.mem_of_getElem? (i := 7) rfl))
theorem qX7_height_w8 : Cond.selects RX7 yX7_isKnot yX7_isKnot ∈ vsX7_height := List.mem_cons_of_mem _ (List.mem_append_left _ (List.mem_of_getElem? (i := 8) rfl))
theorem qX7_height_X7 : ∀ w ∈ u_ws RX7 TX7 40, w ∈ vsX7_height := fun w h => List.mem_cons_of_mem _ (List.mem_append_right _ (List.mem_append_left _ h))
theorem gd_vsX7_height : ∀ w ∈ vsX7_height, goodWord w = true := dk_cons rfl (dk_app (dk_all (by decide +kernel)) (dk_app gd_wsX70 (dk_app gd_vsX7_flows (dk_app gd_vsX7_isKnot dk_nil))))
theorem gvX7_height_X7_flows : GoodIn vsX7_height (wsV RX7 210 RX7 yX7_flows vsX7_flows) := goodIn_app (dk_g4 qX7_height_w2 qX7_height_w3 qX7_height_w4 qX7_height_w5 rfl) (dk_gIn (fun w h => List.mem_cons_of_mem _ (List.mem_append_right _ (List.mem_append_right _ (List.mem_append_left _ h)))) gd_vsX7_flows)
theorem gvX7_height_X7_isKnot : GoodIn vsX7_height (wsV RX7 108 RX7 yX7_isKnot vsX7_isKnot) := goodIn_app (dk_g4 qX7_height_w6 qX7_height_w7 qX7_height_w8 qX7_height_w5 rfl) (dk_gIn (fun w h => List.mem_cons_of_mem _ (List.mem_append_right _ (List.mem_append_right _ (List.mem_append_right _ (List.mem_append_left _ h))))) gd_vsX7_isKnot)
def fX7_height (M_knots M_wires M_battery : Int32) (M_first M_second M_isCut M_turns M_turnMany M_faceOf : Nat → Int32) (M_faceMany : Int32) (M_table : Nat → Int64) (M_heights M_currents M_places : Nat → Int32) (M_treeMany : Int64) (M_wide M_high x1 : Int32) : Option (Int32 × (Nat → Int32) × Int32 × (Nat → Int64) × (Nat → Int32) × (Nat → Int32) × (Nat → Int32) × Int64 × Int32 × Int32) := dk_bnd (fX7_flows M_knots M_wires M_battery M_first M_second M_isCut M_turns M_turnMany M_faceOf M_faceMany M_table M_heights M_currents M_places M_treeMany M_wide M_high) (fun r_1 => if r_1.1 = 0 then some ((-2000000000), r_1.2.1, r_1.2.2.1, r_1.2.2.2.1, r_1.2.2.2.2.1, r_1.2.2.2.2.2.1, r_1.2.2.2.2.2.2.1, r_1.2.2.2.2.2.2.2.1, r_1.2.2.2.2.2.2.2.2.1, r_1.2.2.2.2.2.2.2.2.2) else dk_bnd (fX7_isKnot M_knots x1) (fun r_3 => if r_3 = 0 then some ((-2000000000), r_1.2.1, r_1.2.2.1, r_1.2.2.2.1, r_1.2.2.2.2.1, r_1.2.2.2.2.2.1, r_1.2.2.2.2.2.2.1, r_1.2.2.2.2.2.2.2.1, r_1.2.2.2.2.2.2.2.2.1, r_1.2.2.2.2.2.2.2.2.2) else dk_gd (dk_in x1 12) (some ((r_1.2.2.2.2.1 x1.toNatClampNeg), r_1.2.1, r_1.2.2.1, r_1.2.2.2.1, r_1.2.2.2.2.1, r_1.2.2.2.2.2.1, r_1.2.2.2.2.2.2.1, r_1.2.2.2.2.2.2.2.1, r_1.2.2.2.2.2.2.2.2.1, r_1.2.2.2.2.2.2.2.2.2))))
section
variable {p : Program} {l : Launch} {e : Env} {s : State} {m : MethodId} {args : Array Value} {below : List Frame} {meth : Method} {c : Code} {dC : Nat → ClassId} {dI : Nat → Nat → Nat} {cI cJ cZ : ClassId} {A : Nat → Prop} {oM : Nat} {aM : Nat → Nat} {M_knots M_wires M_battery : Int32} {M_first M_second M_isCut M_turns M_turnMany M_wireClaim M_knotClaim : Nat → Int32} {M_hasKept M_keptKnots M_keptWires M_keptBattery : Int32} {M_keptFirst M_keptSecond M_keptTurns M_keptMany M_keptWire M_keptKnot M_keptCut : Nat → Int32} {M_told : Int32} {M_left M_low M_side M_faceOf : Nat → Int32} {M_faceMany : Int32} {M_table : Nat → Int64} {M_heights M_currents M_places : Nat → Int32} {M_treeMany : Int64} {M_wide M_high : Int32} {M_newTurns M_newMany M_lineHeight M_lineLeft M_lineRight : Nat → Int32} {M_lines : Int32}
end
set_option maxHeartbeats 4000000 in
set_option maxRecDepth 100000 in
theorem mX7_height (l : Launch) (dC : Nat → ClassId) (dI : Nat → Nat → Nat) (cI cJ cZ : ClassId) {oM : Nat} {aM : Nat → Nat} {M_knots M_wires M_battery : Int32} {M_first M_second M_isCut M_turns M_turnMany M_wireClaim M_knotClaim : Nat → Int32} {M_hasKept M_keptKnots M_keptWires M_keptBattery : Int32} {M_keptFirst M_keptSecond M_keptTurns M_keptMany M_keptWire M_keptKnot M_keptCut : Nat → Int32} {M_told : Int32} {M_left M_low M_side M_faceOf : Nat → Int32} {M_faceMany : Int32} {M_table : Nat → Int64} {M_heights M_currents M_places : Nat → Int32} {M_treeMany : Int64} {M_wide M_high : Int32} {M_newTurns M_newMany M_lineHeight M_lineLeft M_lineRight : Nat → Int32} {M_lines : Int32} {x1 : Int32} {out : Int32 × (Nat → Int32) × Int32 × (Nat → Int64) × (Nat → Int32) × (Nat → Int32) × (Nat → Int32) × Int64 × Int32 × Int32} (h : fX7_height M_knots M_wires M_battery M_first M_second M_isCut M_turns M_turnMany M_faceOf M_faceMany M_table M_heights M_currents M_places M_treeMany M_wide M_high x1 = some out) (sz : Nat) : Met l yX7_height vsX7_height rX7_height (va_Pc [.ref oM, .int x1] (dk_Pre (dC, dI) (dk_ty cI cJ cZ) (wX7 oM aM cI cJ cZ M_knots M_wires M_battery M_first M_second M_isCut M_turns M_turnMany M_wireClaim M_knotClaim M_hasKept M_keptKnots M_keptWires M_keptBattery M_keptFirst M_keptSecond M_keptTurns M_keptMany M_keptWire M_keptKnot M_keptCut M_told M_left M_low M_side M_faceOf M_faceMany M_table M_heights M_currents M_places M_treeMany M_wide M_high M_newTurns M_newMany M_lineHeight M_lineLeft M_lineRight M_lines) sz)) (dk_Qi (dC, dI) (dk_ty cI cJ cZ) (wX7 oM aM cI cJ cZ M_knots M_wires M_battery M_first M_second M_isCut M_turns M_turnMany M_wireClaim M_knotClaim M_hasKept M_keptKnots M_keptWires M_keptBattery M_keptFirst M_keptSecond M_keptTurns M_keptMany M_keptWire M_keptKnot M_keptCut M_told M_left M_low M_side out.2.1 out.2.2.1 out.2.2.2.1 out.2.2.2.2.1 out.2.2.2.2.2.1 out.2.2.2.2.2.2.1 out.2.2.2.2.2.2.2.1 out.2.2.2.2.2.2.2.2.1 out.2.2.2.2.2.2.2.2.2 M_newTurns M_newMany M_lineHeight M_lineLeft M_lineRight M_lines) out.1 (va_A (wX7 oM aM cI cJ cZ M_knots M_wires M_battery M_first M_second M_isCut M_turns M_turnMany M_wireClaim M_knotClaim M_hasKept M_keptKnots M_keptWires M_keptBattery M_keptFirst M_keptSecond M_keptTurns M_keptMany M_keptWire M_keptKnot M_keptCut M_told M_left M_low M_side M_faceOf M_faceMany M_table M_heights M_currents M_places M_treeMany M_wide M_high M_newTurns M_newMany M_lineHeight M_lineLeft M_lineRight M_lines) sz)) 0 0 (va_A (wX7 oM aM cI cJ cZ M_knots M_wires M_battery M_first M_second M_isCut M_turns M_turnMany M_wireClaim M_knotClaim M_hasKept M_keptKnots M_keptWires M_keptBattery M_keptFirst M_keptSecond M_keptTurns M_keptMany M_keptWire M_keptKnot M_keptCut M_told M_left M_low M_side M_faceOf M_faceMany M_table M_heights M_currents M_places M_treeMany M_wide M_high M_newTurns M_newMany M_lineHeight M_lineLeft M_lineRight M_lines) sz) := by
  refine dk_met (cc := cX7_height) (maxL := 2) (ret := (some .int)) (Qc := fun A => dk_Qi (dC, dI) (dk_ty cI cJ cZ) (wX7 oM aM cI cJ cZ M_knots M_wires M_battery M_first M_second M_isCut M_turns M_turnMany M_wireClaim M_knotClaim M_hasKept M_keptKnots M_keptWires M_keptBattery M_keptFirst M_keptSecond M_keptTurns M_keptMany M_keptWire M_keptKnot M_keptCut M_told M_left M_low M_side out.2.1 out.2.2.1 out.2.2.2.1 out.2.2.2.2.1 out.2.2.2.2.2.1 out.2.2.2.2.2.2.1 out.2.2.2.2.2.2.2.1 out.2.2.2.2.2.2.2.2.1 out.2.2.2.2.2.2.2.2.2 M_newTurns M_newMany M_lineHeight M_lineLeft M_lineRight M_lines) out.1 A) (by decide) rfl (Nat.le_of_ble_eq_true rfl) ?_
  intro p e s m below meth c A C hnm hA hK hP hD hS ls hl
  have C : dk_C p s m meth c _ cX7_height (some .int) 2 RX7 vsX7_height := C
  obtain ⟨hx, hb, hr, hml, hown, hts, hlocks⟩ := id C
  have hl : lv_has ls 2 [(0, .ref oM), (1, .int x1)] := hl
  unfold fX7_height at h
  refine lv_aload_n hx hb dX7_height_0 rfl (lv_at hl 0 rfl) ?_
  obtain ⟨r_1, hcr_1, h⟩ := dk_bnd_to h
  refine dk_cVi (b := oM) (As := []) (rest := []) (wc := (wX7 oM aM cI cJ cZ M_knots M_wires M_battery M_first M_second M_isCut M_turns M_turnMany M_wireClaim M_knotClaim M_hasKept M_keptKnots M_keptWires M_keptBattery M_keptFirst M_keptSecond M_keptTurns M_keptMany M_keptWire M_keptKnot M_keptCut M_told M_left M_low M_side M_faceOf M_faceMany M_table M_heights M_currents M_places M_treeMany M_wide M_high M_newTurns M_newMany M_lineHeight M_lineLeft M_lineRight M_lines)) (wc' := (wX7 oM aM cI cJ cZ M_knots M_wires M_battery M_first M_second M_isCut M_turns M_turnMany M_wireClaim M_knotClaim M_hasKept M_keptKnots M_keptWires M_keptBattery M_keptFirst M_keptSecond M_keptTurns M_keptMany M_keptWire M_keptKnot M_keptCut M_told M_left M_low M_side r_1.2.1 r_1.2.2.1 r_1.2.2.2.1 r_1.2.2.2.2.1 r_1.2.2.2.2.2.1 r_1.2.2.2.2.2.2.1 r_1.2.2.2.2.2.2.2.1 r_1.2.2.2.2.2.2.2.2.1 r_1.2.2.2.2.2.2.2.2.2 M_newTurns M_newMany M_lineHeight M_lineLeft M_lineRight M_lines)) (wr := []) (ws' := (wX7 oM aM cI cJ cZ M_knots M_wires M_battery M_first M_second M_isCut M_turns M_turnMany M_wireClaim M_knotClaim M_hasKept M_keptKnots M_keptWires M_keptBattery M_keptFirst M_keptSecond M_keptTurns M_keptMany M_keptWire M_keptKnot M_keptCut M_told M_left M_low M_side r_1.2.1 r_1.2.2.1 r_1.2.2.2.1 r_1.2.2.2.2.1 r_1.2.2.2.2.2.1 r_1.2.2.2.2.2.2.1 r_1.2.2.2.2.2.2.2.1 r_1.2.2.2.2.2.2.2.2.1 r_1.2.2.2.2.2.2.2.2.2 M_newTurns M_newMany M_lineHeight M_lineLeft M_lineRight M_lines)) C hK hP hD hS hA (mX7_flows l dC dI cI cJ cZ hcr_1 _) (cwV 0 hts gvX7_height_X7_flows rfl rfl rfl (by decide +kernel) ⟨Nat.le_of_ble_eq_true rfl, Nat.le_of_ble_eq_true rfl⟩) [0, 1, 2, 3, 4, 5, 6, 7, 8, 9, 10, 11, 12, 13, 14, 15, 16, 17, 18, 19, 20, 21, 22, 23, 24, 25, 26, 27] [] [0, 1, 2, 3, 4, 5, 6, 7, 8, 9, 10, 11, 12, 13, 14, 15, 16, 17, 18, 19, 20, 21, 22, 23, 24, 25, 26, 27] rfl (by decide) rfl (by decide) (by decide) rfl (by decide) 0 7 rfl rfl rfl hl.1 rfl (Nat.le_of_ble_eq_true rfl) ⟨Nat.le_of_ble_eq_true rfl, Nat.le_of_ble_eq_true rfl⟩ dX7_height_1 (fun H locs hP hD hS => ?_)
  refine lv_if_eq (tgt := 24) hx hb dX7_height_4 (by decide) (fun c_2 => ?_) (fun c_2 => ?_)
  · replace h := dk_it c_2 h
    refine lv_ldc (v := (-2000000000)) hx hb hown (hts _ qX7_height_k107) dX7_height_24 ?_
    have e9 := Option.some.inj h
    subst e9
    exact dk_iret C hK hP hD hS rfl dX7_height_26
  · replace h := dk_ie c_2 h
    refine lv_aload_n hx hb dX7_height_7 rfl (lv_at hl 0 rfl) ?_
    refine lv_iload_n hx hb dX7_height_8 rfl (lv_at hl 1 rfl) ?_
    obtain ⟨r_3, hcr_3, h⟩ := dk_bnd_to h
    refine dk_rVi (b := oM) (As := [.int x1]) (rest := []) (wc := (wX7 oM aM cI cJ cZ M_knots M_wires M_battery M_first M_second M_isCut M_turns M_turnMany M_wireClaim M_knotClaim M_hasKept M_keptKnots M_keptWires M_keptBattery M_keptFirst M_keptSecond M_keptTurns M_keptMany M_keptWire M_keptKnot M_keptCut M_told M_left M_low M_side r_1.2.1 r_1.2.2.1 r_1.2.2.2.1 r_1.2.2.2.2.1 r_1.2.2.2.2.2.1 r_1.2.2.2.2.2.2.1 r_1.2.2.2.2.2.2.2.1 r_1.2.2.2.2.2.2.2.2.1 r_1.2.2.2.2.2.2.2.2.2 M_newTurns M_newMany M_lineHeight M_lineLeft M_lineRight M_lines)) C hK hP hD hS hA (mX7_isKnot l dC dI cI cJ cZ hcr_3 _) (cwV 1 hts gvX7_height_X7_isKnot rfl rfl rfl (by decide +kernel) ⟨Nat.le_of_ble_eq_true rfl, Nat.le_of_ble_eq_true rfl⟩) [0, 1, 2, 3, 4, 5, 6, 7, 8, 9, 10, 11, 12, 13, 14, 15, 16, 17, 18, 19, 20, 21, 22, 23, 24, 25, 26, 27] rfl (by decide) 0 7 rfl rfl rfl hl.1 rfl (Nat.le_of_ble_eq_true rfl) ⟨Nat.le_of_ble_eq_true rfl, Nat.le_of_ble_eq_true rfl⟩ dX7_height_9 (fun H locs hP hD hS => ?_)
    refine lv_if_eq (tgt := 24) hx hb dX7_height_12 (by decide) (fun c_4 => ?_) (fun c_4 => ?_)
    · replace h := dk_it c_4 h
      refine lv_ldc (v := (-2000000000)) hx hb hown (hts _ qX7_height_k107) dX7_height_24 ?_
      have e9 := Option.some.inj h
      subst e9
      exact dk_iret C hK hP hD hS rfl dX7_height_26
    · replace h := dk_ie c_4 h
      refine lv_aload_n hx hb dX7_height_15 rfl (lv_at hl 0 rfl) ?_
      refine va_get (D := (dC, dI)) (ci := 7) (v := .ref (aM 28)) (C := RX7) (T := TX7) (N := 40) hx hb hts qX7_height_X7 hown hK hP 0 rfl rfl 28 (by decide) (hts _ qX7_height_f73) (fun _ h9 => h9) rfl dX7_height_16 ?_
      refine lv_iload_n hx hb dX7_height_19 rfl (lv_at hl 1 rfl) ?_
      obtain ⟨g_5, h⟩ := dk_gd_to h
      have g_5 := dk_in_to g_5
      refine va_iald hx hb hK hP 20 0 rfl rfl g_5 dX7_height_20 ?_
      refine lv_goto (tgt := 26) hx hb dX7_height_21 (by decide) ?_
      have e9 := Option.some.inj h
      subst e9
      exact dk_iret C hK hP hD hS rfl dX7_height_26
/-! ===== SquareTilerModel.place ===== -/
abbrev rX7_place : Room := { frames := 5, cells := 0, slots := 0, locals := 117 }
def ovX7_place : List Cond := [Cond.constant RX7 107 (-2000000000), Cond.fieldLink RX7 136 "SquareTilerModel" "faceMany" "I", Cond.fieldLink RX7 79 "SquareTilerModel" "places" "[I", Cond.methodLink RX7 210 yX7_flows, Cond.instanceMethod yX7_flows, Cond.selects RX7 yX7_flows yX7_flows, Cond.initialized RX7, Cond.methodLink RX7 100 yX7_in, Cond.static yX7_in]
def vsX7_place : List Cond := .code yX7_place cX7_place 2 (some .int) :: (ovX7_place ++ (wsX70 ++ (vsX7_flows ++ (vsX7_in ++ []))))
theorem qX7_place_k107 : Cond.constant RX7 107 (-2000000000) ∈ vsX7_place := List.mem_cons_of_mem _ (List.mem_append_left _ (List.mem_of_getElem? (i := 0) rfl))
theorem qX7_place_f136 : Cond.fieldLink RX7 136 "SquareTilerModel" "faceMany" "I" ∈ vsX7_place := List.mem_cons_of_mem _ (List.mem_append_left _ (List.mem_of_getElem? (i := 1) rfl))
theorem qX7_place_f79 : Cond.fieldLink RX7 79 "SquareTilerModel" "places" "[I" ∈ vsX7_place := List.mem_cons_of_mem _ (List.mem_append_left _ (List.mem_of_getElem? (i := 2) rfl))
theorem qX7_place_w3 : Cond.methodLink RX7 210 yX7_flows ∈ vsX7_place := List.mem_cons_of_mem _ (List.mem_append_left _ (List.mem_of_getElem? (i := 3) rfl))
theorem qX7_place_w4 : Cond.instanceMethod yX7_flows ∈ vsX7_place := List.mem_cons_of_mem _ (List.mem_append_left _ (List.mem_of_getElem? (i := 4) rfl))
theorem qX7_place_w5 : Cond.selects RX7 yX7_flows yX7_flows ∈ vsX7_place := List.mem_cons_of_mem _ (List.mem_append_left _ (List.mem_of_getElem? (i := 5) rfl))
theorem qX7_place_w6 : Cond.initialized RX7 ∈ vsX7_place := List.mem_cons_of_mem _ (List.mem_append_left _ (List.mem_of_getElem? (i := 6) rfl))
theorem qX7_place_w7 : Cond.methodLink RX7 100 yX7_in ∈ vsX7_place := List.mem_cons_of_mem _ (List.mem_append_left _ (List.mem_of_getElem? (i := 7) rfl))
theorem qX7_place_w8 : Cond.static yX7_in ∈ vsX7_place := List.mem_cons_of_mem _ (List.mem_append_left _ (List.mem_of_getElem? (i := 8) rfl))
theorem qX7_place_X7 : ∀ w ∈ u_ws RX7 TX7 40, w ∈ vsX7_place := fun w h => List.mem_cons_of_mem _ (List.mem_append_right _ (List.mem_append_left _ h))
theorem gd_vsX7_place : ∀ w ∈ vsX7_place, goodWord w = true := dk_cons rfl (dk_app (dk_all (by decide +kernel)) (dk_app gd_wsX70 (dk_app gd_vsX7_flows (dk_app gd_vsX7_in dk_nil))))
theorem gvX7_place_X7_flows : GoodIn vsX7_place (wsV RX7 210 RX7 yX7_flows vsX7_flows) := goodIn_app (dk_g4 qX7_place_w3 qX7_place_w4 qX7_place_w5 qX7_place_w6 rfl) (dk_gIn (fun w h => List.mem_cons_of_mem _ (List.mem_append_right _ (List.mem_append_right _ (List.mem_append_left _ h)))) gd_vsX7_flows)
theorem gvX7_place_X7_in : GoodIn vsX7_place (va_wsS RX7 100 yX7_in vsX7_in) := goodIn_app (dk_g3 qX7_place_w7 qX7_place_w8 qX7_place_w6 rfl) (dk_gIn (fun w h => List.mem_cons_of_mem _ (List.mem_append_right _ (List.mem_append_right _ (List.mem_append_right _ (List.mem_append_left _ h))))) gd_vsX7_in)
def fX7_place (M_knots M_wires M_battery : Int32) (M_first M_second M_isCut M_turns M_turnMany M_faceOf : Nat → Int32) (M_faceMany : Int32) (M_table : Nat → Int64) (M_heights M_currents M_places : Nat → Int32) (M_treeMany : Int64) (M_wide M_high x1 : Int32) : Option (Int32 × (Nat → Int32) × Int32 × (Nat → Int64) × (Nat → Int32) × (Nat → Int32) × (Nat → Int32) × Int64 × Int32 × Int32) := dk_bnd (fX7_flows M_knots M_wires M_battery M_first M_second M_isCut M_turns M_turnMany M_faceOf M_faceMany M_table M_heights M_currents M_places M_treeMany M_wide M_high) (fun r_1 => if r_1.1 = 0 then some ((-2000000000), r_1.2.1, r_1.2.2.1, r_1.2.2.2.1, r_1.2.2.2.2.1, r_1.2.2.2.2.2.1, r_1.2.2.2.2.2.2.1, r_1.2.2.2.2.2.2.2.1, r_1.2.2.2.2.2.2.2.2.1, r_1.2.2.2.2.2.2.2.2.2) else dk_bnd (fX7_in x1 0 (r_1.2.2.1 - 1)) (fun r_3 => if r_3 = 0 then some ((-2000000000), r_1.2.1, r_1.2.2.1, r_1.2.2.2.1, r_1.2.2.2.2.1, r_1.2.2.2.2.2.1, r_1.2.2.2.2.2.2.1, r_1.2.2.2.2.2.2.2.1, r_1.2.2.2.2.2.2.2.2.1, r_1.2.2.2.2.2.2.2.2.2) else dk_gd (dk_in x1 24) (some ((r_1.2.2.2.2.2.2.1 x1.toNatClampNeg), r_1.2.1, r_1.2.2.1, r_1.2.2.2.1, r_1.2.2.2.2.1, r_1.2.2.2.2.2.1, r_1.2.2.2.2.2.2.1, r_1.2.2.2.2.2.2.2.1, r_1.2.2.2.2.2.2.2.2.1, r_1.2.2.2.2.2.2.2.2.2))))
section
variable {p : Program} {l : Launch} {e : Env} {s : State} {m : MethodId} {args : Array Value} {below : List Frame} {meth : Method} {c : Code} {dC : Nat → ClassId} {dI : Nat → Nat → Nat} {cI cJ cZ : ClassId} {A : Nat → Prop} {oM : Nat} {aM : Nat → Nat} {M_knots M_wires M_battery : Int32} {M_first M_second M_isCut M_turns M_turnMany M_wireClaim M_knotClaim : Nat → Int32} {M_hasKept M_keptKnots M_keptWires M_keptBattery : Int32} {M_keptFirst M_keptSecond M_keptTurns M_keptMany M_keptWire M_keptKnot M_keptCut : Nat → Int32} {M_told : Int32} {M_left M_low M_side M_faceOf : Nat → Int32} {M_faceMany : Int32} {M_table : Nat → Int64} {M_heights M_currents M_places : Nat → Int32} {M_treeMany : Int64} {M_wide M_high : Int32} {M_newTurns M_newMany M_lineHeight M_lineLeft M_lineRight : Nat → Int32} {M_lines : Int32}
end
set_option maxHeartbeats 4000000 in
set_option maxRecDepth 100000 in
theorem mX7_place (l : Launch) (dC : Nat → ClassId) (dI : Nat → Nat → Nat) (cI cJ cZ : ClassId) {oM : Nat} {aM : Nat → Nat} {M_knots M_wires M_battery : Int32} {M_first M_second M_isCut M_turns M_turnMany M_wireClaim M_knotClaim : Nat → Int32} {M_hasKept M_keptKnots M_keptWires M_keptBattery : Int32} {M_keptFirst M_keptSecond M_keptTurns M_keptMany M_keptWire M_keptKnot M_keptCut : Nat → Int32} {M_told : Int32} {M_left M_low M_side M_faceOf : Nat → Int32} {M_faceMany : Int32} {M_table : Nat → Int64} {M_heights M_currents M_places : Nat → Int32} {M_treeMany : Int64} {M_wide M_high : Int32} {M_newTurns M_newMany M_lineHeight M_lineLeft M_lineRight : Nat → Int32} {M_lines : Int32} {x1 : Int32} {out : Int32 × (Nat → Int32) × Int32 × (Nat → Int64) × (Nat → Int32) × (Nat → Int32) × (Nat → Int32) × Int64 × Int32 × Int32} (h : fX7_place M_knots M_wires M_battery M_first M_second M_isCut M_turns M_turnMany M_faceOf M_faceMany M_table M_heights M_currents M_places M_treeMany M_wide M_high x1 = some out) (sz : Nat) : Met l yX7_place vsX7_place rX7_place (va_Pc [.ref oM, .int x1] (dk_Pre (dC, dI) (dk_ty cI cJ cZ) (wX7 oM aM cI cJ cZ M_knots M_wires M_battery M_first M_second M_isCut M_turns M_turnMany M_wireClaim M_knotClaim M_hasKept M_keptKnots M_keptWires M_keptBattery M_keptFirst M_keptSecond M_keptTurns M_keptMany M_keptWire M_keptKnot M_keptCut M_told M_left M_low M_side M_faceOf M_faceMany M_table M_heights M_currents M_places M_treeMany M_wide M_high M_newTurns M_newMany M_lineHeight M_lineLeft M_lineRight M_lines) sz)) (dk_Qi (dC, dI) (dk_ty cI cJ cZ) (wX7 oM aM cI cJ cZ M_knots M_wires M_battery M_first M_second M_isCut M_turns M_turnMany M_wireClaim M_knotClaim M_hasKept M_keptKnots M_keptWires M_keptBattery M_keptFirst M_keptSecond M_keptTurns M_keptMany M_keptWire M_keptKnot M_keptCut M_told M_left M_low M_side out.2.1 out.2.2.1 out.2.2.2.1 out.2.2.2.2.1 out.2.2.2.2.2.1 out.2.2.2.2.2.2.1 out.2.2.2.2.2.2.2.1 out.2.2.2.2.2.2.2.2.1 out.2.2.2.2.2.2.2.2.2 M_newTurns M_newMany M_lineHeight M_lineLeft M_lineRight M_lines) out.1 (va_A (wX7 oM aM cI cJ cZ M_knots M_wires M_battery M_first M_second M_isCut M_turns M_turnMany M_wireClaim M_knotClaim M_hasKept M_keptKnots M_keptWires M_keptBattery M_keptFirst M_keptSecond M_keptTurns M_keptMany M_keptWire M_keptKnot M_keptCut M_told M_left M_low M_side M_faceOf M_faceMany M_table M_heights M_currents M_places M_treeMany M_wide M_high M_newTurns M_newMany M_lineHeight M_lineLeft M_lineRight M_lines) sz)) 0 0 (va_A (wX7 oM aM cI cJ cZ M_knots M_wires M_battery M_first M_second M_isCut M_turns M_turnMany M_wireClaim M_knotClaim M_hasKept M_keptKnots M_keptWires M_keptBattery M_keptFirst M_keptSecond M_keptTurns M_keptMany M_keptWire M_keptKnot M_keptCut M_told M_left M_low M_side M_faceOf M_faceMany M_table M_heights M_currents M_places M_treeMany M_wide M_high M_newTurns M_newMany M_lineHeight M_lineLeft M_lineRight M_lines) sz) := by
  refine dk_met (cc := cX7_place) (maxL := 2) (ret := (some .int)) (Qc := fun A => dk_Qi (dC, dI) (dk_ty cI cJ cZ) (wX7 oM aM cI cJ cZ M_knots M_wires M_battery M_first M_second M_isCut M_turns M_turnMany M_wireClaim M_knotClaim M_hasKept M_keptKnots M_keptWires M_keptBattery M_keptFirst M_keptSecond M_keptTurns M_keptMany M_keptWire M_keptKnot M_keptCut M_told M_left M_low M_side out.2.1 out.2.2.1 out.2.2.2.1 out.2.2.2.2.1 out.2.2.2.2.2.1 out.2.2.2.2.2.2.1 out.2.2.2.2.2.2.2.1 out.2.2.2.2.2.2.2.2.1 out.2.2.2.2.2.2.2.2.2 M_newTurns M_newMany M_lineHeight M_lineLeft M_lineRight M_lines) out.1 A) (by decide) rfl (Nat.le_of_ble_eq_true rfl) ?_
  intro p e s m below meth c A C hnm hA hK hP hD hS ls hl
  have C : dk_C p s m meth c _ cX7_place (some .int) 2 RX7 vsX7_place := C
  obtain ⟨hx, hb, hr, hml, hown, hts, hlocks⟩ := id C
  have hl : lv_has ls 2 [(0, .ref oM), (1, .int x1)] := hl
  unfold fX7_place at h
  refine lv_aload_n hx hb dX7_place_0 rfl (lv_at hl 0 rfl) ?_
  obtain ⟨r_1, hcr_1, h⟩ := dk_bnd_to h
  refine dk_cVi (b := oM) (As := []) (rest := []) (wc := (wX7 oM aM cI cJ cZ M_knots M_wires M_battery M_first M_second M_isCut M_turns M_turnMany M_wireClaim M_knotClaim M_hasKept M_keptKnots M_keptWires M_keptBattery M_keptFirst M_keptSecond M_keptTurns M_keptMany M_keptWire M_keptKnot M_keptCut M_told M_left M_low M_side M_faceOf M_faceMany M_table M_heights M_currents M_places M_treeMany M_wide M_high M_newTurns M_newMany M_lineHeight M_lineLeft M_lineRight M_lines)) (wc' := (wX7 oM aM cI cJ cZ M_knots M_wires M_battery M_first M_second M_isCut M_turns M_turnMany M_wireClaim M_knotClaim M_hasKept M_keptKnots M_keptWires M_keptBattery M_keptFirst M_keptSecond M_keptTurns M_keptMany M_keptWire M_keptKnot M_keptCut M_told M_left M_low M_side r_1.2.1 r_1.2.2.1 r_1.2.2.2.1 r_1.2.2.2.2.1 r_1.2.2.2.2.2.1 r_1.2.2.2.2.2.2.1 r_1.2.2.2.2.2.2.2.1 r_1.2.2.2.2.2.2.2.2.1 r_1.2.2.2.2.2.2.2.2.2 M_newTurns M_newMany M_lineHeight M_lineLeft M_lineRight M_lines)) (wr := []) (ws' := (wX7 oM aM cI cJ cZ M_knots M_wires M_battery M_first M_second M_isCut M_turns M_turnMany M_wireClaim M_knotClaim M_hasKept M_keptKnots M_keptWires M_keptBattery M_keptFirst M_keptSecond M_keptTurns M_keptMany M_keptWire M_keptKnot M_keptCut M_told M_left M_low M_side r_1.2.1 r_1.2.2.1 r_1.2.2.2.1 r_1.2.2.2.2.1 r_1.2.2.2.2.2.1 r_1.2.2.2.2.2.2.1 r_1.2.2.2.2.2.2.2.1 r_1.2.2.2.2.2.2.2.2.1 r_1.2.2.2.2.2.2.2.2.2 M_newTurns M_newMany M_lineHeight M_lineLeft M_lineRight M_lines)) C hK hP hD hS hA (mX7_flows l dC dI cI cJ cZ hcr_1 _) (cwV 0 hts gvX7_place_X7_flows rfl rfl rfl (by decide +kernel) ⟨Nat.le_of_ble_eq_true rfl, Nat.le_of_ble_eq_true rfl⟩) [0, 1, 2, 3, 4, 5, 6, 7, 8, 9, 10, 11, 12, 13, 14, 15, 16, 17, 18, 19, 20, 21, 22, 23, 24, 25, 26, 27] [] [0, 1, 2, 3, 4, 5, 6, 7, 8, 9, 10, 11, 12, 13, 14, 15, 16, 17, 18, 19, 20, 21, 22, 23, 24, 25, 26, 27] rfl (by decide) rfl (by decide) (by decide) rfl (by decide) 0 7 rfl rfl rfl hl.1 rfl (Nat.le_of_ble_eq_true rfl) ⟨Nat.le_of_ble_eq_true rfl, Nat.le_of_ble_eq_true rfl⟩ dX7_place_1 (fun H locs hP hD hS => ?_)
  refine lv_if_eq (tgt := 30) hx hb dX7_place_4 (by decide) (fun c_2 => ?_) (fun c_2 => ?_)
  · replace h := dk_it c_2 h
    refine lv_ldc (v := (-2000000000)) hx hb hown (hts _ qX7_place_k107) dX7_place_30 ?_
    have e9 := Option.some.inj h
    subst e9
    exact dk_iret C hK hP hD hS rfl dX7_place_32
  · replace h := dk_ie c_2 h
    refine lv_iload_n hx hb dX7_place_7 rfl (lv_at hl 1 rfl) ?_
    refine lv_iconst (v := 0) hx hb dX7_place_8 (by decide) ?_
    refine lv_aload_n hx hb dX7_place_9 rfl (lv_at hl 0 rfl) ?_
    refine va_get (D := (dC, dI)) (ci := 7) (v := .int r_1.2.2.1) (C := RX7) (T := TX7) (N := 40) hx hb hts qX7_place_X7 hown hK hP 0 rfl rfl 26 (by decide) (hts _ qX7_place_f136) (fun _ h9 => h9) rfl dX7_place_10 ?_
    refine lv_iconst (v := 1) hx hb dX7_place_13 (by decide) ?_
    refine lv_isub hx hb dX7_place_14 ?_
    obtain ⟨r_3, hcr_3, h⟩ := dk_bnd_to h
    refine dk_rSi (As := [.int x1, .int 0, .int (r_1.2.2.1 - 1)]) (rest := []) (wc := []) C hK hP hD hS hA (mX7_in l dC dI cI cJ cZ hcr_3 _) (va_cwS 3 hts gvX7_place_X7_in rfl rfl rfl (by decide +kernel) ⟨Nat.le_of_ble_eq_true rfl, Nat.le_of_ble_eq_true rfl⟩) [] rfl (by decide) rfl hl.1 rfl (Nat.le_of_ble_eq_true rfl) ⟨Nat.le_of_ble_eq_true rfl, Nat.le_of_ble_eq_true rfl⟩ dX7_place_15 (fun H locs hP hD hS => ?_)
    refine lv_if_eq (tgt := 30) hx hb dX7_place_18 (by decide) (fun c_4 => ?_) (fun c_4 => ?_)
    · replace h := dk_it c_4 h
      refine lv_ldc (v := (-2000000000)) hx hb hown (hts _ qX7_place_k107) dX7_place_30 ?_
      have e9 := Option.some.inj h
      subst e9
      exact dk_iret C hK hP hD hS rfl dX7_place_32
    · replace h := dk_ie c_4 h
      refine lv_aload_n hx hb dX7_place_21 rfl (lv_at hl 0 rfl) ?_
      refine va_get (D := (dC, dI)) (ci := 7) (v := .ref (aM 30)) (C := RX7) (T := TX7) (N := 40) hx hb hts qX7_place_X7 hown hK hP 0 rfl rfl 30 (by decide) (hts _ qX7_place_f79) (fun _ h9 => h9) rfl dX7_place_22 ?_
      refine lv_iload_n hx hb dX7_place_25 rfl (lv_at hl 1 rfl) ?_
      obtain ⟨g_5, h⟩ := dk_gd_to h
      have g_5 := dk_in_to g_5
      refine va_iald hx hb hK hP 22 0 rfl rfl g_5 dX7_place_26 ?_
      refine lv_goto (tgt := 32) hx hb dX7_place_27 (by decide) ?_
      have e9 := Option.some.inj h
      subst e9
      exact dk_iret C hK hP hD hS rfl dX7_place_32
/-! ===== SquareTilerModel.rectangle ===== -/
abbrev rX7_rectangle : Room := { frames := 5, cells := 0, slots := 0, locals := 117 }
def ovX7_rectangle : List Cond := [Cond.fieldLink RX7 179 "SquareTilerModel" "wide" "I", Cond.fieldLink RX7 182 "SquareTilerModel" "high" "I", Cond.constant RX7 107 (-2000000000), Cond.methodLink RX7 210 yX7_flows, Cond.instanceMethod yX7_flows, Cond.selects RX7 yX7_flows yX7_flows, Cond.initialized RX7, Cond.methodLink RX7 200 yX7_squares, Cond.instanceMethod yX7_squares, Cond.selects RX7 yX7_squares yX7_squares, Cond.methodLink RX7 215 yX7_isPerfect, Cond.instanceMethod yX7_isPerfect, Cond.selects RX7 yX7_isPerfect yX7_isPerfect, Cond.methodLink RX7 218 yX7_inner, Cond.instanceMethod yX7_inner, Cond.selects RX7 yX7_inner yX7_inner]
def vsX7_rectangle : List Cond := .code yX7_rectangle cX7_rectangle 2 (some .int) :: (ovX7_rectangle ++ (wsX70 ++ (vsX7_flows ++ (vsX7_squares ++ (vsX7_isPerfect ++ (vsX7_inner ++ []))))))
theorem qX7_rectangle_f179 : Cond.fieldLink RX7 179 "SquareTilerModel" "wide" "I" ∈ vsX7_rectangle := List.mem_cons_of_mem _ (List.mem_append_left _ (List.mem_of_getElem? (i := 0) rfl))
theorem qX7_rectangle_f182 : Cond.fieldLink RX7 182 "SquareTilerModel" "high" "I" ∈ vsX7_rectangle := List.mem_cons_of_mem _ (List.mem_append_left _ (List.mem_of_getElem? (i := 1) rfl))
theorem qX7_rectangle_k107 : Cond.constant RX7 107 (-2000000000) ∈ vsX7_rectangle := List.mem_cons_of_mem _ (List.mem_append_left _ (List.mem_of_getElem? (i := 2) rfl))
theorem qX7_rectangle_w3 : Cond.methodLink RX7 210 yX7_flows ∈ vsX7_rectangle := List.mem_cons_of_mem _ (List.mem_append_left _ (List.mem_of_getElem? (i := 3) rfl))
theorem qX7_rectangle_w4 : Cond.instanceMethod yX7_flows ∈ vsX7_rectangle := List.mem_cons_of_mem _ (List.mem_append_left _ (List.mem_of_getElem? (i := 4) rfl))
theorem qX7_rectangle_w5 : Cond.selects RX7 yX7_flows yX7_flows ∈ vsX7_rectangle := List.mem_cons_of_mem _ (List.mem_append_left _ (List.mem_of_getElem? (i := 5) rfl))
theorem qX7_rectangle_w6 : Cond.initialized RX7 ∈ vsX7_rectangle := List.mem_cons_of_mem _ (List.mem_append_left _ (List.mem_of_getElem? (i := 6) rfl))
theorem qX7_rectangle_w7 : Cond.methodLink RX7 200 yX7_squares ∈ vsX7_rectangle := List.mem_cons_of_mem _ (List.mem_append_left _ (List.mem_of_getElem? (i := 7) rfl))
theorem qX7_rectangle_w8 : Cond.instanceMethod yX7_squares ∈ vsX7_rectangle := List.mem_cons_of_mem _ (List.mem_append_left _ (List.mem_of_getElem? (i := 8) rfl))
theorem qX7_rectangle_w9 : Cond.selects RX7 yX7_squares yX7_squares ∈ vsX7_rectangle := List.mem_cons_of_mem _ (List.mem_append_left _ (List.mem_of_getElem? (i := 9) rfl))
theorem qX7_rectangle_w10 : Cond.methodLink RX7 215 yX7_isPerfect ∈ vsX7_rectangle := List.mem_cons_of_mem _ (List.mem_append_left _ (List.mem_of_getElem? (i := 10) rfl))
theorem qX7_rectangle_w11 : Cond.instanceMethod yX7_isPerfect ∈ vsX7_rectangle := List.mem_cons_of_mem _ (List.mem_append_left _ (List.mem_of_getElem? (i := 11) rfl))
theorem qX7_rectangle_w12 : Cond.selects RX7 yX7_isPerfect yX7_isPerfect ∈ vsX7_rectangle := List.mem_cons_of_mem _ (List.mem_append_left _ (List.mem_of_getElem? (i := 12) rfl))
theorem qX7_rectangle_w13 : Cond.methodLink RX7 218 yX7_inner ∈ vsX7_rectangle := List.mem_cons_of_mem _ (List.mem_append_left _ (List.mem_of_getElem? (i := 13) rfl))
theorem qX7_rectangle_w14 : Cond.instanceMethod yX7_inner ∈ vsX7_rectangle := List.mem_cons_of_mem _ (List.mem_append_left _ (List.mem_of_getElem? (i := 14) rfl))
theorem qX7_rectangle_w15 : Cond.selects RX7 yX7_inner yX7_inner ∈ vsX7_rectangle := List.mem_cons_of_mem _ (List.mem_append_left _ (List.mem_of_getElem? (i := 15) rfl))
theorem qX7_rectangle_X7 : ∀ w ∈ u_ws RX7 TX7 40, w ∈ vsX7_rectangle := fun w h => List.mem_cons_of_mem _ (List.mem_append_right _ (List.mem_append_left _ h))
theorem gd_vsX7_rectangle : ∀ w ∈ vsX7_rectangle, goodWord w = true := dk_cons rfl (dk_app (dk_all (by decide +kernel)) (dk_app gd_wsX70 (dk_app gd_vsX7_flows (dk_app gd_vsX7_squares (dk_app gd_vsX7_isPerfect (dk_app gd_vsX7_inner dk_nil))))))
theorem gvX7_rectangle_X7_flows : GoodIn vsX7_rectangle (wsV RX7 210 RX7 yX7_flows vsX7_flows) := goodIn_app (dk_g4 qX7_rectangle_w3 qX7_rectangle_w4 qX7_rectangle_w5 qX7_rectangle_w6 rfl) (dk_gIn (fun w h => List.mem_cons_of_mem _ (List.mem_append_right _ (List.mem_append_right _ (List.mem_append_left _ h)))) gd_vsX7_flows)
theorem gvX7_rectangle_X7_squares : GoodIn vsX7_rectangle (wsV RX7 200 RX7 yX7_squares vsX7_squares) := goodIn_app (dk_g4 qX7_rectangle_w7 qX7_rectangle_w8 qX7_rectangle_w9 qX7_rectangle_w6 rfl) (dk_gIn (fun w h => List.mem_cons_of_mem _ (List.mem_append_right _ (List.mem_append_right _ (List.mem_append_right _ (List.mem_append_left _ h))))) gd_vsX7_squares)
theorem gvX7_rectangle_X7_isPerfect : GoodIn vsX7_rectangle (wsV RX7 215 RX7 yX7_isPerfect vsX7_isPerfect) := goodIn_app (dk_g4 qX7_rectangle_w10 qX7_rectangle_w11 qX7_rectangle_w12 qX7_rectangle_w6 rfl) (dk_gIn (fun w h => List.mem_cons_of_mem _ (List.mem_append_right _ (List.mem_append_right _ (List.mem_append_right _ (List.mem_append_right _ (List.mem_append_left _ h)))))) gd_vsX7_isPerfect)
theorem gvX7_rectangle_X7_inner : GoodIn vsX7_rectangle (wsV RX7 218 RX7 yX7_inner vsX7_inner) := goodIn_app (dk_g4 qX7_rectangle_w13 qX7_rectangle_w14 qX7_rectangle_w15 qX7_rectangle_w6 rfl) (dk_gIn (fun w h => List.mem_cons_of_mem _ (List.mem_append_right _ (List.mem_append_right _ (List.mem_append_right _ (List.mem_append_right _ (List.mem_append_right _ (List.mem_append_left _ h))))))) gd_vsX7_inner)
def fX7_rectangle (M_knots M_wires M_battery : Int32) (M_first M_second M_isCut M_turns M_turnMany M_faceOf : Nat → Int32) (M_faceMany : Int32) (M_table : Nat → Int64) (M_heights M_currents M_places : Nat → Int32) (M_treeMany : Int64) (M_wide M_high x1 : Int32) : Option (Int32 × (Nat → Int32) × Int32 × (Nat → Int64) × (Nat → Int32) × (Nat → Int32) × (Nat → Int32) × Int64 × Int32 × Int32) := dk_bnd (fX7_flows M_knots M_wires M_battery M_first M_second M_isCut M_turns M_turnMany M_faceOf M_faceMany M_table M_heights M_currents M_places M_treeMany M_wide M_high) (fun r_1 => if r_1.1 = 0 then some ((-2000000000), r_1.2.1, r_1.2.2.1, r_1.2.2.2.1, r_1.2.2.2.2.1, r_1.2.2.2.2.2.1, r_1.2.2.2.2.2.2.1, r_1.2.2.2.2.2.2.2.1, r_1.2.2.2.2.2.2.2.2.1, r_1.2.2.2.2.2.2.2.2.2) else if x1 = 0 then some (r_1.2.2.2.2.2.2.2.2.1, r_1.2.1, r_1.2.2.1, r_1.2.2.2.1, r_1.2.2.2.2.1, r_1.2.2.2.2.2.1, r_1.2.2.2.2.2.2.1, r_1.2.2.2.2.2.2.2.1, r_1.2.2.2.2.2.2.2.2.1, r_1.2.2.2.2.2.2.2.2.2) else (if x1 = 1 then some (r_1.2.2.2.2.2.2.2.2.2, r_1.2.1, r_1.2.2.1, r_1.2.2.2.1, r_1.2.2.2.2.1, r_1.2.2.2.2.2.1, r_1.2.2.2.2.2.2.1, r_1.2.2.2.2.2.2.2.1, r_1.2.2.2.2.2.2.2.2.1, r_1.2.2.2.2.2.2.2.2.2) else (if x1 = 2 then dk_bnd (fX7_squares M_wires M_battery M_isCut r_1.2.2.2.2.2.1) (fun r_6 => some (r_6, r_1.2.1, r_1.2.2.1, r_1.2.2.2.1, r_1.2.2.2.2.1, r_1.2.2.2.2.2.1, r_1.2.2.2.2.2.2.1, r_1.2.2.2.2.2.2.2.1, r_1.2.2.2.2.2.2.2.2.1, r_1.2.2.2.2.2.2.2.2.2)) else (if x1 = 3 then dk_bnd (fX7_isPerfect M_wires M_battery M_isCut r_1.2.2.2.2.2.1) (fun r_8 => if r_8 = 0 then some (0, r_1.2.1, r_1.2.2.1, r_1.2.2.2.1, r_1.2.2.2.2.1, r_1.2.2.2.2.2.1, r_1.2.2.2.2.2.2.1, r_1.2.2.2.2.2.2.2.1, r_1.2.2.2.2.2.2.2.2.1, r_1.2.2.2.2.2.2.2.2.2) else some (1, r_1.2.1, r_1.2.2.1, r_1.2.2.2.1, r_1.2.2.2.2.1, r_1.2.2.2.2.2.1, r_1.2.2.2.2.2.2.1, r_1.2.2.2.2.2.2.2.1, r_1.2.2.2.2.2.2.2.2.1, r_1.2.2.2.2.2.2.2.2.2)) else (if x1 = 4 then dk_bnd (fX7_inner M_wires M_battery M_first M_second M_isCut r_1.2.1 r_1.2.2.2.2.1 r_1.2.2.2.2.2.1 r_1.2.2.2.2.2.2.1) (fun r_11 => if r_11 = 0 then some (1, r_1.2.1, r_1.2.2.1, r_1.2.2.2.1, r_1.2.2.2.2.1, r_1.2.2.2.2.2.1, r_1.2.2.2.2.2.2.1, r_1.2.2.2.2.2.2.2.1, r_1.2.2.2.2.2.2.2.2.1, r_1.2.2.2.2.2.2.2.2.2) else some (0, r_1.2.1, r_1.2.2.1, r_1.2.2.2.1, r_1.2.2.2.2.1, r_1.2.2.2.2.2.1, r_1.2.2.2.2.2.2.1, r_1.2.2.2.2.2.2.2.1, r_1.2.2.2.2.2.2.2.2.1, r_1.2.2.2.2.2.2.2.2.2)) else (some ((-2000000000), r_1.2.1, r_1.2.2.1, r_1.2.2.2.1, r_1.2.2.2.2.1, r_1.2.2.2.2.2.1, r_1.2.2.2.2.2.2.1, r_1.2.2.2.2.2.2.2.1, r_1.2.2.2.2.2.2.2.2.1, r_1.2.2.2.2.2.2.2.2.2)))))))
section
variable {p : Program} {l : Launch} {e : Env} {s : State} {m : MethodId} {args : Array Value} {below : List Frame} {meth : Method} {c : Code} {dC : Nat → ClassId} {dI : Nat → Nat → Nat} {cI cJ cZ : ClassId} {A : Nat → Prop} {oM : Nat} {aM : Nat → Nat} {M_knots M_wires M_battery : Int32} {M_first M_second M_isCut M_turns M_turnMany M_wireClaim M_knotClaim : Nat → Int32} {M_hasKept M_keptKnots M_keptWires M_keptBattery : Int32} {M_keptFirst M_keptSecond M_keptTurns M_keptMany M_keptWire M_keptKnot M_keptCut : Nat → Int32} {M_told : Int32} {M_left M_low M_side M_faceOf : Nat → Int32} {M_faceMany : Int32} {M_table : Nat → Int64} {M_heights M_currents M_places : Nat → Int32} {M_treeMany : Int64} {M_wide M_high : Int32} {M_newTurns M_newMany M_lineHeight M_lineLeft M_lineRight : Nat → Int32} {M_lines : Int32}
end
set_option maxHeartbeats 4000000 in
set_option maxRecDepth 100000 in
theorem mX7_rectangle (l : Launch) (dC : Nat → ClassId) (dI : Nat → Nat → Nat) (cI cJ cZ : ClassId) {oM : Nat} {aM : Nat → Nat} {M_knots M_wires M_battery : Int32} {M_first M_second M_isCut M_turns M_turnMany M_wireClaim M_knotClaim : Nat → Int32} {M_hasKept M_keptKnots M_keptWires M_keptBattery : Int32} {M_keptFirst M_keptSecond M_keptTurns M_keptMany M_keptWire M_keptKnot M_keptCut : Nat → Int32} {M_told : Int32} {M_left M_low M_side M_faceOf : Nat → Int32} {M_faceMany : Int32} {M_table : Nat → Int64} {M_heights M_currents M_places : Nat → Int32} {M_treeMany : Int64} {M_wide M_high : Int32} {M_newTurns M_newMany M_lineHeight M_lineLeft M_lineRight : Nat → Int32} {M_lines : Int32} {x1 : Int32} {out : Int32 × (Nat → Int32) × Int32 × (Nat → Int64) × (Nat → Int32) × (Nat → Int32) × (Nat → Int32) × Int64 × Int32 × Int32} (h : fX7_rectangle M_knots M_wires M_battery M_first M_second M_isCut M_turns M_turnMany M_faceOf M_faceMany M_table M_heights M_currents M_places M_treeMany M_wide M_high x1 = some out) (sz : Nat) : Met l yX7_rectangle vsX7_rectangle rX7_rectangle (va_Pc [.ref oM, .int x1] (dk_Pre (dC, dI) (dk_ty cI cJ cZ) (wX7 oM aM cI cJ cZ M_knots M_wires M_battery M_first M_second M_isCut M_turns M_turnMany M_wireClaim M_knotClaim M_hasKept M_keptKnots M_keptWires M_keptBattery M_keptFirst M_keptSecond M_keptTurns M_keptMany M_keptWire M_keptKnot M_keptCut M_told M_left M_low M_side M_faceOf M_faceMany M_table M_heights M_currents M_places M_treeMany M_wide M_high M_newTurns M_newMany M_lineHeight M_lineLeft M_lineRight M_lines) sz)) (dk_Qi (dC, dI) (dk_ty cI cJ cZ) (wX7 oM aM cI cJ cZ M_knots M_wires M_battery M_first M_second M_isCut M_turns M_turnMany M_wireClaim M_knotClaim M_hasKept M_keptKnots M_keptWires M_keptBattery M_keptFirst M_keptSecond M_keptTurns M_keptMany M_keptWire M_keptKnot M_keptCut M_told M_left M_low M_side out.2.1 out.2.2.1 out.2.2.2.1 out.2.2.2.2.1 out.2.2.2.2.2.1 out.2.2.2.2.2.2.1 out.2.2.2.2.2.2.2.1 out.2.2.2.2.2.2.2.2.1 out.2.2.2.2.2.2.2.2.2 M_newTurns M_newMany M_lineHeight M_lineLeft M_lineRight M_lines) out.1 (va_A (wX7 oM aM cI cJ cZ M_knots M_wires M_battery M_first M_second M_isCut M_turns M_turnMany M_wireClaim M_knotClaim M_hasKept M_keptKnots M_keptWires M_keptBattery M_keptFirst M_keptSecond M_keptTurns M_keptMany M_keptWire M_keptKnot M_keptCut M_told M_left M_low M_side M_faceOf M_faceMany M_table M_heights M_currents M_places M_treeMany M_wide M_high M_newTurns M_newMany M_lineHeight M_lineLeft M_lineRight M_lines) sz)) 0 0 (va_A (wX7 oM aM cI cJ cZ M_knots M_wires M_battery M_first M_second M_isCut M_turns M_turnMany M_wireClaim M_knotClaim M_hasKept M_keptKnots M_keptWires M_keptBattery M_keptFirst M_keptSecond M_keptTurns M_keptMany M_keptWire M_keptKnot M_keptCut M_told M_left M_low M_side M_faceOf M_faceMany M_table M_heights M_currents M_places M_treeMany M_wide M_high M_newTurns M_newMany M_lineHeight M_lineLeft M_lineRight M_lines) sz) := by
  refine dk_met (cc := cX7_rectangle) (maxL := 2) (ret := (some .int)) (Qc := fun A => dk_Qi (dC, dI) (dk_ty cI cJ cZ) (wX7 oM aM cI cJ cZ M_knots M_wires M_battery M_first M_second M_isCut M_turns M_turnMany M_wireClaim M_knotClaim M_hasKept M_keptKnots M_keptWires M_keptBattery M_keptFirst M_keptSecond M_keptTurns M_keptMany M_keptWire M_keptKnot M_keptCut M_told M_left M_low M_side out.2.1 out.2.2.1 out.2.2.2.1 out.2.2.2.2.1 out.2.2.2.2.2.1 out.2.2.2.2.2.2.1 out.2.2.2.2.2.2.2.1 out.2.2.2.2.2.2.2.2.1 out.2.2.2.2.2.2.2.2.2 M_newTurns M_newMany M_lineHeight M_lineLeft M_lineRight M_lines) out.1 A) (by decide) rfl (Nat.le_of_ble_eq_true rfl) ?_
  intro p e s m below meth c A C hnm hA hK hP hD hS ls hl
  have C : dk_C p s m meth c _ cX7_rectangle (some .int) 2 RX7 vsX7_rectangle := C
  obtain ⟨hx, hb, hr, hml, hown, hts, hlocks⟩ := id C
  have hl : lv_has ls 2 [(0, .ref oM), (1, .int x1)] := hl
  unfold fX7_rectangle at h
  refine lv_aload_n hx hb dX7_rectangle_0 rfl (lv_at hl 0 rfl) ?_
  obtain ⟨r_1, hcr_1, h⟩ := dk_bnd_to h
  refine dk_cVi (b := oM) (As := []) (rest := []) (wc := (wX7 oM aM cI cJ cZ M_knots M_wires M_battery M_first M_second M_isCut M_turns M_turnMany M_wireClaim M_knotClaim M_hasKept M_keptKnots M_keptWires M_keptBattery M_keptFirst M_keptSecond M_keptTurns M_keptMany M_keptWire M_keptKnot M_keptCut M_told M_left M_low M_side M_faceOf M_faceMany M_table M_heights M_currents M_places M_treeMany M_wide M_high M_newTurns M_newMany M_lineHeight M_lineLeft M_lineRight M_lines)) (wc' := (wX7 oM aM cI cJ cZ M_knots M_wires M_battery M_first M_second M_isCut M_turns M_turnMany M_wireClaim M_knotClaim M_hasKept M_keptKnots M_keptWires M_keptBattery M_keptFirst M_keptSecond M_keptTurns M_keptMany M_keptWire M_keptKnot M_keptCut M_told M_left M_low M_side r_1.2.1 r_1.2.2.1 r_1.2.2.2.1 r_1.2.2.2.2.1 r_1.2.2.2.2.2.1 r_1.2.2.2.2.2.2.1 r_1.2.2.2.2.2.2.2.1 r_1.2.2.2.2.2.2.2.2.1 r_1.2.2.2.2.2.2.2.2.2 M_newTurns M_newMany M_lineHeight M_lineLeft M_lineRight M_lines)) (wr := []) (ws' := (wX7 oM aM cI cJ cZ M_knots M_wires M_battery M_first M_second M_isCut M_turns M_turnMany M_wireClaim M_knotClaim M_hasKept M_keptKnots M_keptWires M_keptBattery M_keptFirst M_keptSecond M_keptTurns M_keptMany M_keptWire M_keptKnot M_keptCut M_told M_left M_low M_side r_1.2.1 r_1.2.2.1 r_1.2.2.2.1 r_1.2.2.2.2.1 r_1.2.2.2.2.2.1 r_1.2.2.2.2.2.2.1 r_1.2.2.2.2.2.2.2.1 r_1.2.2.2.2.2.2.2.2.1 r_1.2.2.2.2.2.2.2.2.2 M_newTurns M_newMany M_lineHeight M_lineLeft M_lineRight M_lines)) C hK hP hD hS hA (mX7_flows l dC dI cI cJ cZ hcr_1 _) (cwV 0 hts gvX7_rectangle_X7_flows rfl rfl rfl (by decide +kernel) ⟨Nat.le_of_ble_eq_true rfl, Nat.le_of_ble_eq_true rfl⟩) [0, 1, 2, 3, 4, 5, 6, 7, 8, 9, 10, 11, 12, 13, 14, 15, 16, 17, 18, 19, 20, 21, 22, 23, 24, 25, 26, 27] [] [0, 1, 2, 3, 4, 5, 6, 7, 8, 9, 10, 11, 12, 13, 14, 15, 16, 17, 18, 19, 20, 21, 22, 23, 24, 25, 26, 27] rfl (by decide) rfl (by decide) (by decide) rfl (by decide) 0 7 rfl rfl rfl hl.1 rfl (Nat.le_of_ble_eq_true rfl) ⟨Nat.le_of_ble_eq_true rfl, Nat.le_of_ble_eq_true rfl⟩ dX7_rectangle_1 (fun H locs hP hD hS => ?_)
  refine lv_if_ne (tgt := 10) hx hb dX7_rectangle_4 (by decide) (fun c_2 => ?_) (fun c_2 => ?_)
  · replace h := dk_ie c_2 h
    refine lv_iload_n hx hb dX7_rectangle_10 rfl (lv_at hl 1 rfl) ?_
    by_cases c_3 : x1 = 0
    · replace h := dk_it c_3 h
      refine lv_tableIn (tgt := 44) (off := 33) hx hb dX7_rectangle_11 (by rw [c_3]; decide) (by rw [c_3]; decide) (by rw [c_3]; decide) (by decide) ?_
      refine lv_aload_n hx hb dX7_rectangle_44 rfl (lv_at hl 0 rfl) ?_
      refine va_get (D := (dC, dI)) (ci := 7) (v := .int r_1.2.2.2.2.2.2.2.2.1) (C := RX7) (T := TX7) (N := 40) hx hb hts qX7_rectangle_X7 hown hK hP 0 rfl rfl 32 (by decide) (hts _ qX7_rectangle_f179) (fun _ h9 => h9) rfl dX7_rectangle_45 ?_
      have e9 := Option.some.inj h
      subst e9
      exact dk_iret C hK hP hD hS rfl dX7_rectangle_48
    · replace h := dk_ie c_3 h
      by_cases c_4 : x1 = 1
      · replace h := dk_it c_4 h
        refine lv_tableIn (tgt := 49) (off := 38) hx hb dX7_rectangle_11 (by rw [c_4]; decide) (by rw [c_4]; decide) (by rw [c_4]; decide) (by decide) ?_
        refine lv_aload_n hx hb dX7_rectangle_49 rfl (lv_at hl 0 rfl) ?_
        refine va_get (D := (dC, dI)) (ci := 7) (v := .int r_1.2.2.2.2.2.2.2.2.2) (C := RX7) (T := TX7) (N := 40) hx hb hts qX7_rectangle_X7 hown hK hP 0 rfl rfl 33 (by decide) (hts _ qX7_rectangle_f182) (fun _ h9 => h9) rfl dX7_rectangle_50 ?_
        have e9 := Option.some.inj h
        subst e9
        exact dk_iret C hK hP hD hS rfl dX7_rectangle_53
      · replace h := dk_ie c_4 h
        by_cases c_5 : x1 = 2
        · replace h := dk_it c_5 h
          refine lv_tableIn (tgt := 54) (off := 43) hx hb dX7_rectangle_11 (by rw [c_5]; decide) (by rw [c_5]; decide) (by rw [c_5]; decide) (by decide) ?_
          refine lv_aload_n hx hb dX7_rectangle_54 rfl (lv_at hl 0 rfl) ?_
          obtain ⟨r_6, hcr_6, h⟩ := dk_bnd_to h
          refine dk_rVi (b := oM) (As := []) (rest := []) (wc := (wX7 oM aM cI cJ cZ M_knots M_wires M_battery M_first M_second M_isCut M_turns M_turnMany M_wireClaim M_knotClaim M_hasKept M_keptKnots M_keptWires M_keptBattery M_keptFirst M_keptSecond M_keptTurns M_keptMany M_keptWire M_keptKnot M_keptCut M_told M_left M_low M_side r_1.2.1 r_1.2.2.1 r_1.2.2.2.1 r_1.2.2.2.2.1 r_1.2.2.2.2.2.1 r_1.2.2.2.2.2.2.1 r_1.2.2.2.2.2.2.2.1 r_1.2.2.2.2.2.2.2.2.1 r_1.2.2.2.2.2.2.2.2.2 M_newTurns M_newMany M_lineHeight M_lineLeft M_lineRight M_lines)) C hK hP hD hS hA (mX7_squares l dC dI cI cJ cZ hcr_6 _) (cwV 0 hts gvX7_rectangle_X7_squares rfl rfl rfl (by decide +kernel) ⟨Nat.le_of_ble_eq_true rfl, Nat.le_of_ble_eq_true rfl⟩) [0, 1, 2, 3, 4, 5, 6, 7, 8, 9, 10, 11, 12, 13, 14, 15, 16, 17, 18, 19, 20, 21, 22, 23, 24, 25, 26, 27] rfl (by decide) 0 7 rfl rfl rfl hl.1 rfl (Nat.le_of_ble_eq_true rfl) ⟨Nat.le_of_ble_eq_true rfl, Nat.le_of_ble_eq_true rfl⟩ dX7_rectangle_55 (fun H locs hP hD hS => ?_)
          have e9 := Option.some.inj h
          subst e9
          exact dk_iret C hK hP hD hS rfl dX7_rectangle_58
        · replace h := dk_ie c_5 h
          by_cases c_7 : x1 = 3
          · replace h := dk_it c_7 h
            refine lv_tableIn (tgt := 59) (off := 48) hx hb dX7_rectangle_11 (by rw [c_7]; decide) (by rw [c_7]; decide) (by rw [c_7]; decide) (by decide) ?_
            refine lv_aload_n hx hb dX7_rectangle_59 rfl (lv_at hl 0 rfl) ?_
            obtain ⟨r_8, hcr_8, h⟩ := dk_bnd_to h
            refine dk_rVi (b := oM) (As := []) (rest := []) (wc := (wX7 oM aM cI cJ cZ M_knots M_wires M_battery M_first M_second M_isCut M_turns M_turnMany M_wireClaim M_knotClaim M_hasKept M_keptKnots M_keptWires M_keptBattery M_keptFirst M_keptSecond M_keptTurns M_keptMany M_keptWire M_keptKnot M_keptCut M_told M_left M_low M_side r_1.2.1 r_1.2.2.1 r_1.2.2.2.1 r_1.2.2.2.2.1 r_1.2.2.2.2.2.1 r_1.2.2.2.2.2.2.1 r_1.2.2.2.2.2.2.2.1 r_1.2.2.2.2.2.2.2.2.1 r_1.2.2.2.2.2.2.2.2.2 M_newTurns M_newMany M_lineHeight M_lineLeft M_lineRight M_lines)) C hK hP hD hS hA (mX7_isPerfect l dC dI cI cJ cZ hcr_8 _) (cwV 0 hts gvX7_rectangle_X7_isPerfect rfl rfl rfl (by decide +kernel) ⟨Nat.le_of_ble_eq_true rfl, Nat.le_of_ble_eq_true rfl⟩) [0, 1, 2, 3, 4, 5, 6, 7, 8, 9, 10, 11, 12, 13, 14, 15, 16, 17, 18, 19, 20, 21, 22, 23, 24, 25, 26, 27] rfl (by decide) 0 7 rfl rfl rfl hl.1 rfl (Nat.le_of_ble_eq_true rfl) ⟨Nat.le_of_ble_eq_true rfl, Nat.le_of_ble_eq_true rfl⟩ dX7_rectangle_60 (fun H locs hP hD hS => ?_)
            refine lv_if_eq (tgt := 70) hx hb dX7_rectangle_63 (by decide) (fun c_9 => ?_) (fun c_9 => ?_)
            · replace h := dk_it c_9 h
              refine lv_iconst (v := 0) hx hb dX7_rectangle_70 (by decide) ?_
              have e9 := Option.some.inj h
              subst e9
              exact dk_iret C hK hP hD hS rfl dX7_rectangle_71
            · replace h := dk_ie c_9 h
              refine lv_iconst (v := 1) hx hb dX7_rectangle_66 (by decide) ?_
              refine lv_goto (tgt := 71) hx hb dX7_rectangle_67 (by decide) ?_
              have e9 := Option.some.inj h
              subst e9
              exact dk_iret C hK hP hD hS rfl dX7_rectangle_71
          · replace h := dk_ie c_7 h
            by_cases c_10 : x1 = 4
            · replace h := dk_it c_10 h
              refine lv_tableIn (tgt := 72) (off := 61) hx hb dX7_rectangle_11 (by rw [c_10]; decide) (by rw [c_10]; decide) (by rw [c_10]; decide) (by decide) ?_
              refine lv_aload_n hx hb dX7_rectangle_72 rfl (lv_at hl 0 rfl) ?_
              obtain ⟨r_11, hcr_11, h⟩ := dk_bnd_to h
              refine dk_rVi (b := oM) (As := []) (rest := []) (wc := (wX7 oM aM cI cJ cZ M_knots M_wires M_battery M_first M_second M_isCut M_turns M_turnMany M_wireClaim M_knotClaim M_hasKept M_keptKnots M_keptWires M_keptBattery M_keptFirst M_keptSecond M_keptTurns M_keptMany M_keptWire M_keptKnot M_keptCut M_told M_left M_low M_side r_1.2.1 r_1.2.2.1 r_1.2.2.2.1 r_1.2.2.2.2.1 r_1.2.2.2.2.2.1 r_1.2.2.2.2.2.2.1 r_1.2.2.2.2.2.2.2.1 r_1.2.2.2.2.2.2.2.2.1 r_1.2.2.2.2.2.2.2.2.2 M_newTurns M_newMany M_lineHeight M_lineLeft M_lineRight M_lines)) C hK hP hD hS hA (mX7_inner l dC dI cI cJ cZ hcr_11 _) (cwV 0 hts gvX7_rectangle_X7_inner rfl rfl rfl (by decide +kernel) ⟨Nat.le_of_ble_eq_true rfl, Nat.le_of_ble_eq_true rfl⟩) [0, 1, 2, 3, 4, 5, 6, 7, 8, 9, 10, 11, 12, 13, 14, 15, 16, 17, 18, 19, 20, 21, 22, 23, 24, 25, 26, 27] rfl (by decide) 0 7 rfl rfl rfl hl.1 rfl (Nat.le_of_ble_eq_true rfl) ⟨Nat.le_of_ble_eq_true rfl, Nat.le_of_ble_eq_true rfl⟩ dX7_rectangle_73 (fun H locs hP hD hS => ?_)
              refine lv_if_ne (tgt := 83) hx hb dX7_rectangle_76 (by decide) (fun c_12 => ?_) (fun c_12 => ?_)
              · replace h := dk_ie c_12 h
                refine lv_iconst (v := 0) hx hb dX7_rectangle_83 (by decide) ?_
                have e9 := Option.some.inj h
                subst e9
                exact dk_iret C hK hP hD hS rfl dX7_rectangle_84
              · replace h := dk_it c_12 h
                refine lv_iconst (v := 1) hx hb dX7_rectangle_79 (by decide) ?_
                refine lv_goto (tgt := 84) hx hb dX7_rectangle_80 (by decide) ?_
                have e9 := Option.some.inj h
                subst e9
                exact dk_iret C hK hP hD hS rfl dX7_rectangle_84
            · replace h := dk_ie c_10 h
              refine lv_tableOut (tgt := 85) hx hb dX7_rectangle_11 (dk_swn 4 (by decide) (fun k hk => match k with | 0 => c_3 | 1 => c_4 | 2 => c_5 | 3 => c_7 | 4 => c_10 | k + 5 => absurd hk (by omega))) (by decide) ?_
              refine lv_ldc (v := (-2000000000)) hx hb hown (hts _ qX7_rectangle_k107) dX7_rectangle_85 ?_
              have e9 := Option.some.inj h
              subst e9
              exact dk_iret C hK hP hD hS rfl dX7_rectangle_87
  · replace h := dk_it c_2 h
    refine lv_ldc (v := (-2000000000)) hx hb hown (hts _ qX7_rectangle_k107) dX7_rectangle_7 ?_
    have e9 := Option.some.inj h
    subst e9
    exact dk_iret C hK hP hD hS rfl dX7_rectangle_9
/-! ===== SquareTilerModel.square ===== -/
abbrev rX7_square : Room := { frames := 5, cells := 0, slots := 0, locals := 117 }
def ovX7_square : List Cond := [Cond.constant RX7 107 (-2000000000), Cond.methodLink RX7 210 yX7_flows, Cond.instanceMethod yX7_flows, Cond.selects RX7 yX7_flows yX7_flows, Cond.initialized RX7, Cond.methodLink RX7 112 yX7_isWire, Cond.instanceMethod yX7_isWire, Cond.selects RX7 yX7_isWire yX7_isWire, Cond.methodLink RX7 100 yX7_in, Cond.static yX7_in, Cond.methodLink RX7 188 yX7_isSquare, Cond.instanceMethod yX7_isSquare, Cond.selects RX7 yX7_isSquare yX7_isSquare, Cond.methodLink RX7 191 yX7_sideOf, Cond.instanceMethod yX7_sideOf, Cond.selects RX7 yX7_sideOf yX7_sideOf, Cond.methodLink RX7 197 yX7_lowOf, Cond.instanceMethod yX7_lowOf, Cond.selects RX7 yX7_lowOf yX7_lowOf, Cond.methodLink RX7 194 yX7_leftOf, Cond.instanceMethod yX7_leftOf, Cond.selects RX7 yX7_leftOf yX7_leftOf]
def vsX7_square : List Cond := .code yX7_square cX7_square 3 (some .int) :: (ovX7_square ++ (vsX7_flows ++ (vsX7_isWire ++ (vsX7_in ++ (vsX7_isSquare ++ (vsX7_sideOf ++ (vsX7_lowOf ++ (vsX7_leftOf ++ []))))))))
theorem qX7_square_k107 : Cond.constant RX7 107 (-2000000000) ∈ vsX7_square := List.mem_cons_of_mem _ (List.mem_append_left _ (List.mem_of_getElem? (i := 0) rfl))
theorem qX7_square_w1 : Cond.methodLink RX7 210 yX7_flows ∈ vsX7_square := List.mem_cons_of_mem _ (List.mem_append_left _ (List.mem_of_getElem? (i := 1) rfl))
theorem qX7_square_w2 : Cond.instanceMethod yX7_flows ∈ vsX7_square := List.mem_cons_of_mem _ (List.mem_append_left _ (List.mem_of_getElem? (i := 2) rfl))
theorem qX7_square_w3 : Cond.selects RX7 yX7_flows yX7_flows ∈ vsX7_square := List.mem_cons_of_mem _ (List.mem_append_left _ (List.mem_of_getElem? (i := 3) rfl))
theorem qX7_square_w4 : Cond.initialized RX7 ∈ vsX7_square := List.mem_cons_of_mem _ (List.mem_append_left _ (List.mem_of_getElem? (i := 4) rfl))
theorem qX7_square_w5 : Cond.methodLink RX7 112 yX7_isWire ∈ vsX7_square := List.mem_cons_of_mem _ (List.mem_append_left _ (List.mem_of_getElem? (i := 5) rfl))
theorem qX7_square_w6 : Cond.instanceMethod yX7_isWire ∈ vsX7_square := List.mem_cons_of_mem _ (List.mem_append_left _ (List.mem_of_getElem? (i := 6) rfl))
theorem qX7_square_w7 : Cond.selects RX7 yX7_isWire yX7_isWire ∈ vsX7_square := List.mem_cons_of_mem _ (List.mem_append_left _ (List.mem_of_getElem? (i := 7) rfl))
theorem qX7_square_w8 : Cond.methodLink RX7 100 yX7_in ∈ vsX7_square := List.mem_cons_of_mem _ (List.mem_append_left _ (List.mem_of_getElem? (i := 8) rfl))
theorem qX7_square_w9 : Cond.static yX7_in ∈ vsX7_square := List.mem_cons_of_mem _ (List.mem_append_left _ (List.mem_of_getElem? (i := 9) rfl))
theorem qX7_square_w10 : Cond.methodLink RX7 188 yX7_isSquare ∈ vsX7_square := List.mem_cons_of_mem _ (List.mem_append_left _ (List.mem_of_getElem? (i := 10) rfl))
theorem qX7_square_w11 : Cond.instanceMethod yX7_isSquare ∈ vsX7_square := List.mem_cons_of_mem _ (List.mem_append_left _ (List.mem_of_getElem? (i := 11) rfl))
theorem qX7_square_w12 : Cond.selects RX7 yX7_isSquare yX7_isSquare ∈ vsX7_square := List.mem_cons_of_mem _ (List.mem_append_left _ (List.mem_of_getElem? (i := 12) rfl))
theorem qX7_square_w13 : Cond.methodLink RX7 191 yX7_sideOf ∈ vsX7_square := List.mem_cons_of_mem _ (List.mem_append_left _ (List.mem_of_getElem? (i := 13) rfl))
theorem qX7_square_w14 : Cond.instanceMethod yX7_sideOf ∈ vsX7_square := List.mem_cons_of_mem _ (List.mem_append_left _ (List.mem_of_getElem? (i := 14) rfl))
theorem qX7_square_w15 : Cond.selects RX7 yX7_sideOf yX7_sideOf ∈ vsX7_square := List.mem_cons_of_mem _ (List.mem_append_left _ (List.mem_of_getElem? (i := 15) rfl))
theorem qX7_square_w16 : Cond.methodLink RX7 197 yX7_lowOf ∈ vsX7_square := List.mem_cons_of_mem _ (List.mem_append_left _ (List.mem_of_getElem? (i := 16) rfl))
theorem qX7_square_w17 : Cond.instanceMethod yX7_lowOf ∈ vsX7_square := List.mem_cons_of_mem _ (List.mem_append_left _ (List.mem_of_getElem? (i := 17) rfl))
theorem qX7_square_w18 : Cond.selects RX7 yX7_lowOf yX7_lowOf ∈ vsX7_square := List.mem_cons_of_mem _ (List.mem_append_left _ (List.mem_of_getElem? (i := 18) rfl))
theorem qX7_square_w19 : Cond.methodLink RX7 194 yX7_leftOf ∈ vsX7_square := List.mem_cons_of_mem _ (List.mem_append_left _ (List.mem_of_getElem? (i := 19) rfl))
theorem qX7_square_w20 : Cond.instanceMethod yX7_leftOf ∈ vsX7_square := List.mem_cons_of_mem _ (List.mem_append_left _ (List.mem_of_getElem? (i := 20) rfl))
theorem qX7_square_w21 : Cond.selects RX7 yX7_leftOf yX7_leftOf ∈ vsX7_square := List.mem_cons_of_mem _ (List.mem_append_left _ (List.mem_of_getElem? (i := 21) rfl))
theorem gd_vsX7_square : ∀ w ∈ vsX7_square, goodWord w = true := dk_cons rfl (dk_app (dk_all (by decide +kernel)) (dk_app gd_vsX7_flows (dk_app gd_vsX7_isWire (dk_app gd_vsX7_in (dk_app gd_vsX7_isSquare (dk_app gd_vsX7_sideOf (dk_app gd_vsX7_lowOf (dk_app gd_vsX7_leftOf dk_nil))))))))
theorem gvX7_square_X7_flows : GoodIn vsX7_square (wsV RX7 210 RX7 yX7_flows vsX7_flows) := goodIn_app (dk_g4 qX7_square_w1 qX7_square_w2 qX7_square_w3 qX7_square_w4 rfl) (dk_gIn (fun w h => List.mem_cons_of_mem _ (List.mem_append_right _ (List.mem_append_left _ h))) gd_vsX7_flows)
theorem gvX7_square_X7_isWire : GoodIn vsX7_square (wsV RX7 112 RX7 yX7_isWire vsX7_isWire) := goodIn_app (dk_g4 qX7_square_w5 qX7_square_w6 qX7_square_w7 qX7_square_w4 rfl) (dk_gIn (fun w h => List.mem_cons_of_mem _ (List.mem_append_right _ (List.mem_append_right _ (List.mem_append_left _ h)))) gd_vsX7_isWire)
theorem gvX7_square_X7_in : GoodIn vsX7_square (va_wsS RX7 100 yX7_in vsX7_in) := goodIn_app (dk_g3 qX7_square_w8 qX7_square_w9 qX7_square_w4 rfl) (dk_gIn (fun w h => List.mem_cons_of_mem _ (List.mem_append_right _ (List.mem_append_right _ (List.mem_append_right _ (List.mem_append_left _ h))))) gd_vsX7_in)
theorem gvX7_square_X7_isSquare : GoodIn vsX7_square (wsV RX7 188 RX7 yX7_isSquare vsX7_isSquare) := goodIn_app (dk_g4 qX7_square_w10 qX7_square_w11 qX7_square_w12 qX7_square_w4 rfl) (dk_gIn (fun w h => List.mem_cons_of_mem _ (List.mem_append_right _ (List.mem_append_right _ (List.mem_append_right _ (List.mem_append_right _ (List.mem_append_left _ h)))))) gd_vsX7_isSquare)
theorem gvX7_square_X7_sideOf : GoodIn vsX7_square (wsV RX7 191 RX7 yX7_sideOf vsX7_sideOf) := goodIn_app (dk_g4 qX7_square_w13 qX7_square_w14 qX7_square_w15 qX7_square_w4 rfl) (dk_gIn (fun w h => List.mem_cons_of_mem _ (List.mem_append_right _ (List.mem_append_right _ (List.mem_append_right _ (List.mem_append_right _ (List.mem_append_right _ (List.mem_append_left _ h))))))) gd_vsX7_sideOf)
theorem gvX7_square_X7_lowOf : GoodIn vsX7_square (wsV RX7 197 RX7 yX7_lowOf vsX7_lowOf) := goodIn_app (dk_g4 qX7_square_w16 qX7_square_w17 qX7_square_w18 qX7_square_w4 rfl) (dk_gIn (fun w h => List.mem_cons_of_mem _ (List.mem_append_right _ (List.mem_append_right _ (List.mem_append_right _ (List.mem_append_right _ (List.mem_append_right _ (List.mem_append_right _ (List.mem_append_left _ h)))))))) gd_vsX7_lowOf)
theorem gvX7_square_X7_leftOf : GoodIn vsX7_square (wsV RX7 194 RX7 yX7_leftOf vsX7_leftOf) := goodIn_app (dk_g4 qX7_square_w19 qX7_square_w20 qX7_square_w21 qX7_square_w4 rfl) (dk_gIn (fun w h => List.mem_cons_of_mem _ (List.mem_append_right _ (List.mem_append_right _ (List.mem_append_right _ (List.mem_append_right _ (List.mem_append_right _ (List.mem_append_right _ (List.mem_append_right _ (List.mem_append_left _ h))))))))) gd_vsX7_leftOf)
def fX7_square (M_knots M_wires M_battery : Int32) (M_first M_second M_isCut M_turns M_turnMany M_faceOf : Nat → Int32) (M_faceMany : Int32) (M_table : Nat → Int64) (M_heights M_currents M_places : Nat → Int32) (M_treeMany : Int64) (M_wide M_high x1 x2 : Int32) : Option (Int32 × (Nat → Int32) × Int32 × (Nat → Int64) × (Nat → Int32) × (Nat → Int32) × (Nat → Int32) × Int64 × Int32 × Int32) := dk_bnd (fX7_flows M_knots M_wires M_battery M_first M_second M_isCut M_turns M_turnMany M_faceOf M_faceMany M_table M_heights M_currents M_places M_treeMany M_wide M_high) (fun r_1 => if r_1.1 = 0 then some ((-2000000000), r_1.2.1, r_1.2.2.1, r_1.2.2.2.1, r_1.2.2.2.2.1, r_1.2.2.2.2.2.1, r_1.2.2.2.2.2.2.1, r_1.2.2.2.2.2.2.2.1, r_1.2.2.2.2.2.2.2.2.1, r_1.2.2.2.2.2.2.2.2.2) else dk_bnd (fX7_isWire M_wires x1) (fun r_3 => if r_3 = 0 then some ((-2000000000), r_1.2.1, r_1.2.2.1, r_1.2.2.2.1, r_1.2.2.2.2.1, r_1.2.2.2.2.2.1, r_1.2.2.2.2.2.2.1, r_1.2.2.2.2.2.2.2.1, r_1.2.2.2.2.2.2.2.2.1, r_1.2.2.2.2.2.2.2.2.2) else dk_bnd (fX7_in x2 0 2) (fun r_5 => if r_5 = 0 then some ((-2000000000), r_1.2.1, r_1.2.2.1, r_1.2.2.2.1, r_1.2.2.2.2.1, r_1.2.2.2.2.2.1, r_1.2.2.2.2.2.2.1, r_1.2.2.2.2.2.2.2.1, r_1.2.2.2.2.2.2.2.2.1, r_1.2.2.2.2.2.2.2.2.2) else dk_bnd (fX7_isSquare M_battery M_isCut r_1.2.2.2.2.2.1 x1) (fun r_7 => if r_7 = 0 then some ((-2000000000), r_1.2.1, r_1.2.2.1, r_1.2.2.2.1, r_1.2.2.2.2.1, r_1.2.2.2.2.2.1, r_1.2.2.2.2.2.2.1, r_1.2.2.2.2.2.2.2.1, r_1.2.2.2.2.2.2.2.2.1, r_1.2.2.2.2.2.2.2.2.2) else if x2 = 0 then dk_bnd (fX7_leftOf r_1.2.1 r_1.2.2.2.2.2.2.1 x1) (fun r_13 => some (r_13, r_1.2.1, r_1.2.2.1, r_1.2.2.2.1, r_1.2.2.2.2.1, r_1.2.2.2.2.2.1, r_1.2.2.2.2.2.2.1, r_1.2.2.2.2.2.2.2.1, r_1.2.2.2.2.2.2.2.2.1, r_1.2.2.2.2.2.2.2.2.2)) else if x2 = 1 then dk_bnd (fX7_lowOf M_first M_second r_1.2.2.2.2.1 x1) (fun r_12 => some (r_12, r_1.2.1, r_1.2.2.1, r_1.2.2.2.1, r_1.2.2.2.2.1, r_1.2.2.2.2.2.1, r_1.2.2.2.2.2.2.1, r_1.2.2.2.2.2.2.2.1, r_1.2.2.2.2.2.2.2.2.1, r_1.2.2.2.2.2.2.2.2.2)) else dk_bnd (fX7_sideOf r_1.2.2.2.2.2.1 x1) (fun r_11 => some (r_11, r_1.2.1, r_1.2.2.1, r_1.2.2.2.1, r_1.2.2.2.2.1, r_1.2.2.2.2.2.1, r_1.2.2.2.2.2.2.1, r_1.2.2.2.2.2.2.2.1, r_1.2.2.2.2.2.2.2.2.1, r_1.2.2.2.2.2.2.2.2.2))))))
section
variable {p : Program} {l : Launch} {e : Env} {s : State} {m : MethodId} {args : Array Value} {below : List Frame} {meth : Method} {c : Code} {dC : Nat → ClassId} {dI : Nat → Nat → Nat} {cI cJ cZ : ClassId} {A : Nat → Prop} {oM : Nat} {aM : Nat → Nat} {M_knots M_wires M_battery : Int32} {M_first M_second M_isCut M_turns M_turnMany M_wireClaim M_knotClaim : Nat → Int32} {M_hasKept M_keptKnots M_keptWires M_keptBattery : Int32} {M_keptFirst M_keptSecond M_keptTurns M_keptMany M_keptWire M_keptKnot M_keptCut : Nat → Int32} {M_told : Int32} {M_left M_low M_side M_faceOf : Nat → Int32} {M_faceMany : Int32} {M_table : Nat → Int64} {M_heights M_currents M_places : Nat → Int32} {M_treeMany : Int64} {M_wide M_high : Int32} {M_newTurns M_newMany M_lineHeight M_lineLeft M_lineRight : Nat → Int32} {M_lines : Int32}
end
set_option maxHeartbeats 4000000 in
set_option maxRecDepth 100000 in
theorem mX7_square (l : Launch) (dC : Nat → ClassId) (dI : Nat → Nat → Nat) (cI cJ cZ : ClassId) {oM : Nat} {aM : Nat → Nat} {M_knots M_wires M_battery : Int32} {M_first M_second M_isCut M_turns M_turnMany M_wireClaim M_knotClaim : Nat → Int32} {M_hasKept M_keptKnots M_keptWires M_keptBattery : Int32} {M_keptFirst M_keptSecond M_keptTurns M_keptMany M_keptWire M_keptKnot M_keptCut : Nat → Int32} {M_told : Int32} {M_left M_low M_side M_faceOf : Nat → Int32} {M_faceMany : Int32} {M_table : Nat → Int64} {M_heights M_currents M_places : Nat → Int32} {M_treeMany : Int64} {M_wide M_high : Int32} {M_newTurns M_newMany M_lineHeight M_lineLeft M_lineRight : Nat → Int32} {M_lines : Int32} {x1 x2 : Int32} {out : Int32 × (Nat → Int32) × Int32 × (Nat → Int64) × (Nat → Int32) × (Nat → Int32) × (Nat → Int32) × Int64 × Int32 × Int32} (h : fX7_square M_knots M_wires M_battery M_first M_second M_isCut M_turns M_turnMany M_faceOf M_faceMany M_table M_heights M_currents M_places M_treeMany M_wide M_high x1 x2 = some out) (sz : Nat) : Met l yX7_square vsX7_square rX7_square (va_Pc [.ref oM, .int x1, .int x2] (dk_Pre (dC, dI) (dk_ty cI cJ cZ) (wX7 oM aM cI cJ cZ M_knots M_wires M_battery M_first M_second M_isCut M_turns M_turnMany M_wireClaim M_knotClaim M_hasKept M_keptKnots M_keptWires M_keptBattery M_keptFirst M_keptSecond M_keptTurns M_keptMany M_keptWire M_keptKnot M_keptCut M_told M_left M_low M_side M_faceOf M_faceMany M_table M_heights M_currents M_places M_treeMany M_wide M_high M_newTurns M_newMany M_lineHeight M_lineLeft M_lineRight M_lines) sz)) (dk_Qi (dC, dI) (dk_ty cI cJ cZ) (wX7 oM aM cI cJ cZ M_knots M_wires M_battery M_first M_second M_isCut M_turns M_turnMany M_wireClaim M_knotClaim M_hasKept M_keptKnots M_keptWires M_keptBattery M_keptFirst M_keptSecond M_keptTurns M_keptMany M_keptWire M_keptKnot M_keptCut M_told M_left M_low M_side out.2.1 out.2.2.1 out.2.2.2.1 out.2.2.2.2.1 out.2.2.2.2.2.1 out.2.2.2.2.2.2.1 out.2.2.2.2.2.2.2.1 out.2.2.2.2.2.2.2.2.1 out.2.2.2.2.2.2.2.2.2 M_newTurns M_newMany M_lineHeight M_lineLeft M_lineRight M_lines) out.1 (va_A (wX7 oM aM cI cJ cZ M_knots M_wires M_battery M_first M_second M_isCut M_turns M_turnMany M_wireClaim M_knotClaim M_hasKept M_keptKnots M_keptWires M_keptBattery M_keptFirst M_keptSecond M_keptTurns M_keptMany M_keptWire M_keptKnot M_keptCut M_told M_left M_low M_side M_faceOf M_faceMany M_table M_heights M_currents M_places M_treeMany M_wide M_high M_newTurns M_newMany M_lineHeight M_lineLeft M_lineRight M_lines) sz)) 0 0 (va_A (wX7 oM aM cI cJ cZ M_knots M_wires M_battery M_first M_second M_isCut M_turns M_turnMany M_wireClaim M_knotClaim M_hasKept M_keptKnots M_keptWires M_keptBattery M_keptFirst M_keptSecond M_keptTurns M_keptMany M_keptWire M_keptKnot M_keptCut M_told M_left M_low M_side M_faceOf M_faceMany M_table M_heights M_currents M_places M_treeMany M_wide M_high M_newTurns M_newMany M_lineHeight M_lineLeft M_lineRight M_lines) sz) := by
  refine dk_met (cc := cX7_square) (maxL := 3) (ret := (some .int)) (Qc := fun A => dk_Qi (dC, dI) (dk_ty cI cJ cZ) (wX7 oM aM cI cJ cZ M_knots M_wires M_battery M_first M_second M_isCut M_turns M_turnMany M_wireClaim M_knotClaim M_hasKept M_keptKnots M_keptWires M_keptBattery M_keptFirst M_keptSecond M_keptTurns M_keptMany M_keptWire M_keptKnot M_keptCut M_told M_left M_low M_side out.2.1 out.2.2.1 out.2.2.2.1 out.2.2.2.2.1 out.2.2.2.2.2.1 out.2.2.2.2.2.2.1 out.2.2.2.2.2.2.2.1 out.2.2.2.2.2.2.2.2.1 out.2.2.2.2.2.2.2.2.2 M_newTurns M_newMany M_lineHeight M_lineLeft M_lineRight M_lines) out.1 A) (by decide) rfl (Nat.le_of_ble_eq_true rfl) ?_
  intro p e s m below meth c A C hnm hA hK hP hD hS ls hl
  have C : dk_C p s m meth c _ cX7_square (some .int) 3 RX7 vsX7_square := C
  obtain ⟨hx, hb, hr, hml, hown, hts, hlocks⟩ := id C
  have hl : lv_has ls 3 [(0, .ref oM), (1, .int x1), (2, .int x2)] := hl
  unfold fX7_square at h
  refine lv_aload_n hx hb dX7_square_0 rfl (lv_at hl 0 rfl) ?_
  obtain ⟨r_1, hcr_1, h⟩ := dk_bnd_to h
  refine dk_cVi (b := oM) (As := []) (rest := []) (wc := (wX7 oM aM cI cJ cZ M_knots M_wires M_battery M_first M_second M_isCut M_turns M_turnMany M_wireClaim M_knotClaim M_hasKept M_keptKnots M_keptWires M_keptBattery M_keptFirst M_keptSecond M_keptTurns M_keptMany M_keptWire M_keptKnot M_keptCut M_told M_left M_low M_side M_faceOf M_faceMany M_table M_heights M_currents M_places M_treeMany M_wide M_high M_newTurns M_newMany M_lineHeight M_lineLeft M_lineRight M_lines)) (wc' := (wX7 oM aM cI cJ cZ M_knots M_wires M_battery M_first M_second M_isCut M_turns M_turnMany M_wireClaim M_knotClaim M_hasKept M_keptKnots M_keptWires M_keptBattery M_keptFirst M_keptSecond M_keptTurns M_keptMany M_keptWire M_keptKnot M_keptCut M_told M_left M_low M_side r_1.2.1 r_1.2.2.1 r_1.2.2.2.1 r_1.2.2.2.2.1 r_1.2.2.2.2.2.1 r_1.2.2.2.2.2.2.1 r_1.2.2.2.2.2.2.2.1 r_1.2.2.2.2.2.2.2.2.1 r_1.2.2.2.2.2.2.2.2.2 M_newTurns M_newMany M_lineHeight M_lineLeft M_lineRight M_lines)) (wr := []) (ws' := (wX7 oM aM cI cJ cZ M_knots M_wires M_battery M_first M_second M_isCut M_turns M_turnMany M_wireClaim M_knotClaim M_hasKept M_keptKnots M_keptWires M_keptBattery M_keptFirst M_keptSecond M_keptTurns M_keptMany M_keptWire M_keptKnot M_keptCut M_told M_left M_low M_side r_1.2.1 r_1.2.2.1 r_1.2.2.2.1 r_1.2.2.2.2.1 r_1.2.2.2.2.2.1 r_1.2.2.2.2.2.2.1 r_1.2.2.2.2.2.2.2.1 r_1.2.2.2.2.2.2.2.2.1 r_1.2.2.2.2.2.2.2.2.2 M_newTurns M_newMany M_lineHeight M_lineLeft M_lineRight M_lines)) C hK hP hD hS hA (mX7_flows l dC dI cI cJ cZ hcr_1 _) (cwV 0 hts gvX7_square_X7_flows rfl rfl rfl (by decide +kernel) ⟨Nat.le_of_ble_eq_true rfl, Nat.le_of_ble_eq_true rfl⟩) [0, 1, 2, 3, 4, 5, 6, 7, 8, 9, 10, 11, 12, 13, 14, 15, 16, 17, 18, 19, 20, 21, 22, 23, 24, 25, 26, 27] [] [0, 1, 2, 3, 4, 5, 6, 7, 8, 9, 10, 11, 12, 13, 14, 15, 16, 17, 18, 19, 20, 21, 22, 23, 24, 25, 26, 27] rfl (by decide) rfl (by decide) (by decide) rfl (by decide) 0 7 rfl rfl rfl hl.1 rfl (Nat.le_of_ble_eq_true rfl) ⟨Nat.le_of_ble_eq_true rfl, Nat.le_of_ble_eq_true rfl⟩ dX7_square_1 (fun H locs hP hD hS => ?_)
  refine lv_if_eq (tgt := 32) hx hb dX7_square_4 (by decide) (fun c_2 => ?_) (fun c_2 => ?_)
  · replace h := dk_it c_2 h
    refine lv_ldc (v := (-2000000000)) hx hb hown (hts _ qX7_square_k107) dX7_square_32 ?_
    have e9 := Option.some.inj h
    subst e9
    exact dk_iret C hK hP hD hS rfl dX7_square_34
  · replace h := dk_ie c_2 h
    refine lv_aload_n hx hb dX7_square_7 rfl (lv_at hl 0 rfl) ?_
    refine lv_iload_n hx hb dX7_square_8 rfl (lv_at hl 1 rfl) ?_
    obtain ⟨r_3, hcr_3, h⟩ := dk_bnd_to h
    refine dk_rVi (b := oM) (As := [.int x1]) (rest := []) (wc := (wX7 oM aM cI cJ cZ M_knots M_wires M_battery M_first M_second M_isCut M_turns M_turnMany M_wireClaim M_knotClaim M_hasKept M_keptKnots M_keptWires M_keptBattery M_keptFirst M_keptSecond M_keptTurns M_keptMany M_keptWire M_keptKnot M_keptCut M_told M_left M_low M_side r_1.2.1 r_1.2.2.1 r_1.2.2.2.1 r_1.2.2.2.2.1 r_1.2.2.2.2.2.1 r_1.2.2.2.2.2.2.1 r_1.2.2.2.2.2.2.2.1 r_1.2.2.2.2.2.2.2.2.1 r_1.2.2.2.2.2.2.2.2.2 M_newTurns M_newMany M_lineHeight M_lineLeft M_lineRight M_lines)) C hK hP hD hS hA (mX7_isWire l dC dI cI cJ cZ hcr_3 _) (cwV 1 hts gvX7_square_X7_isWire rfl rfl rfl (by decide +kernel) ⟨Nat.le_of_ble_eq_true rfl, Nat.le_of_ble_eq_true rfl⟩) [0, 1, 2, 3, 4, 5, 6, 7, 8, 9, 10, 11, 12, 13, 14, 15, 16, 17, 18, 19, 20, 21, 22, 23, 24, 25, 26, 27] rfl (by decide) 0 7 rfl rfl rfl hl.1 rfl (Nat.le_of_ble_eq_true rfl) ⟨Nat.le_of_ble_eq_true rfl, Nat.le_of_ble_eq_true rfl⟩ dX7_square_9 (fun H locs hP hD hS => ?_)
    refine lv_if_eq (tgt := 32) hx hb dX7_square_12 (by decide) (fun c_4 => ?_) (fun c_4 => ?_)
    · replace h := dk_it c_4 h
      refine lv_ldc (v := (-2000000000)) hx hb hown (hts _ qX7_square_k107) dX7_square_32 ?_
      have e9 := Option.some.inj h
      subst e9
      exact dk_iret C hK hP hD hS rfl dX7_square_34
    · replace h := dk_ie c_4 h
      refine lv_iload_n hx hb dX7_square_15 rfl (lv_at hl 2 rfl) ?_
      refine lv_iconst (v := 0) hx hb dX7_square_16 (by decide) ?_
      refine lv_iconst (v := 2) hx hb dX7_square_17 (by decide) ?_
      obtain ⟨r_5, hcr_5, h⟩ := dk_bnd_to h
      refine dk_rSi (As := [.int x2, .int 0, .int 2]) (rest := []) (wc := []) C hK hP hD hS hA (mX7_in l dC dI cI cJ cZ hcr_5 _) (va_cwS 3 hts gvX7_square_X7_in rfl rfl rfl (by decide +kernel) ⟨Nat.le_of_ble_eq_true rfl, Nat.le_of_ble_eq_true rfl⟩) [] rfl (by decide) rfl hl.1 rfl (Nat.le_of_ble_eq_true rfl) ⟨Nat.le_of_ble_eq_true rfl, Nat.le_of_ble_eq_true rfl⟩ dX7_square_18 (fun H locs hP hD hS => ?_)
      refine lv_if_eq (tgt := 32) hx hb dX7_square_21 (by decide) (fun c_6 => ?_) (fun c_6 => ?_)
      · replace h := dk_it c_6 h
        refine lv_ldc (v := (-2000000000)) hx hb hown (hts _ qX7_square_k107) dX7_square_32 ?_
        have e9 := Option.some.inj h
        subst e9
        exact dk_iret C hK hP hD hS rfl dX7_square_34
      · replace h := dk_ie c_6 h
        refine lv_aload_n hx hb dX7_square_24 rfl (lv_at hl 0 rfl) ?_
        refine lv_iload_n hx hb dX7_square_25 rfl (lv_at hl 1 rfl) ?_
        obtain ⟨r_7, hcr_7, h⟩ := dk_bnd_to h
        refine dk_rVi (b := oM) (As := [.int x1]) (rest := []) (wc := (wX7 oM aM cI cJ cZ M_knots M_wires M_battery M_first M_second M_isCut M_turns M_turnMany M_wireClaim M_knotClaim M_hasKept M_keptKnots M_keptWires M_keptBattery M_keptFirst M_keptSecond M_keptTurns M_keptMany M_keptWire M_keptKnot M_keptCut M_told M_left M_low M_side r_1.2.1 r_1.2.2.1 r_1.2.2.2.1 r_1.2.2.2.2.1 r_1.2.2.2.2.2.1 r_1.2.2.2.2.2.2.1 r_1.2.2.2.2.2.2.2.1 r_1.2.2.2.2.2.2.2.2.1 r_1.2.2.2.2.2.2.2.2.2 M_newTurns M_newMany M_lineHeight M_lineLeft M_lineRight M_lines)) C hK hP hD hS hA (mX7_isSquare l dC dI cI cJ cZ hcr_7 _) (cwV 1 hts gvX7_square_X7_isSquare rfl rfl rfl (by decide +kernel) ⟨Nat.le_of_ble_eq_true rfl, Nat.le_of_ble_eq_true rfl⟩) [0, 1, 2, 3, 4, 5, 6, 7, 8, 9, 10, 11, 12, 13, 14, 15, 16, 17, 18, 19, 20, 21, 22, 23, 24, 25, 26, 27] rfl (by decide) 0 7 rfl rfl rfl hl.1 rfl (Nat.le_of_ble_eq_true rfl) ⟨Nat.le_of_ble_eq_true rfl, Nat.le_of_ble_eq_true rfl⟩ dX7_square_26 (fun H locs hP hD hS => ?_)
        refine lv_if_ne (tgt := 35) hx hb dX7_square_29 (by decide) (fun c_8 => ?_) (fun c_8 => ?_)
        · replace h := dk_ie c_8 h
          refine lv_iload_n hx hb dX7_square_35 rfl (lv_at hl 2 rfl) ?_
          refine lv_if_ne (tgt := 47) hx hb dX7_square_36 (by decide) (fun c_9 => ?_) (fun c_9 => ?_)
          · replace h := dk_ie c_9 h
            refine lv_iload_n hx hb dX7_square_47 rfl (lv_at hl 2 rfl) ?_
            refine lv_iconst (v := 1) hx hb dX7_square_48 (by decide) ?_
            refine lv_icmp_ne (tgt := 60) hx hb dX7_square_49 (by decide) (fun c_10 => ?_) (fun c_10 => ?_)
            · replace h := dk_ie c_10 h
              refine lv_aload_n hx hb dX7_square_60 rfl (lv_at hl 0 rfl) ?_
              refine lv_iload_n hx hb dX7_square_61 rfl (lv_at hl 1 rfl) ?_
              obtain ⟨r_11, hcr_11, h⟩ := dk_bnd_to h
              refine dk_rVi (b := oM) (As := [.int x1]) (rest := []) (wc := (wX7 oM aM cI cJ cZ M_knots M_wires M_battery M_first M_second M_isCut M_turns M_turnMany M_wireClaim M_knotClaim M_hasKept M_keptKnots M_keptWires M_keptBattery M_keptFirst M_keptSecond M_keptTurns M_keptMany M_keptWire M_keptKnot M_keptCut M_told M_left M_low M_side r_1.2.1 r_1.2.2.1 r_1.2.2.2.1 r_1.2.2.2.2.1 r_1.2.2.2.2.2.1 r_1.2.2.2.2.2.2.1 r_1.2.2.2.2.2.2.2.1 r_1.2.2.2.2.2.2.2.2.1 r_1.2.2.2.2.2.2.2.2.2 M_newTurns M_newMany M_lineHeight M_lineLeft M_lineRight M_lines)) C hK hP hD hS hA (mX7_sideOf l dC dI cI cJ cZ hcr_11 _) (cwV 1 hts gvX7_square_X7_sideOf rfl rfl rfl (by decide +kernel) ⟨Nat.le_of_ble_eq_true rfl, Nat.le_of_ble_eq_true rfl⟩) [0, 1, 2, 3, 4, 5, 6, 7, 8, 9, 10, 11, 12, 13, 14, 15, 16, 17, 18, 19, 20, 21, 22, 23, 24, 25, 26, 27] rfl (by decide) 0 7 rfl rfl rfl hl.1 rfl (Nat.le_of_ble_eq_true rfl) ⟨Nat.le_of_ble_eq_true rfl, Nat.le_of_ble_eq_true rfl⟩ dX7_square_62 (fun H locs hP hD hS => ?_)
              have e9 := Option.some.inj h
              subst e9
              exact dk_iret C hK hP hD hS rfl dX7_square_65
            · replace h := dk_it c_10 h
              refine lv_aload_n hx hb dX7_square_52 rfl (lv_at hl 0 rfl) ?_
              refine lv_iload_n hx hb dX7_square_53 rfl (lv_at hl 1 rfl) ?_
              obtain ⟨r_12, hcr_12, h⟩ := dk_bnd_to h
              refine dk_rVi (b := oM) (As := [.int x1]) (rest := []) (wc := (wX7 oM aM cI cJ cZ M_knots M_wires M_battery M_first M_second M_isCut M_turns M_turnMany M_wireClaim M_knotClaim M_hasKept M_keptKnots M_keptWires M_keptBattery M_keptFirst M_keptSecond M_keptTurns M_keptMany M_keptWire M_keptKnot M_keptCut M_told M_left M_low M_side r_1.2.1 r_1.2.2.1 r_1.2.2.2.1 r_1.2.2.2.2.1 r_1.2.2.2.2.2.1 r_1.2.2.2.2.2.2.1 r_1.2.2.2.2.2.2.2.1 r_1.2.2.2.2.2.2.2.2.1 r_1.2.2.2.2.2.2.2.2.2 M_newTurns M_newMany M_lineHeight M_lineLeft M_lineRight M_lines)) C hK hP hD hS hA (mX7_lowOf l dC dI cI cJ cZ hcr_12 _) (cwV 1 hts gvX7_square_X7_lowOf rfl rfl rfl (by decide +kernel) ⟨Nat.le_of_ble_eq_true rfl, Nat.le_of_ble_eq_true rfl⟩) [0, 1, 2, 3, 4, 5, 6, 7, 8, 9, 10, 11, 12, 13, 14, 15, 16, 17, 18, 19, 20, 21, 22, 23, 24, 25, 26, 27] rfl (by decide) 0 7 rfl rfl rfl hl.1 rfl (Nat.le_of_ble_eq_true rfl) ⟨Nat.le_of_ble_eq_true rfl, Nat.le_of_ble_eq_true rfl⟩ dX7_square_54 (fun H locs hP hD hS => ?_)
              refine lv_goto (tgt := 65) hx hb dX7_square_57 (by decide) ?_
              have e9 := Option.some.inj h
              subst e9
              exact dk_iret C hK hP hD hS rfl dX7_square_65
          · replace h := dk_it c_9 h
            refine lv_aload_n hx hb dX7_square_39 rfl (lv_at hl 0 rfl) ?_
            refine lv_iload_n hx hb dX7_square_40 rfl (lv_at hl 1 rfl) ?_
            obtain ⟨r_13, hcr_13, h⟩ := dk_bnd_to h
            refine dk_rVi (b := oM) (As := [.int x1]) (rest := []) (wc := (wX7 oM aM cI cJ cZ M_knots M_wires M_battery M_first M_second M_isCut M_turns M_turnMany M_wireClaim M_knotClaim M_hasKept M_keptKnots M_keptWires M_keptBattery M_keptFirst M_keptSecond M_keptTurns M_keptMany M_keptWire M_keptKnot M_keptCut M_told M_left M_low M_side r_1.2.1 r_1.2.2.1 r_1.2.2.2.1 r_1.2.2.2.2.1 r_1.2.2.2.2.2.1 r_1.2.2.2.2.2.2.1 r_1.2.2.2.2.2.2.2.1 r_1.2.2.2.2.2.2.2.2.1 r_1.2.2.2.2.2.2.2.2.2 M_newTurns M_newMany M_lineHeight M_lineLeft M_lineRight M_lines)) C hK hP hD hS hA (mX7_leftOf l dC dI cI cJ cZ hcr_13 _) (cwV 1 hts gvX7_square_X7_leftOf rfl rfl rfl (by decide +kernel) ⟨Nat.le_of_ble_eq_true rfl, Nat.le_of_ble_eq_true rfl⟩) [0, 1, 2, 3, 4, 5, 6, 7, 8, 9, 10, 11, 12, 13, 14, 15, 16, 17, 18, 19, 20, 21, 22, 23, 24, 25, 26, 27] rfl (by decide) 0 7 rfl rfl rfl hl.1 rfl (Nat.le_of_ble_eq_true rfl) ⟨Nat.le_of_ble_eq_true rfl, Nat.le_of_ble_eq_true rfl⟩ dX7_square_41 (fun H locs hP hD hS => ?_)
            refine lv_goto (tgt := 65) hx hb dX7_square_44 (by decide) ?_
            have e9 := Option.some.inj h
            subst e9
            exact dk_iret C hK hP hD hS rfl dX7_square_65
        · replace h := dk_it c_8 h
          refine lv_ldc (v := (-2000000000)) hx hb hown (hts _ qX7_square_k107) dX7_square_32 ?_
          have e9 := Option.some.inj h
          subst e9
          exact dk_iret C hK hP hD hS rfl dX7_square_34

/-! ===== SquareTilerModel.count ===== -/
abbrev rX7_count : Room := { frames := 0, cells := 0, slots := 0, locals := 0 }
def ovX7_count : List Cond := [Cond.constant RX7 107 (-2000000000), Cond.fieldLink RX7 7 "SquareTilerModel" "battery" "I", Cond.fieldLink RX7 222 "SquareTilerModel" "told" "I", Cond.fieldLink RX7 104 "SquareTilerModel" "wires" "I", Cond.fieldLink RX7 97 "SquareTilerModel" "knots" "I"]
def vsX7_count : List Cond := .code yX7_count cX7_count 2 (some .int) :: (ovX7_count ++ (wsX70 ++ []))
theorem qX7_count_k107 : Cond.constant RX7 107 (-2000000000) ∈ vsX7_count := List.mem_cons_of_mem _ (List.mem_append_left _ (List.mem_of_getElem? (i := 0) rfl))
theorem qX7_count_f7 : Cond.fieldLink RX7 7 "SquareTilerModel" "battery" "I" ∈ vsX7_count := List.mem_cons_of_mem _ (List.mem_append_left _ (List.mem_of_getElem? (i := 1) rfl))
theorem qX7_count_f222 : Cond.fieldLink RX7 222 "SquareTilerModel" "told" "I" ∈ vsX7_count := List.mem_cons_of_mem _ (List.mem_append_left _ (List.mem_of_getElem? (i := 2) rfl))
theorem qX7_count_f104 : Cond.fieldLink RX7 104 "SquareTilerModel" "wires" "I" ∈ vsX7_count := List.mem_cons_of_mem _ (List.mem_append_left _ (List.mem_of_getElem? (i := 3) rfl))
theorem qX7_count_f97 : Cond.fieldLink RX7 97 "SquareTilerModel" "knots" "I" ∈ vsX7_count := List.mem_cons_of_mem _ (List.mem_append_left _ (List.mem_of_getElem? (i := 4) rfl))
theorem qX7_count_X7 : ∀ w ∈ u_ws RX7 TX7 40, w ∈ vsX7_count := fun w h => List.mem_cons_of_mem _ (List.mem_append_right _ (List.mem_append_left _ h))
theorem gd_vsX7_count : ∀ w ∈ vsX7_count, goodWord w = true := dk_cons rfl (dk_app (dk_all (by decide +kernel)) (dk_app gd_wsX70 dk_nil))
def fX7_count (M_knots M_wires M_battery M_told x1 : Int32) : Option (Int32) := if x1 = 0 then some M_knots else if x1 = 1 then some M_wires else if x1 = 2 then some M_told else if x1 = 3 then some M_battery else some (-2000000000)
section
variable {p : Program} {l : Launch} {e : Env} {s : State} {m : MethodId} {args : Array Value} {below : List Frame} {meth : Method} {c : Code} {dC : Nat → ClassId} {dI : Nat → Nat → Nat} {cI cJ cZ : ClassId} {A : Nat → Prop} {oM : Nat} {aM : Nat → Nat} {M_knots M_wires M_battery : Int32} {M_first M_second M_isCut M_turns M_turnMany M_wireClaim M_knotClaim : Nat → Int32} {M_hasKept M_keptKnots M_keptWires M_keptBattery : Int32} {M_keptFirst M_keptSecond M_keptTurns M_keptMany M_keptWire M_keptKnot M_keptCut : Nat → Int32} {M_told : Int32} {M_left M_low M_side M_faceOf : Nat → Int32} {M_faceMany : Int32} {M_table : Nat → Int64} {M_heights M_currents M_places : Nat → Int32} {M_treeMany : Int64} {M_wide M_high : Int32} {M_newTurns M_newMany M_lineHeight M_lineLeft M_lineRight : Nat → Int32} {M_lines : Int32}
end
set_option maxHeartbeats 4000000 in
set_option maxRecDepth 100000 in
theorem mX7_count (l : Launch) (dC : Nat → ClassId) (dI : Nat → Nat → Nat) (cI cJ cZ : ClassId) {oM : Nat} {aM : Nat → Nat} {M_knots M_wires M_battery : Int32} {M_first M_second M_isCut M_turns M_turnMany M_wireClaim M_knotClaim : Nat → Int32} {M_hasKept M_keptKnots M_keptWires M_keptBattery : Int32} {M_keptFirst M_keptSecond M_keptTurns M_keptMany M_keptWire M_keptKnot M_keptCut : Nat → Int32} {M_told : Int32} {M_left M_low M_side M_faceOf : Nat → Int32} {M_faceMany : Int32} {M_table : Nat → Int64} {M_heights M_currents M_places : Nat → Int32} {M_treeMany : Int64} {M_wide M_high : Int32} {M_newTurns M_newMany M_lineHeight M_lineLeft M_lineRight : Nat → Int32} {M_lines : Int32} {x1 : Int32} {out : Int32} (h : fX7_count M_knots M_wires M_battery M_told x1 = some out) (sz : Nat) : Met l yX7_count vsX7_count rX7_count (va_Pc [.ref oM, .int x1] (dk_Pre (dC, dI) (dk_ty cI cJ cZ) (wX7 oM aM cI cJ cZ M_knots M_wires M_battery M_first M_second M_isCut M_turns M_turnMany M_wireClaim M_knotClaim M_hasKept M_keptKnots M_keptWires M_keptBattery M_keptFirst M_keptSecond M_keptTurns M_keptMany M_keptWire M_keptKnot M_keptCut M_told M_left M_low M_side M_faceOf M_faceMany M_table M_heights M_currents M_places M_treeMany M_wide M_high M_newTurns M_newMany M_lineHeight M_lineLeft M_lineRight M_lines) sz)) (dk_Qi (dC, dI) (dk_ty cI cJ cZ) (wX7 oM aM cI cJ cZ M_knots M_wires M_battery M_first M_second M_isCut M_turns M_turnMany M_wireClaim M_knotClaim M_hasKept M_keptKnots M_keptWires M_keptBattery M_keptFirst M_keptSecond M_keptTurns M_keptMany M_keptWire M_keptKnot M_keptCut M_told M_left M_low M_side M_faceOf M_faceMany M_table M_heights M_currents M_places M_treeMany M_wide M_high M_newTurns M_newMany M_lineHeight M_lineLeft M_lineRight M_lines) out (va_A (wX7 oM aM cI cJ cZ M_knots M_wires M_battery M_first M_second M_isCut M_turns M_turnMany M_wireClaim M_knotClaim M_hasKept M_keptKnots M_keptWires M_keptBattery M_keptFirst M_keptSecond M_keptTurns M_keptMany M_keptWire M_keptKnot M_keptCut M_told M_left M_low M_side M_faceOf M_faceMany M_table M_heights M_currents M_places M_treeMany M_wide M_high M_newTurns M_newMany M_lineHeight M_lineLeft M_lineRight M_lines) sz)) 0 0 (va_A (wX7 oM aM cI cJ cZ M_knots M_wires M_battery M_first M_second M_isCut M_turns M_turnMany M_wireClaim M_knotClaim M_hasKept M_keptKnots M_keptWires M_keptBattery M_keptFirst M_keptSecond M_keptTurns M_keptMany M_keptWire M_keptKnot M_keptCut M_told M_left M_low M_side M_faceOf M_faceMany M_table M_heights M_currents M_places M_treeMany M_wide M_high M_newTurns M_newMany M_lineHeight M_lineLeft M_lineRight M_lines) sz) := by
  refine dk_met (cc := cX7_count) (maxL := 2) (ret := (some .int)) (Qc := fun A => dk_Qi (dC, dI) (dk_ty cI cJ cZ) (wX7 oM aM cI cJ cZ M_knots M_wires M_battery M_first M_second M_isCut M_turns M_turnMany M_wireClaim M_knotClaim M_hasKept M_keptKnots M_keptWires M_keptBattery M_keptFirst M_keptSecond M_keptTurns M_keptMany M_keptWire M_keptKnot M_keptCut M_told M_left M_low M_side M_faceOf M_faceMany M_table M_heights M_currents M_places M_treeMany M_wide M_high M_newTurns M_newMany M_lineHeight M_lineLeft M_lineRight M_lines) out A) (by decide) rfl (Nat.le_of_ble_eq_true rfl) ?_
  intro p e s m below meth c A C hnm hA hK hP hD hS ls hl
  have C : dk_C p s m meth c _ cX7_count (some .int) 2 RX7 vsX7_count := C
  obtain ⟨hx, hb, hr, hml, hown, hts, hlocks⟩ := id C
  have hl : lv_has ls 2 [(0, .ref oM), (1, .int x1)] := hl
  unfold fX7_count at h
  refine lv_iload_n hx hb dX7_count_0 rfl (lv_at hl 1 rfl) ?_
  refine lv_if_ne (tgt := 11) hx hb dX7_count_1 (by decide) (fun c_1 => ?_) (fun c_1 => ?_)
  · replace h := dk_ie c_1 h
    refine lv_iload_n hx hb dX7_count_11 rfl (lv_at hl 1 rfl) ?_
    refine lv_iconst (v := 1) hx hb dX7_count_12 (by decide) ?_
    refine lv_icmp_ne (tgt := 23) hx hb dX7_count_13 (by decide) (fun c_2 => ?_) (fun c_2 => ?_)
    · replace h := dk_ie c_2 h
      refine lv_iload_n hx hb dX7_count_23 rfl (lv_at hl 1 rfl) ?_
      refine lv_iconst (v := 2) hx hb dX7_count_24 (by decide) ?_
      refine lv_icmp_ne (tgt := 35) hx hb dX7_count_25 (by decide) (fun c_3 => ?_) (fun c_3 => ?_)
      · replace h := dk_ie c_3 h
        refine lv_iload_n hx hb dX7_count_35 rfl (lv_at hl 1 rfl) ?_
        refine lv_iconst (v := 3) hx hb dX7_count_36 (by decide) ?_
        refine lv_icmp_ne (tgt := 47) hx hb dX7_count_37 (by decide) (fun c_4 => ?_) (fun c_4 => ?_)
        · replace h := dk_ie c_4 h
          refine lv_ldc (v := (-2000000000)) hx hb hown (hts _ qX7_count_k107) dX7_count_47 ?_
          have e9 := Option.some.inj h
          subst e9
          exact dk_iret C hK hP hD hS rfl dX7_count_49
        · replace h := dk_it c_4 h
          refine lv_aload_n hx hb dX7_count_40 rfl (lv_at hl 0 rfl) ?_
          refine va_get (D := (dC, dI)) (ci := 7) (v := .int M_battery) (C := RX7) (T := TX7) (N := 40) hx hb hts qX7_count_X7 hown hK hP 0 rfl rfl 2 (by decide) (hts _ qX7_count_f7) (fun _ h9 => h9) rfl dX7_count_41 ?_
          refine lv_goto (tgt := 49) hx hb dX7_count_44 (by decide) ?_
          have e9 := Option.some.inj h
          subst e9
          exact dk_iret C hK hP hD hS rfl dX7_count_49
      · replace h := dk_it c_3 h
        refine lv_aload_n hx hb dX7_count_28 rfl (lv_at hl 0 rfl) ?_
        refine va_get (D := (dC, dI)) (ci := 7) (v := .int M_told) (C := RX7) (T := TX7) (N := 40) hx hb hts qX7_count_X7 hown hK hP 0 rfl rfl 21 (by decide) (hts _ qX7_count_f222) (fun _ h9 => h9) rfl dX7_count_29 ?_
        refine lv_goto (tgt := 49) hx hb dX7_count_32 (by decide) ?_
        have e9 := Option.some.inj h
        subst e9
        exact dk_iret C hK hP hD hS rfl dX7_count_49
    · replace h := dk_it c_2 h
      refine lv_aload_n hx hb dX7_count_16 rfl (lv_at hl 0 rfl) ?_
      refine va_get (D := (dC, dI)) (ci := 7) (v := .int M_wires) (C := RX7) (T := TX7) (N := 40) hx hb hts qX7_count_X7 hown hK hP 0 rfl rfl 1 (by decide) (hts _ qX7_count_f104) (fun _ h9 => h9) rfl dX7_count_17 ?_
      refine lv_goto (tgt := 49) hx hb dX7_count_20 (by decide) ?_
      have e9 := Option.some.inj h
      subst e9
      exact dk_iret C hK hP hD hS rfl dX7_count_49
  · replace h := dk_it c_1 h
    refine lv_aload_n hx hb dX7_count_4 rfl (lv_at hl 0 rfl) ?_
    refine va_get (D := (dC, dI)) (ci := 7) (v := .int M_knots) (C := RX7) (T := TX7) (N := 40) hx hb hts qX7_count_X7 hown hK hP 0 rfl rfl 0 (by decide) (hts _ qX7_count_f97) (fun _ h9 => h9) rfl dX7_count_5 ?_
    refine lv_goto (tgt := 49) hx hb dX7_count_8 (by decide) ?_
    have e9 := Option.some.inj h
    subst e9
    exact dk_iret C hK hP hD hS rfl dX7_count_49

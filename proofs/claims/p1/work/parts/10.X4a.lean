/-! ===== SquareTiler$Net.spotInTurn ===== -/
abbrev rX4_spotInTurn : Room := { frames := 0, cells := 0, slots := 0, locals := 0 }
def ovX4_spotInTurn : List Cond := [Cond.fieldLink RX4 28 "SquareTiler$Net" "turnSize" "[I", Cond.fieldLink RX4 31 "SquareTiler$Net" "turns" "[I"]
def vsX4_spotInTurn : List Cond := .code yX4_spotInTurn cX4_spotInTurn 4 (some .int) :: (ovX4_spotInTurn ++ (wsX40 ++ []))
theorem qX4_spotInTurn_f28 : Cond.fieldLink RX4 28 "SquareTiler$Net" "turnSize" "[I" ∈ vsX4_spotInTurn := List.mem_cons_of_mem _ (List.mem_append_left _ (List.mem_of_getElem? (i := 0) rfl))
theorem qX4_spotInTurn_f31 : Cond.fieldLink RX4 31 "SquareTiler$Net" "turns" "[I" ∈ vsX4_spotInTurn := List.mem_cons_of_mem _ (List.mem_append_left _ (List.mem_of_getElem? (i := 1) rfl))
theorem qX4_spotInTurn_X4 : ∀ w ∈ u_ws RX4 TX4 10, w ∈ vsX4_spotInTurn := fun w h => List.mem_cons_of_mem _ (List.mem_append_right _ (List.mem_append_left _ h))
theorem gd_vsX4_spotInTurn : ∀ w ∈ vsX4_spotInTurn, goodWord w = true := dk_cons rfl (dk_app (dk_all (by decide +kernel)) (dk_app gd_wsX40 dk_nil))
def bX4_spotInTurn_2 (N_turnSize N_turns : Nat → Int32) (x1 x2 : Int32) (st : Int32) : Option (((Int32) ⊕ (Unit)) ⊕ (Int32)) := dk_gd (dk_in x1 12) (if (N_turnSize x1.toNatClampNeg) ≤ st then some (.inl (.inr ())) else dk_gd (dk_in ((x1 * 22) + st) 264) (if (N_turns ((x1 * 22) + st).toNatClampNeg) = x2 then some (.inl (.inl st)) else dk_let (st + 1) (fun x3_7 => some (.inr x3_7))))
def fX4_spotInTurn (N_turnSize N_turns : Nat → Int32) (x1 x2 : Int32) : Option (Int32) := dk_bnd (dk_loop (bX4_spotInTurn_2 N_turnSize N_turns x1 x2) 1000 0) (fun r_1 => dk_sum r_1 (fun zz => some zz) (fun z_2 => some (-1)))
section
variable {p : Program} {l : Launch} {e : Env} {s : State} {m : MethodId} {args : Array Value} {below : List Frame} {meth : Method} {c : Code} {dC : Nat → ClassId} {dI : Nat → Nat → Nat} {cI cJ cZ : ClassId} {A : Nat → Prop} {oN : Nat} {aN : Nat → Nat} {N_first N_second N_isCut N_wireClaim N_knotClaim N_turnSize N_turns : Nat → Int32} {N_knots N_wires N_power : Int32}
set_option maxHeartbeats 4000000 in
set_option maxRecDepth 100000 in
theorem tX4_spotInTurn_2 (C : dk_C p s m meth c args cX4_spotInTurn (some .int) 4 RX4 vsX4_spotInTurn) (hK : va_K (dC, dI) vwCl (dk_ty cI cJ cZ) s) (hA : ∀ q : Nat, s.heap.size ≤ q → A q) {out : Int32} {x1 x2 : Int32} {st : Int32} {y : ((Int32) ⊕ (Unit)) ⊕ (Int32)} (h : bX4_spotInTurn_2 N_turnSize N_turns x1 x2 st = some y) (hR : ∀ z : Int32, y = .inl (.inl z) → z = out) (hE : ∀ z : Unit, y = .inl (.inr z) → ∀ (H : Heap) (locs : List Loc), va_P (dC, dI) vwCl (wX4 oN aN cI cJ cZ N_first N_second N_isCut N_wireClaim N_knotClaim N_turnSize N_turns N_knots N_wires N_power) H → va_D A (wX4 oN aN cI cJ cZ N_first N_second N_isCut N_wireClaim N_knotClaim N_turnSize N_turns N_knots N_wires N_power) → va_S A s.heap H locs → ∀ ls : Array Slot, lv_has ls 4 [(0, .ref oN)] → W p l e rX4_spotInTurn s m args below meth c H locs 0 0 (MQ below (dk_Qi (dC, dI) (dk_ty cI cJ cZ) (wX4 oN aN cI cJ cZ N_first N_second N_isCut N_wireClaim N_knotClaim N_turnSize N_turns N_knots N_wires N_power) out A) args s 0 0 A) (F0 m 35 ls [])) (hC : ∀ z : Int32, y = .inr z → ∀ (H : Heap) (locs : List Loc), va_P (dC, dI) vwCl (wX4 oN aN cI cJ cZ N_first N_second N_isCut N_wireClaim N_knotClaim N_turnSize N_turns N_knots N_wires N_power) H → va_D A (wX4 oN aN cI cJ cZ N_first N_second N_isCut N_wireClaim N_knotClaim N_turnSize N_turns N_knots N_wires N_power) → va_S A s.heap H locs → ∀ ls : Array Slot, lv_has ls 4 [(0, .ref oN), (1, .int x1), (2, .int x2), (3, .int z)] → W p l e rX4_spotInTurn s m args below meth c H locs 0 0 (MQ below (dk_Qi (dC, dI) (dk_ty cI cJ cZ) (wX4 oN aN cI cJ cZ N_first N_second N_isCut N_wireClaim N_knotClaim N_turnSize N_turns N_knots N_wires N_power) out A) args s 0 0 A) (F0 m 2 ls [])) : ∀ (H : Heap) (locs : List Loc), va_P (dC, dI) vwCl (wX4 oN aN cI cJ cZ N_first N_second N_isCut N_wireClaim N_knotClaim N_turnSize N_turns N_knots N_wires N_power) H → va_D A (wX4 oN aN cI cJ cZ N_first N_second N_isCut N_wireClaim N_knotClaim N_turnSize N_turns N_knots N_wires N_power) → va_S A s.heap H locs → ∀ ls : Array Slot, lv_has ls 4 [(0, .ref oN), (1, .int x1), (2, .int x2), (3, .int st)] → W p l e rX4_spotInTurn s m args below meth c H locs 0 0 (MQ below (dk_Qi (dC, dI) (dk_ty cI cJ cZ) (wX4 oN aN cI cJ cZ N_first N_second N_isCut N_wireClaim N_knotClaim N_turnSize N_turns N_knots N_wires N_power) out A) args s 0 0 A) (F0 m 2 ls []) := by
  obtain ⟨hx, hb, hr, hml, hown, hts, hlocks⟩ := id C
  intro H locs hP hD hS ls hl
  unfold bX4_spotInTurn_2 at h
  refine lv_iload_n hx hb dX4_spotInTurn_2 rfl (lv_at hl 3 rfl) ?_
  refine lv_aload_n hx hb dX4_spotInTurn_3 rfl (lv_at hl 0 rfl) ?_
  refine va_get (D := (dC, dI)) (ci := 4) (v := .ref (aN 5)) (C := RX4) (T := TX4) (N := 10) hx hb hts qX4_spotInTurn_X4 hown hK hP 0 rfl rfl 5 (by decide) (hts _ qX4_spotInTurn_f28) (fun _ h9 => h9) rfl dX4_spotInTurn_4 ?_
  refine lv_iload_n hx hb dX4_spotInTurn_7 rfl (lv_at hl 1 rfl) ?_
  obtain ⟨g_3, h⟩ := dk_gd_to h
  have g_3 := dk_in_to g_3
  refine va_iald hx hb hK hP 6 0 rfl rfl g_3 dX4_spotInTurn_8 ?_
  refine lv_icmp_ge (tgt := 35) hx hb dX4_spotInTurn_9 (by decide) (fun c_4 => ?_) (fun c_4 => ?_)
  · replace h := dk_it c_4 h
    exact hE _ (Option.some.inj h).symm _ _ hP hD hS ls (lv_sub hl [0] rfl)
  · replace h := dk_ie c_4 h
    refine lv_aload_n hx hb dX4_spotInTurn_12 rfl (lv_at hl 0 rfl) ?_
    refine va_get (D := (dC, dI)) (ci := 4) (v := .ref (aN 6)) (C := RX4) (T := TX4) (N := 10) hx hb hts qX4_spotInTurn_X4 hown hK hP 0 rfl rfl 6 (by decide) (hts _ qX4_spotInTurn_f31) (fun _ h9 => h9) rfl dX4_spotInTurn_13 ?_
    refine lv_iload_n hx hb dX4_spotInTurn_16 rfl (lv_at hl 1 rfl) ?_
    refine lv_bipush (v := 22) hx hb dX4_spotInTurn_17 (by decide) ?_
    refine lv_imul hx hb dX4_spotInTurn_19 ?_
    refine lv_iload_n hx hb dX4_spotInTurn_20 rfl (lv_at hl 3 rfl) ?_
    refine lv_iadd hx hb dX4_spotInTurn_21 ?_
    obtain ⟨g_5, h⟩ := dk_gd_to h
    have g_5 := dk_in_to g_5
    refine va_iald hx hb hK hP 7 0 rfl rfl g_5 dX4_spotInTurn_22 ?_
    refine lv_iload_n hx hb dX4_spotInTurn_23 rfl (lv_at hl 2 rfl) ?_
    refine lv_icmp_ne (tgt := 29) hx hb dX4_spotInTurn_24 (by decide) (fun c_6 => ?_) (fun c_6 => ?_)
    · replace h := dk_ie c_6 h
      obtain ⟨x3_7, ex3_7⟩ : ∃ z : Int32, z = st + 1 := ⟨_, rfl⟩
      replace h := dk_let_to ex3_7 h
      refine lv_iinc (v := x3_7) (lv' := [(3, .int x3_7), (0, .ref oN), (1, .int x1), (2, .int x2)]) hx hb dX4_spotInTurn_29 hl (k := 3) rfl (by rw [ex3_7]; rfl) (by decide) rfl (fun ls hl => ?_)
      refine lv_goto (tgt := 2) hx hb dX4_spotInTurn_32 (by decide) ?_
      exact hC _ (Option.some.inj h).symm _ _ hP hD hS ls (lv_sub hl [1, 2, 3, 0] rfl)
    · replace h := dk_it c_6 h
      refine lv_iload_n hx hb dX4_spotInTurn_27 rfl (lv_at hl 3 rfl) ?_
      have e9 := hR _ (Option.some.inj h).symm
      subst e9
      exact dk_iret C hK hP hD hS rfl dX4_spotInTurn_28
set_option maxHeartbeats 4000000 in
set_option maxRecDepth 100000 in
theorem lX4_spotInTurn_2 (C : dk_C p s m meth c args cX4_spotInTurn (some .int) 4 RX4 vsX4_spotInTurn) (hK : va_K (dC, dI) vwCl (dk_ty cI cJ cZ) s) (hA : ∀ q : Nat, s.heap.size ≤ q → A q) {out : Int32} {x1 x2 : Int32} {n : Nat} {st : Int32} {r : (Int32) ⊕ (Unit)} (h : dk_loop (bX4_spotInTurn_2 N_turnSize N_turns x1 x2) n st = some r) (hR : ∀ z : Int32, r = .inl z → z = out) (hE : ∀ z : Unit, r = .inr z → ∀ (H : Heap) (locs : List Loc), va_P (dC, dI) vwCl (wX4 oN aN cI cJ cZ N_first N_second N_isCut N_wireClaim N_knotClaim N_turnSize N_turns N_knots N_wires N_power) H → va_D A (wX4 oN aN cI cJ cZ N_first N_second N_isCut N_wireClaim N_knotClaim N_turnSize N_turns N_knots N_wires N_power) → va_S A s.heap H locs → ∀ ls : Array Slot, lv_has ls 4 [(0, .ref oN)] → W p l e rX4_spotInTurn s m args below meth c H locs 0 0 (MQ below (dk_Qi (dC, dI) (dk_ty cI cJ cZ) (wX4 oN aN cI cJ cZ N_first N_second N_isCut N_wireClaim N_knotClaim N_turnSize N_turns N_knots N_wires N_power) out A) args s 0 0 A) (F0 m 35 ls [])) : ∀ (H : Heap) (locs : List Loc), va_P (dC, dI) vwCl (wX4 oN aN cI cJ cZ N_first N_second N_isCut N_wireClaim N_knotClaim N_turnSize N_turns N_knots N_wires N_power) H → va_D A (wX4 oN aN cI cJ cZ N_first N_second N_isCut N_wireClaim N_knotClaim N_turnSize N_turns N_knots N_wires N_power) → va_S A s.heap H locs → ∀ ls : Array Slot, lv_has ls 4 [(0, .ref oN), (1, .int x1), (2, .int x2), (3, .int st)] → W p l e rX4_spotInTurn s m args below meth c H locs 0 0 (MQ below (dk_Qi (dC, dI) (dk_ty cI cJ cZ) (wX4 oN aN cI cJ cZ N_first N_second N_isCut N_wireClaim N_knotClaim N_turnSize N_turns N_knots N_wires N_power) out A) args s 0 0 A) (F0 m 2 ls []) :=
  dk_loopW (P := fun st => ∀ (H : Heap) (locs : List Loc), va_P (dC, dI) vwCl (wX4 oN aN cI cJ cZ N_first N_second N_isCut N_wireClaim N_knotClaim N_turnSize N_turns N_knots N_wires N_power) H → va_D A (wX4 oN aN cI cJ cZ N_first N_second N_isCut N_wireClaim N_knotClaim N_turnSize N_turns N_knots N_wires N_power) → va_S A s.heap H locs → ∀ ls : Array Slot, lv_has ls 4 [(0, .ref oN), (1, .int x1), (2, .int x2), (3, .int st)] → W p l e rX4_spotInTurn s m args below meth c H locs 0 0 (MQ below (dk_Qi (dC, dI) (dk_ty cI cJ cZ) (wX4 oN aN cI cJ cZ N_first N_second N_isCut N_wireClaim N_knotClaim N_turnSize N_turns N_knots N_wires N_power) out A) args s 0 0 A) (F0 m 2 ls [])) (K := fun r => (∀ z : Int32, r = .inl z → z = out) ∧ (∀ z : Unit, r = .inr z → ∀ (H : Heap) (locs : List Loc), va_P (dC, dI) vwCl (wX4 oN aN cI cJ cZ N_first N_second N_isCut N_wireClaim N_knotClaim N_turnSize N_turns N_knots N_wires N_power) H → va_D A (wX4 oN aN cI cJ cZ N_first N_second N_isCut N_wireClaim N_knotClaim N_turnSize N_turns N_knots N_wires N_power) → va_S A s.heap H locs → ∀ ls : Array Slot, lv_has ls 4 [(0, .ref oN)] → W p l e rX4_spotInTurn s m args below meth c H locs 0 0 (MQ below (dk_Qi (dC, dI) (dk_ty cI cJ cZ) (wX4 oN aN cI cJ cZ N_first N_second N_isCut N_wireClaim N_knotClaim N_turnSize N_turns N_knots N_wires N_power) out A) args s 0 0 A) (F0 m 35 ls []))) (fun st y hy k1 k2 => tX4_spotInTurn_2 C hK hA hy (fun z e1 => (k1 _ e1).1 z rfl) (fun z e1 => (k1 _ e1).2 z rfl) k2) n st r h ⟨hR, hE⟩
end
set_option maxHeartbeats 4000000 in
set_option maxRecDepth 100000 in
theorem mX4_spotInTurn (l : Launch) (dC : Nat → ClassId) (dI : Nat → Nat → Nat) (cI cJ cZ : ClassId) {oN : Nat} {aN : Nat → Nat} {N_first N_second N_isCut N_wireClaim N_knotClaim N_turnSize N_turns : Nat → Int32} {N_knots N_wires N_power : Int32} {x1 x2 : Int32} {out : Int32} (h : fX4_spotInTurn N_turnSize N_turns x1 x2 = some out) (sz : Nat) : Met l yX4_spotInTurn vsX4_spotInTurn rX4_spotInTurn (va_Pc [.ref oN, .int x1, .int x2] (dk_Pre (dC, dI) (dk_ty cI cJ cZ) (wX4 oN aN cI cJ cZ N_first N_second N_isCut N_wireClaim N_knotClaim N_turnSize N_turns N_knots N_wires N_power) sz)) (dk_Qi (dC, dI) (dk_ty cI cJ cZ) (wX4 oN aN cI cJ cZ N_first N_second N_isCut N_wireClaim N_knotClaim N_turnSize N_turns N_knots N_wires N_power) out (va_A (wX4 oN aN cI cJ cZ N_first N_second N_isCut N_wireClaim N_knotClaim N_turnSize N_turns N_knots N_wires N_power) sz)) 0 0 (va_A (wX4 oN aN cI cJ cZ N_first N_second N_isCut N_wireClaim N_knotClaim N_turnSize N_turns N_knots N_wires N_power) sz) := by
  refine dk_met (cc := cX4_spotInTurn) (maxL := 4) (ret := (some .int)) (Qc := fun A => dk_Qi (dC, dI) (dk_ty cI cJ cZ) (wX4 oN aN cI cJ cZ N_first N_second N_isCut N_wireClaim N_knotClaim N_turnSize N_turns N_knots N_wires N_power) out A) (by decide) rfl (Nat.le_of_ble_eq_true rfl) ?_
  intro p e s m below meth c A C hnm hA hK hP hD hS ls hl
  have C : dk_C p s m meth c _ cX4_spotInTurn (some .int) 4 RX4 vsX4_spotInTurn := C
  obtain ⟨hx, hb, hr, hml, hown, hts, hlocks⟩ := id C
  have hl : lv_has ls 4 [(0, .ref oN), (1, .int x1), (2, .int x2)] := hl
  unfold fX4_spotInTurn at h
  refine lv_iconst (v := 0) hx hb dX4_spotInTurn_0 (by decide) ?_
  refine lv_istore_n (lv' := [(3, .int 0), (0, .ref oN), (1, .int x1), (2, .int x2)]) hx hb dX4_spotInTurn_1 rfl hl (by decide) rfl (fun ls hl => ?_)
  obtain ⟨r_1, hLr_1, h⟩ := dk_bnd_to h
  cases r_1 with
  | inl zz =>
    replace h := dk_sum_l h
    have hz := Option.some.inj h
    exact lX4_spotInTurn_2 C hK hA hLr_1 (fun z1 e1 => by cases e1; exact hz) (fun z1 e1 => by cases e1) _ _ hP hD hS ls (lv_sub hl [1, 2, 3, 0] rfl)
  | inr z_2 =>
    replace h := dk_sum_r h
    refine lX4_spotInTurn_2 C hK hA hLr_1 (fun z1 e1 => by cases e1) (fun z1 e1 => ?_) _ _ hP hD hS ls (lv_sub hl [1, 2, 3, 0] rfl)
    have e2 := Sum.inr.inj e1
    subst e2
    intro H locs hP hD hS ls hl
    refine lv_iconst (v := (-1)) hx hb dX4_spotInTurn_35 (by decide) ?_
    have e9 := Option.some.inj h
    subst e9
    exact dk_iret C hK hP hD hS rfl dX4_spotInTurn_36
/-! ===== SquareTiler$Net.wireInTurn ===== -/
abbrev rX4_wireInTurn : Room := { frames := 0, cells := 0, slots := 0, locals := 0 }
def ovX4_wireInTurn : List Cond := [Cond.fieldLink RX4 31 "SquareTiler$Net" "turns" "[I"]
def vsX4_wireInTurn : List Cond := .code yX4_wireInTurn cX4_wireInTurn 3 (some .int) :: (ovX4_wireInTurn ++ (wsX40 ++ []))
theorem qX4_wireInTurn_f31 : Cond.fieldLink RX4 31 "SquareTiler$Net" "turns" "[I" ∈ vsX4_wireInTurn := List.mem_cons_of_mem _ (List.mem_append_left _ (List.mem_of_getElem? (i := 0) rfl))
theorem qX4_wireInTurn_X4 : ∀ w ∈ u_ws RX4 TX4 10, w ∈ vsX4_wireInTurn := fun w h => List.mem_cons_of_mem _ (List.mem_append_right _ (List.mem_append_left _ h))
theorem gd_vsX4_wireInTurn : ∀ w ∈ vsX4_wireInTurn, goodWord w = true := dk_cons rfl (dk_app (dk_all (by decide +kernel)) (dk_app gd_wsX40 dk_nil))
def fX4_wireInTurn (N_turns : Nat → Int32) (x1 x2 : Int32) : Option (Int32) := dk_gd (dk_in ((x1 * 22) + x2) 264) (some (N_turns ((x1 * 22) + x2).toNatClampNeg))
section
variable {p : Program} {l : Launch} {e : Env} {s : State} {m : MethodId} {args : Array Value} {below : List Frame} {meth : Method} {c : Code} {dC : Nat → ClassId} {dI : Nat → Nat → Nat} {cI cJ cZ : ClassId} {A : Nat → Prop} {oN : Nat} {aN : Nat → Nat} {N_first N_second N_isCut N_wireClaim N_knotClaim N_turnSize N_turns : Nat → Int32} {N_knots N_wires N_power : Int32}
end
set_option maxHeartbeats 4000000 in
set_option maxRecDepth 100000 in
theorem mX4_wireInTurn (l : Launch) (dC : Nat → ClassId) (dI : Nat → Nat → Nat) (cI cJ cZ : ClassId) {oN : Nat} {aN : Nat → Nat} {N_first N_second N_isCut N_wireClaim N_knotClaim N_turnSize N_turns : Nat → Int32} {N_knots N_wires N_power : Int32} {x1 x2 : Int32} {out : Int32} (h : fX4_wireInTurn N_turns x1 x2 = some out) (sz : Nat) : Met l yX4_wireInTurn vsX4_wireInTurn rX4_wireInTurn (va_Pc [.ref oN, .int x1, .int x2] (dk_Pre (dC, dI) (dk_ty cI cJ cZ) (wX4 oN aN cI cJ cZ N_first N_second N_isCut N_wireClaim N_knotClaim N_turnSize N_turns N_knots N_wires N_power) sz)) (dk_Qi (dC, dI) (dk_ty cI cJ cZ) (wX4 oN aN cI cJ cZ N_first N_second N_isCut N_wireClaim N_knotClaim N_turnSize N_turns N_knots N_wires N_power) out (va_A (wX4 oN aN cI cJ cZ N_first N_second N_isCut N_wireClaim N_knotClaim N_turnSize N_turns N_knots N_wires N_power) sz)) 0 0 (va_A (wX4 oN aN cI cJ cZ N_first N_second N_isCut N_wireClaim N_knotClaim N_turnSize N_turns N_knots N_wires N_power) sz) := by
  refine dk_met (cc := cX4_wireInTurn) (maxL := 3) (ret := (some .int)) (Qc := fun A => dk_Qi (dC, dI) (dk_ty cI cJ cZ) (wX4 oN aN cI cJ cZ N_first N_second N_isCut N_wireClaim N_knotClaim N_turnSize N_turns N_knots N_wires N_power) out A) (by decide) rfl (Nat.le_of_ble_eq_true rfl) ?_
  intro p e s m below meth c A C hnm hA hK hP hD hS ls hl
  have C : dk_C p s m meth c _ cX4_wireInTurn (some .int) 3 RX4 vsX4_wireInTurn := C
  obtain ⟨hx, hb, hr, hml, hown, hts, hlocks⟩ := id C
  have hl : lv_has ls 3 [(0, .ref oN), (1, .int x1), (2, .int x2)] := hl
  unfold fX4_wireInTurn at h
  refine lv_aload_n hx hb dX4_wireInTurn_0 rfl (lv_at hl 0 rfl) ?_
  refine va_get (D := (dC, dI)) (ci := 4) (v := .ref (aN 6)) (C := RX4) (T := TX4) (N := 10) hx hb hts qX4_wireInTurn_X4 hown hK hP 0 rfl rfl 6 (by decide) (hts _ qX4_wireInTurn_f31) (fun _ h9 => h9) rfl dX4_wireInTurn_1 ?_
  refine lv_iload_n hx hb dX4_wireInTurn_4 rfl (lv_at hl 1 rfl) ?_
  refine lv_bipush (v := 22) hx hb dX4_wireInTurn_5 (by decide) ?_
  refine lv_imul hx hb dX4_wireInTurn_7 ?_
  refine lv_iload_n hx hb dX4_wireInTurn_8 rfl (lv_at hl 2 rfl) ?_
  refine lv_iadd hx hb dX4_wireInTurn_9 ?_
  obtain ⟨g_1, h⟩ := dk_gd_to h
  have g_1 := dk_in_to g_1
  refine va_iald hx hb hK hP 7 0 rfl rfl g_1 dX4_wireInTurn_10 ?_
  have e9 := Option.some.inj h
  subst e9
  exact dk_iret C hK hP hD hS rfl dX4_wireInTurn_11
/-! ===== SquareTiler$Net.dartBehind ===== -/
abbrev rX4_dartBehind : Room := { frames := 1, cells := 0, slots := 0, locals := 23 }
def ovX4_dartBehind : List Cond := [Cond.fieldLink RX4 9 "SquareTiler$Net" "first" "[I", Cond.fieldLink RX4 15 "SquareTiler$Net" "second" "[I", Cond.fieldLink RX4 28 "SquareTiler$Net" "turnSize" "[I", Cond.methodLink RX4 58 yX4_spotInTurn, Cond.instanceMethod yX4_spotInTurn, Cond.selects RX4 yX4_spotInTurn yX4_spotInTurn, Cond.initialized RX4, Cond.methodLink RX4 62 yX4_wireInTurn, Cond.instanceMethod yX4_wireInTurn, Cond.selects RX4 yX4_wireInTurn yX4_wireInTurn]
def vsX4_dartBehind : List Cond := .code yX4_dartBehind cX4_dartBehind 6 (some .int) :: (ovX4_dartBehind ++ (wsX40 ++ (vsX4_spotInTurn ++ (vsX4_wireInTurn ++ []))))
theorem qX4_dartBehind_f9 : Cond.fieldLink RX4 9 "SquareTiler$Net" "first" "[I" ∈ vsX4_dartBehind := List.mem_cons_of_mem _ (List.mem_append_left _ (List.mem_of_getElem? (i := 0) rfl))
theorem qX4_dartBehind_f15 : Cond.fieldLink RX4 15 "SquareTiler$Net" "second" "[I" ∈ vsX4_dartBehind := List.mem_cons_of_mem _ (List.mem_append_left _ (List.mem_of_getElem? (i := 1) rfl))
theorem qX4_dartBehind_f28 : Cond.fieldLink RX4 28 "SquareTiler$Net" "turnSize" "[I" ∈ vsX4_dartBehind := List.mem_cons_of_mem _ (List.mem_append_left _ (List.mem_of_getElem? (i := 2) rfl))
theorem qX4_dartBehind_w3 : Cond.methodLink RX4 58 yX4_spotInTurn ∈ vsX4_dartBehind := List.mem_cons_of_mem _ (List.mem_append_left _ (List.mem_of_getElem? (i := 3) rfl))
theorem qX4_dartBehind_w4 : Cond.instanceMethod yX4_spotInTurn ∈ vsX4_dartBehind := List.mem_cons_of_mem _ (List.mem_append_left _ (List.mem_of_getElem? (i := 4) rfl))
theorem qX4_dartBehind_w5 : Cond.selects RX4 yX4_spotInTurn yX4_spotInTurn ∈ vsX4_dartBehind := List.mem_cons_of_mem _ (List.mem_append_left _ (List.mem_of_getElem? (i := 5) rfl))
theorem qX4_dartBehind_w6 : Cond.initialized RX4 ∈ vsX4_dartBehind := List.mem_cons_of_mem _ (List.mem_append_left _ (List.mem_of_getElem? (i := 6) rfl))
theorem qX4_dartBehind_w7 : Cond.methodLink RX4 62 yX4_wireInTurn ∈ vsX4_dartBehind := List.mem_cons_of_mem _ (List.mem_append_left _ (List.mem_of_getElem? (i := 7) rfl))
theorem qX4_dartBehind_w8 : Cond.instanceMethod yX4_wireInTurn ∈ vsX4_dartBehind := List.mem_cons_of_mem _ (List.mem_append_left _ (List.mem_of_getElem? (i := 8) rfl))
theorem qX4_dartBehind_w9 : Cond.selects RX4 yX4_wireInTurn yX4_wireInTurn ∈ vsX4_dartBehind := List.mem_cons_of_mem _ (List.mem_append_left _ (List.mem_of_getElem? (i := 9) rfl))
theorem qX4_dartBehind_X4 : ∀ w ∈ u_ws RX4 TX4 10, w ∈ vsX4_dartBehind := fun w h => List.mem_cons_of_mem _ (List.mem_append_right _ (List.mem_append_left _ h))
theorem gd_vsX4_dartBehind : ∀ w ∈ vsX4_dartBehind, goodWord w = true := dk_cons rfl (dk_app (dk_all (by decide +kernel)) (dk_app gd_wsX40 (dk_app gd_vsX4_spotInTurn (dk_app gd_vsX4_wireInTurn dk_nil))))
theorem gvX4_dartBehind_X4_spotInTurn : GoodIn vsX4_dartBehind (wsV RX4 58 RX4 yX4_spotInTurn vsX4_spotInTurn) := goodIn_app (dk_g4 qX4_dartBehind_w3 qX4_dartBehind_w4 qX4_dartBehind_w5 qX4_dartBehind_w6 rfl) (dk_gIn (fun w h => List.mem_cons_of_mem _ (List.mem_append_right _ (List.mem_append_right _ (List.mem_append_left _ h)))) gd_vsX4_spotInTurn)
theorem gvX4_dartBehind_X4_wireInTurn : GoodIn vsX4_dartBehind (wsV RX4 62 RX4 yX4_wireInTurn vsX4_wireInTurn) := goodIn_app (dk_g4 qX4_dartBehind_w7 qX4_dartBehind_w8 qX4_dartBehind_w9 qX4_dartBehind_w6 rfl) (dk_gIn (fun w h => List.mem_cons_of_mem _ (List.mem_append_right _ (List.mem_append_right _ (List.mem_append_right _ (List.mem_append_left _ h))))) gd_vsX4_wireInTurn)
def jX4_dartBehind_55 (N_first N_second N_turnSize N_turns : Nat → Int32) (x3 s1 s2 : Int32) : Option (Int32) := dk_bnd (fX4_wireInTurn N_turns s1 s2) (fun r_9 => dk_gd (dk_in r_9 22) (if (N_first r_9.toNatClampNeg) = x3 then some (2 * r_9) else some ((2 * r_9) + 1)))
def jX4_dartBehind_25 (N_first N_second N_turnSize N_turns : Nat → Int32) (x2 s0 : Int32) : Option (Int32) := dk_bnd (fX4_spotInTurn N_turnSize N_turns s0 x2) (fun r_5 => dk_let ((r_5 + 1)) (fun x4_6 => dk_gd (dk_in s0 12) (if (N_turnSize s0.toNatClampNeg) ≤ x4_6 then jX4_dartBehind_55 N_first N_second N_turnSize N_turns s0 s0 0 else jX4_dartBehind_55 N_first N_second N_turnSize N_turns s0 s0 x4_6)))
def fX4_dartBehind (N_first N_second N_turnSize N_turns : Nat → Int32) (x1 : Int32) : Option (Int32) := dk_let ((x1 >>> ((1 : Int32) &&& 31))) (fun x2_1 => if (x1 &&& 1) = 0 then dk_gd (dk_in x2_1 22) (jX4_dartBehind_25 N_first N_second N_turnSize N_turns x2_1 (N_second x2_1.toNatClampNeg)) else dk_gd (dk_in x2_1 22) (jX4_dartBehind_25 N_first N_second N_turnSize N_turns x2_1 (N_first x2_1.toNatClampNeg)))
section
variable {p : Program} {l : Launch} {e : Env} {s : State} {m : MethodId} {args : Array Value} {below : List Frame} {meth : Method} {c : Code} {dC : Nat → ClassId} {dI : Nat → Nat → Nat} {cI cJ cZ : ClassId} {A : Nat → Prop} {oN : Nat} {aN : Nat → Nat} {N_first N_second N_isCut N_wireClaim N_knotClaim N_turnSize N_turns : Nat → Int32} {N_knots N_wires N_power : Int32}
set_option maxHeartbeats 4000000 in
set_option maxRecDepth 100000 in
theorem kX4_dartBehind_55 (C : dk_C p s m meth c args cX4_dartBehind (some .int) 6 RX4 vsX4_dartBehind) (hK : va_K (dC, dI) vwCl (dk_ty cI cJ cZ) s) (hA : ∀ q : Nat, s.heap.size ≤ q → A q) {out : Int32} {x3 s1 s2 : Int32} (h : jX4_dartBehind_55 N_first N_second N_turnSize N_turns x3 s1 s2 = some out) : ∀ (H : Heap) (locs : List Loc), va_P (dC, dI) vwCl (wX4 oN aN cI cJ cZ N_first N_second N_isCut N_wireClaim N_knotClaim N_turnSize N_turns N_knots N_wires N_power) H → va_D A (wX4 oN aN cI cJ cZ N_first N_second N_isCut N_wireClaim N_knotClaim N_turnSize N_turns N_knots N_wires N_power) → va_S A s.heap H locs → ∀ ls : Array Slot, lv_has ls 6 [(0, .ref oN), (3, .int x3)] → W p l e rX4_dartBehind s m args below meth c H locs 0 0 (MQ below (dk_Qi (dC, dI) (dk_ty cI cJ cZ) (wX4 oN aN cI cJ cZ N_first N_second N_isCut N_wireClaim N_knotClaim N_turnSize N_turns N_knots N_wires N_power) out A) args s 0 0 A) (F0 m 55 ls [.int s2, .int s1, .ref oN]) := by
  obtain ⟨hx, hb, hr, hml, hown, hts, hlocks⟩ := id C
  intro H locs hP hD hS ls hl
  unfold jX4_dartBehind_55 at h
  obtain ⟨r_9, hcr_9, h⟩ := dk_bnd_to h
  refine dk_rVi (b := oN) (As := [.int s1, .int s2]) (rest := []) (wc := (wX4 oN aN cI cJ cZ N_first N_second N_isCut N_wireClaim N_knotClaim N_turnSize N_turns N_knots N_wires N_power)) C hK hP hD hS hA (mX4_wireInTurn l dC dI cI cJ cZ hcr_9 _) (cwV 2 hts gvX4_dartBehind_X4_wireInTurn rfl rfl rfl (by decide +kernel) ⟨Nat.le_of_ble_eq_true rfl, Nat.le_of_ble_eq_true rfl⟩) [0, 1, 2, 3, 4, 5, 6, 7] rfl (by decide) 0 4 rfl rfl rfl hl.1 rfl (Nat.le_of_ble_eq_true rfl) ⟨Nat.le_of_ble_eq_true rfl, Nat.le_of_ble_eq_true rfl⟩ dX4_dartBehind_55 (fun H locs hP hD hS => ?_)
  refine lv_istore (lv' := [(5, .int r_9), (0, .ref oN), (3, .int x3)]) hx hb dX4_dartBehind_58 hl (by decide) rfl (fun ls hl => ?_)
  refine lv_aload_n hx hb dX4_dartBehind_60 rfl (lv_at hl 1 rfl) ?_
  refine va_get (D := (dC, dI)) (ci := 4) (v := .ref (aN 0)) (C := RX4) (T := TX4) (N := 10) hx hb hts qX4_dartBehind_X4 hown hK hP 0 rfl rfl 0 (by decide) (hts _ qX4_dartBehind_f9) (fun _ h9 => h9) rfl dX4_dartBehind_61 ?_
  refine lv_iload hx hb dX4_dartBehind_64 (lv_at hl 0 rfl) ?_
  obtain ⟨g_10, h⟩ := dk_gd_to h
  have g_10 := dk_in_to g_10
  refine va_iald hx hb hK hP 1 0 rfl rfl g_10 dX4_dartBehind_66 ?_
  refine lv_iload_n hx hb dX4_dartBehind_67 rfl (lv_at hl 2 rfl) ?_
  refine lv_icmp_ne (tgt := 78) hx hb dX4_dartBehind_68 (by decide) (fun c_11 => ?_) (fun c_11 => ?_)
  · replace h := dk_ie c_11 h
    refine lv_iconst (v := 2) hx hb dX4_dartBehind_78 (by decide) ?_
    refine lv_iload hx hb dX4_dartBehind_79 (lv_at hl 0 rfl) ?_
    refine lv_imul hx hb dX4_dartBehind_81 ?_
    refine lv_iconst (v := 1) hx hb dX4_dartBehind_82 (by decide) ?_
    refine lv_iadd hx hb dX4_dartBehind_83 ?_
    have e9 := Option.some.inj h
    subst e9
    exact dk_iret C hK hP hD hS rfl dX4_dartBehind_84
  · replace h := dk_it c_11 h
    refine lv_iconst (v := 2) hx hb dX4_dartBehind_71 (by decide) ?_
    refine lv_iload hx hb dX4_dartBehind_72 (lv_at hl 0 rfl) ?_
    refine lv_imul hx hb dX4_dartBehind_74 ?_
    refine lv_goto (tgt := 84) hx hb dX4_dartBehind_75 (by decide) ?_
    have e9 := Option.some.inj h
    subst e9
    exact dk_iret C hK hP hD hS rfl dX4_dartBehind_84
set_option maxHeartbeats 4000000 in
set_option maxRecDepth 100000 in
theorem kX4_dartBehind_25 (C : dk_C p s m meth c args cX4_dartBehind (some .int) 6 RX4 vsX4_dartBehind) (hK : va_K (dC, dI) vwCl (dk_ty cI cJ cZ) s) (hA : ∀ q : Nat, s.heap.size ≤ q → A q) {out : Int32} {x2 s0 : Int32} (h : jX4_dartBehind_25 N_first N_second N_turnSize N_turns x2 s0 = some out) : ∀ (H : Heap) (locs : List Loc), va_P (dC, dI) vwCl (wX4 oN aN cI cJ cZ N_first N_second N_isCut N_wireClaim N_knotClaim N_turnSize N_turns N_knots N_wires N_power) H → va_D A (wX4 oN aN cI cJ cZ N_first N_second N_isCut N_wireClaim N_knotClaim N_turnSize N_turns N_knots N_wires N_power) → va_S A s.heap H locs → ∀ ls : Array Slot, lv_has ls 6 [(0, .ref oN), (2, .int x2)] → W p l e rX4_dartBehind s m args below meth c H locs 0 0 (MQ below (dk_Qi (dC, dI) (dk_ty cI cJ cZ) (wX4 oN aN cI cJ cZ N_first N_second N_isCut N_wireClaim N_knotClaim N_turnSize N_turns N_knots N_wires N_power) out A) args s 0 0 A) (F0 m 25 ls [.int s0]) := by
  obtain ⟨hx, hb, hr, hml, hown, hts, hlocks⟩ := id C
  intro H locs hP hD hS ls hl
  unfold jX4_dartBehind_25 at h
  refine lv_istore_n (lv' := [(3, .int s0), (0, .ref oN), (2, .int x2)]) hx hb dX4_dartBehind_25 rfl hl (by decide) rfl (fun ls hl => ?_)
  refine lv_aload_n hx hb dX4_dartBehind_26 rfl (lv_at hl 1 rfl) ?_
  refine lv_iload_n hx hb dX4_dartBehind_27 rfl (lv_at hl 0 rfl) ?_
  refine lv_iload_n hx hb dX4_dartBehind_28 rfl (lv_at hl 2 rfl) ?_
  obtain ⟨r_5, hcr_5, h⟩ := dk_bnd_to h
  refine dk_rVi (b := oN) (As := [.int s0, .int x2]) (rest := []) (wc := (wX4 oN aN cI cJ cZ N_first N_second N_isCut N_wireClaim N_knotClaim N_turnSize N_turns N_knots N_wires N_power)) C hK hP hD hS hA (mX4_spotInTurn l dC dI cI cJ cZ hcr_5 _) (cwV 2 hts gvX4_dartBehind_X4_spotInTurn rfl rfl rfl (by decide +kernel) ⟨Nat.le_of_ble_eq_true rfl, Nat.le_of_ble_eq_true rfl⟩) [0, 1, 2, 3, 4, 5, 6, 7] rfl (by decide) 0 4 rfl rfl rfl hl.1 rfl (Nat.le_of_ble_eq_true rfl) ⟨Nat.le_of_ble_eq_true rfl, Nat.le_of_ble_eq_true rfl⟩ dX4_dartBehind_29 (fun H locs hP hD hS => ?_)
  refine lv_iconst (v := 1) hx hb dX4_dartBehind_32 (by decide) ?_
  refine lv_iadd hx hb dX4_dartBehind_33 ?_
  refine lv_topi (fun x4_6 ex4_6 => ?_)
  replace h := dk_let_to ex4_6 h
  refine lv_istore (lv' := [(4, .int x4_6), (3, .int s0), (0, .ref oN), (2, .int x2)]) hx hb dX4_dartBehind_34 hl (by decide) rfl (fun ls hl => ?_)
  refine lv_aload_n hx hb dX4_dartBehind_36 rfl (lv_at hl 2 rfl) ?_
  refine lv_iload_n hx hb dX4_dartBehind_37 rfl (lv_at hl 1 rfl) ?_
  refine lv_iload hx hb dX4_dartBehind_38 (lv_at hl 0 rfl) ?_
  refine lv_aload_n hx hb dX4_dartBehind_40 rfl (lv_at hl 2 rfl) ?_
  refine va_get (D := (dC, dI)) (ci := 4) (v := .ref (aN 5)) (C := RX4) (T := TX4) (N := 10) hx hb hts qX4_dartBehind_X4 hown hK hP 0 rfl rfl 5 (by decide) (hts _ qX4_dartBehind_f28) (fun _ h9 => h9) rfl dX4_dartBehind_41 ?_
  refine lv_iload_n hx hb dX4_dartBehind_44 rfl (lv_at hl 1 rfl) ?_
  obtain ⟨g_7, h⟩ := dk_gd_to h
  have g_7 := dk_in_to g_7
  refine va_iald hx hb hK hP 6 0 rfl rfl g_7 dX4_dartBehind_45 ?_
  refine lv_icmp_ge (tgt := 54) hx hb dX4_dartBehind_46 (by decide) (fun c_8 => ?_) (fun c_8 => ?_)
  · replace h := dk_it c_8 h
    refine lv_iconst (v := 0) hx hb dX4_dartBehind_54 (by decide) ?_
    exact kX4_dartBehind_55 C hK hA h _ _ hP hD hS ls (lv_sub hl [2, 1] rfl)
  · replace h := dk_ie c_8 h
    refine lv_iload hx hb dX4_dartBehind_49 (lv_at hl 0 rfl) ?_
    refine lv_goto (tgt := 55) hx hb dX4_dartBehind_51 (by decide) ?_
    exact kX4_dartBehind_55 C hK hA h _ _ hP hD hS ls (lv_sub hl [2, 1] rfl)
end
set_option maxHeartbeats 4000000 in
set_option maxRecDepth 100000 in
theorem mX4_dartBehind (l : Launch) (dC : Nat → ClassId) (dI : Nat → Nat → Nat) (cI cJ cZ : ClassId) {oN : Nat} {aN : Nat → Nat} {N_first N_second N_isCut N_wireClaim N_knotClaim N_turnSize N_turns : Nat → Int32} {N_knots N_wires N_power : Int32} {x1 : Int32} {out : Int32} (h : fX4_dartBehind N_first N_second N_turnSize N_turns x1 = some out) (sz : Nat) : Met l yX4_dartBehind vsX4_dartBehind rX4_dartBehind (va_Pc [.ref oN, .int x1] (dk_Pre (dC, dI) (dk_ty cI cJ cZ) (wX4 oN aN cI cJ cZ N_first N_second N_isCut N_wireClaim N_knotClaim N_turnSize N_turns N_knots N_wires N_power) sz)) (dk_Qi (dC, dI) (dk_ty cI cJ cZ) (wX4 oN aN cI cJ cZ N_first N_second N_isCut N_wireClaim N_knotClaim N_turnSize N_turns N_knots N_wires N_power) out (va_A (wX4 oN aN cI cJ cZ N_first N_second N_isCut N_wireClaim N_knotClaim N_turnSize N_turns N_knots N_wires N_power) sz)) 0 0 (va_A (wX4 oN aN cI cJ cZ N_first N_second N_isCut N_wireClaim N_knotClaim N_turnSize N_turns N_knots N_wires N_power) sz) := by
  refine dk_met (cc := cX4_dartBehind) (maxL := 6) (ret := (some .int)) (Qc := fun A => dk_Qi (dC, dI) (dk_ty cI cJ cZ) (wX4 oN aN cI cJ cZ N_first N_second N_isCut N_wireClaim N_knotClaim N_turnSize N_turns N_knots N_wires N_power) out A) (by decide) rfl (Nat.le_of_ble_eq_true rfl) ?_
  intro p e s m below meth c A C hnm hA hK hP hD hS ls hl
  have C : dk_C p s m meth c _ cX4_dartBehind (some .int) 6 RX4 vsX4_dartBehind := C
  obtain ⟨hx, hb, hr, hml, hown, hts, hlocks⟩ := id C
  have hl : lv_has ls 6 [(0, .ref oN), (1, .int x1)] := hl
  unfold fX4_dartBehind at h
  refine lv_iload_n hx hb dX4_dartBehind_0 rfl (lv_at hl 1 rfl) ?_
  refine lv_iconst (v := 1) hx hb dX4_dartBehind_1 (by decide) ?_
  refine lv_ishr hx hb dX4_dartBehind_2 ?_
  refine lv_topi (fun x2_1 ex2_1 => ?_)
  replace h := dk_let_to ex2_1 h
  refine lv_istore_n (lv' := [(2, .int x2_1), (0, .ref oN), (1, .int x1)]) hx hb dX4_dartBehind_3 rfl hl (by decide) rfl (fun ls hl => ?_)
  refine lv_iload_n hx hb dX4_dartBehind_4 rfl (lv_at hl 2 rfl) ?_
  refine lv_iconst (v := 1) hx hb dX4_dartBehind_5 (by decide) ?_
  refine lv_iand hx hb dX4_dartBehind_6 ?_
  refine lv_if_ne (tgt := 19) hx hb dX4_dartBehind_7 (by decide) (fun c_2 => ?_) (fun c_2 => ?_)
  · replace h := dk_ie c_2 h
    refine lv_aload_n hx hb dX4_dartBehind_19 rfl (lv_at hl 1 rfl) ?_
    refine va_get (D := (dC, dI)) (ci := 4) (v := .ref (aN 0)) (C := RX4) (T := TX4) (N := 10) hx hb hts qX4_dartBehind_X4 hown hK hP 0 rfl rfl 0 (by decide) (hts _ qX4_dartBehind_f9) (fun _ h9 => h9) rfl dX4_dartBehind_20 ?_
    refine lv_iload_n hx hb dX4_dartBehind_23 rfl (lv_at hl 0 rfl) ?_
    obtain ⟨g_3, h⟩ := dk_gd_to h
    have g_3 := dk_in_to g_3
    refine va_iald hx hb hK hP 1 0 rfl rfl g_3 dX4_dartBehind_24 ?_
    exact kX4_dartBehind_25 C hK hA h _ _ hP hD hS ls (lv_sub hl [1, 0] rfl)
  · replace h := dk_it c_2 h
    refine lv_aload_n hx hb dX4_dartBehind_10 rfl (lv_at hl 1 rfl) ?_
    refine va_get (D := (dC, dI)) (ci := 4) (v := .ref (aN 1)) (C := RX4) (T := TX4) (N := 10) hx hb hts qX4_dartBehind_X4 hown hK hP 0 rfl rfl 1 (by decide) (hts _ qX4_dartBehind_f15) (fun _ h9 => h9) rfl dX4_dartBehind_11 ?_
    refine lv_iload_n hx hb dX4_dartBehind_14 rfl (lv_at hl 0 rfl) ?_
    obtain ⟨g_4, h⟩ := dk_gd_to h
    have g_4 := dk_in_to g_4
    refine va_iald hx hb hK hP 2 0 rfl rfl g_4 dX4_dartBehind_15 ?_
    refine lv_goto (tgt := 25) hx hb dX4_dartBehind_16 (by decide) ?_
    exact kX4_dartBehind_25 C hK hA h _ _ hP hD hS ls (lv_sub hl [1, 0] rfl)
/-! ===== SquareTiler$Net.addToTurn ===== -/
abbrev rX4_addToTurn : Room := { frames := 0, cells := 0, slots := 0, locals := 0 }
def ovX4_addToTurn : List Cond := [Cond.fieldLink RX4 28 "SquareTiler$Net" "turnSize" "[I", Cond.fieldLink RX4 31 "SquareTiler$Net" "turns" "[I"]
def vsX4_addToTurn : List Cond := .code yX4_addToTurn cX4_addToTurn 3 none :: (ovX4_addToTurn ++ (wsX40 ++ []))
theorem qX4_addToTurn_f28 : Cond.fieldLink RX4 28 "SquareTiler$Net" "turnSize" "[I" ∈ vsX4_addToTurn := List.mem_cons_of_mem _ (List.mem_append_left _ (List.mem_of_getElem? (i := 0) rfl))
theorem qX4_addToTurn_f31 : Cond.fieldLink RX4 31 "SquareTiler$Net" "turns" "[I" ∈ vsX4_addToTurn := List.mem_cons_of_mem _ (List.mem_append_left _ (List.mem_of_getElem? (i := 1) rfl))
theorem qX4_addToTurn_X4 : ∀ w ∈ u_ws RX4 TX4 10, w ∈ vsX4_addToTurn := fun w h => List.mem_cons_of_mem _ (List.mem_append_right _ (List.mem_append_left _ h))
theorem gd_vsX4_addToTurn : ∀ w ∈ vsX4_addToTurn, goodWord w = true := dk_cons rfl (dk_app (dk_all (by decide +kernel)) (dk_app gd_wsX40 dk_nil))
def fX4_addToTurn (N_turnSize N_turns : Nat → Int32) (x1 x2 : Int32) : Option ((Nat → Int32) × (Nat → Int32)) := dk_gd (dk_in x1 12) (if 22 ≤ (N_turnSize x1.toNatClampNeg) then some (N_turnSize, N_turns) else dk_gd (dk_in ((x1 * 22) + (N_turnSize x1.toNatClampNeg)) 264) (dk_let (upd N_turns ((x1 * 22) + (N_turnSize x1.toNatClampNeg)).toNatClampNeg x2) (fun N_turns_4 => dk_let (upd N_turnSize x1.toNatClampNeg ((N_turnSize x1.toNatClampNeg) + 1)) (fun N_turnSize_5 => some (N_turnSize_5, N_turns_4)))))
section
variable {p : Program} {l : Launch} {e : Env} {s : State} {m : MethodId} {args : Array Value} {below : List Frame} {meth : Method} {c : Code} {dC : Nat → ClassId} {dI : Nat → Nat → Nat} {cI cJ cZ : ClassId} {A : Nat → Prop} {oN : Nat} {aN : Nat → Nat} {N_first N_second N_isCut N_wireClaim N_knotClaim N_turnSize N_turns : Nat → Int32} {N_knots N_wires N_power : Int32}
end
set_option maxHeartbeats 4000000 in
set_option maxRecDepth 100000 in
theorem mX4_addToTurn (l : Launch) (dC : Nat → ClassId) (dI : Nat → Nat → Nat) (cI cJ cZ : ClassId) {oN : Nat} {aN : Nat → Nat} {N_first N_second N_isCut N_wireClaim N_knotClaim N_turnSize N_turns : Nat → Int32} {N_knots N_wires N_power : Int32} {x1 x2 : Int32} {out : (Nat → Int32) × (Nat → Int32)} (h : fX4_addToTurn N_turnSize N_turns x1 x2 = some out) (sz : Nat) : Met l yX4_addToTurn vsX4_addToTurn rX4_addToTurn (va_Pc [.ref oN, .int x1, .int x2] (dk_Pre (dC, dI) (dk_ty cI cJ cZ) (wX4 oN aN cI cJ cZ N_first N_second N_isCut N_wireClaim N_knotClaim N_turnSize N_turns N_knots N_wires N_power) sz)) (dk_Qv (dC, dI) (dk_ty cI cJ cZ) (wX4 oN aN cI cJ cZ N_first N_second N_isCut N_wireClaim N_knotClaim out.1 out.2 N_knots N_wires N_power) (va_A (wX4 oN aN cI cJ cZ N_first N_second N_isCut N_wireClaim N_knotClaim N_turnSize N_turns N_knots N_wires N_power) sz)) 0 0 (va_A (wX4 oN aN cI cJ cZ N_first N_second N_isCut N_wireClaim N_knotClaim N_turnSize N_turns N_knots N_wires N_power) sz) := by
  refine dk_met (cc := cX4_addToTurn) (maxL := 3) (ret := none) (Qc := fun A => dk_Qv (dC, dI) (dk_ty cI cJ cZ) (wX4 oN aN cI cJ cZ N_first N_second N_isCut N_wireClaim N_knotClaim out.1 out.2 N_knots N_wires N_power) A) (by decide) rfl (Nat.le_of_ble_eq_true rfl) ?_
  intro p e s m below meth c A C hnm hA hK hP hD hS ls hl
  have C : dk_C p s m meth c _ cX4_addToTurn none 3 RX4 vsX4_addToTurn := C
  obtain ⟨hx, hb, hr, hml, hown, hts, hlocks⟩ := id C
  have hl : lv_has ls 3 [(0, .ref oN), (1, .int x1), (2, .int x2)] := hl
  unfold fX4_addToTurn at h
  refine lv_aload_n hx hb dX4_addToTurn_0 rfl (lv_at hl 0 rfl) ?_
  refine va_get (D := (dC, dI)) (ci := 4) (v := .ref (aN 5)) (C := RX4) (T := TX4) (N := 10) hx hb hts qX4_addToTurn_X4 hown hK hP 0 rfl rfl 5 (by decide) (hts _ qX4_addToTurn_f28) (fun _ h9 => h9) rfl dX4_addToTurn_1 ?_
  refine lv_iload_n hx hb dX4_addToTurn_4 rfl (lv_at hl 1 rfl) ?_
  obtain ⟨g_1, h⟩ := dk_gd_to h
  have g_1 := dk_in_to g_1
  refine va_iald hx hb hK hP 6 0 rfl rfl g_1 dX4_addToTurn_5 ?_
  refine lv_bipush (v := 22) hx hb dX4_addToTurn_6 (by decide) ?_
  refine lv_icmp_ge (tgt := 38) hx hb dX4_addToTurn_8 (by decide) (fun c_2 => ?_) (fun c_2 => ?_)
  · replace h := dk_it c_2 h
    have e9 := Option.some.inj h
    subst e9
    exact dk_vret C hK hP hD hS dX4_addToTurn_38
  · replace h := dk_ie c_2 h
    refine lv_aload_n hx hb dX4_addToTurn_11 rfl (lv_at hl 0 rfl) ?_
    refine va_get (D := (dC, dI)) (ci := 4) (v := .ref (aN 6)) (C := RX4) (T := TX4) (N := 10) hx hb hts qX4_addToTurn_X4 hown hK hP 0 rfl rfl 6 (by decide) (hts _ qX4_addToTurn_f31) (fun _ h9 => h9) rfl dX4_addToTurn_12 ?_
    refine lv_iload_n hx hb dX4_addToTurn_15 rfl (lv_at hl 1 rfl) ?_
    refine lv_bipush (v := 22) hx hb dX4_addToTurn_16 (by decide) ?_
    refine lv_imul hx hb dX4_addToTurn_18 ?_
    refine lv_aload_n hx hb dX4_addToTurn_19 rfl (lv_at hl 0 rfl) ?_
    refine va_get (D := (dC, dI)) (ci := 4) (v := .ref (aN 5)) (C := RX4) (T := TX4) (N := 10) hx hb hts qX4_addToTurn_X4 hown hK hP 0 rfl rfl 5 (by decide) (hts _ qX4_addToTurn_f28) (fun _ h9 => h9) rfl dX4_addToTurn_20 ?_
    refine lv_iload_n hx hb dX4_addToTurn_23 rfl (lv_at hl 1 rfl) ?_
    refine va_iald hx hb hK hP 6 0 rfl rfl g_1 dX4_addToTurn_24 ?_
    refine lv_iadd hx hb dX4_addToTurn_25 ?_
    refine lv_iload_n hx hb dX4_addToTurn_26 rfl (lv_at hl 2 rfl) ?_
    obtain ⟨g_3, h⟩ := dk_gd_to h
    have g_3 := dk_in_to g_3
    refine va_iast hx hb hK hP hD hS 7 0 rfl rfl g_3 dX4_addToTurn_27 (fun H locs hP hD hS => ?_)
    obtain ⟨N_turns_4, eN_turns_4⟩ : ∃ z : Nat → Int32, z = upd N_turns ((x1 * 22) + (N_turnSize x1.toNatClampNeg)).toNatClampNeg x2 := ⟨_, rfl⟩
    replace h := dk_let_to eN_turns_4 h
    have hP : va_P (dC, dI) vwCl (wX4 oN aN cI cJ cZ N_first N_second N_isCut N_wireClaim N_knotClaim N_turnSize N_turns_4 N_knots N_wires N_power) H := by rw [eN_turns_4]; exact hP
    have hD : va_D A (wX4 oN aN cI cJ cZ N_first N_second N_isCut N_wireClaim N_knotClaim N_turnSize N_turns_4 N_knots N_wires N_power) := by rw [eN_turns_4]; exact hD
    refine lv_aload_n hx hb dX4_addToTurn_28 rfl (lv_at hl 0 rfl) ?_
    refine va_get (D := (dC, dI)) (ci := 4) (v := .ref (aN 5)) (C := RX4) (T := TX4) (N := 10) hx hb hts qX4_addToTurn_X4 hown hK hP 0 rfl rfl 5 (by decide) (hts _ qX4_addToTurn_f28) (fun _ h9 => h9) rfl dX4_addToTurn_29 ?_
    refine lv_iload_n hx hb dX4_addToTurn_32 rfl (lv_at hl 1 rfl) ?_
    refine lv_dup2_11 hx hb dX4_addToTurn_33 rfl rfl ?_
    refine va_iald hx hb hK hP 6 0 rfl rfl g_1 dX4_addToTurn_34 ?_
    refine lv_iconst (v := 1) hx hb dX4_addToTurn_35 (by decide) ?_
    refine lv_iadd hx hb dX4_addToTurn_36 ?_
    refine va_iast hx hb hK hP hD hS 6 0 rfl rfl g_1 dX4_addToTurn_37 (fun H locs hP hD hS => ?_)
    obtain ⟨N_turnSize_5, eN_turnSize_5⟩ : ∃ z : Nat → Int32, z = upd N_turnSize x1.toNatClampNeg ((N_turnSize x1.toNatClampNeg) + 1) := ⟨_, rfl⟩
    replace h := dk_let_to eN_turnSize_5 h
    have hP : va_P (dC, dI) vwCl (wX4 oN aN cI cJ cZ N_first N_second N_isCut N_wireClaim N_knotClaim N_turnSize_5 N_turns_4 N_knots N_wires N_power) H := by rw [eN_turnSize_5]; exact hP
    have hD : va_D A (wX4 oN aN cI cJ cZ N_first N_second N_isCut N_wireClaim N_knotClaim N_turnSize_5 N_turns_4 N_knots N_wires N_power) := by rw [eN_turnSize_5]; exact hD
    have e9 := Option.some.inj h
    subst e9
    exact dk_vret C hK hP hD hS dX4_addToTurn_38
/-! ===== SquareTiler$Net.addKnot ===== -/
abbrev rX4_addKnot : Room := { frames := 0, cells := 0, slots := 0, locals := 0 }
def ovX4_addKnot : List Cond := [Cond.fieldLink RX4 28 "SquareTiler$Net" "turnSize" "[I", Cond.fieldLink RX4 34 "SquareTiler$Net" "knots" "I", Cond.fieldLink RX4 25 "SquareTiler$Net" "knotClaim" "[I"]
def vsX4_addKnot : List Cond := .code yX4_addKnot cX4_addKnot 1 (some .int) :: (ovX4_addKnot ++ (wsX40 ++ []))
theorem qX4_addKnot_f28 : Cond.fieldLink RX4 28 "SquareTiler$Net" "turnSize" "[I" ∈ vsX4_addKnot := List.mem_cons_of_mem _ (List.mem_append_left _ (List.mem_of_getElem? (i := 0) rfl))
theorem qX4_addKnot_f34 : Cond.fieldLink RX4 34 "SquareTiler$Net" "knots" "I" ∈ vsX4_addKnot := List.mem_cons_of_mem _ (List.mem_append_left _ (List.mem_of_getElem? (i := 1) rfl))
theorem qX4_addKnot_f25 : Cond.fieldLink RX4 25 "SquareTiler$Net" "knotClaim" "[I" ∈ vsX4_addKnot := List.mem_cons_of_mem _ (List.mem_append_left _ (List.mem_of_getElem? (i := 2) rfl))
theorem qX4_addKnot_X4 : ∀ w ∈ u_ws RX4 TX4 10, w ∈ vsX4_addKnot := fun w h => List.mem_cons_of_mem _ (List.mem_append_right _ (List.mem_append_left _ h))
theorem gd_vsX4_addKnot : ∀ w ∈ vsX4_addKnot, goodWord w = true := dk_cons rfl (dk_app (dk_all (by decide +kernel)) (dk_app gd_wsX40 dk_nil))
def fX4_addKnot (N_knotClaim N_turnSize : Nat → Int32) (N_knots : Int32) : Option (Int32 × (Nat → Int32) × (Nat → Int32) × Int32) := dk_gd (dk_in N_knots 12) (dk_let (upd N_turnSize N_knots.toNatClampNeg 0) (fun N_turnSize_2 => dk_let (upd N_knotClaim N_knots.toNatClampNeg 0) (fun N_knotClaim_3 => dk_let ((N_knots + 1)) (fun N_knots_4 => some ((N_knots_4 - 1), N_knotClaim_3, N_turnSize_2, N_knots_4)))))
section
variable {p : Program} {l : Launch} {e : Env} {s : State} {m : MethodId} {args : Array Value} {below : List Frame} {meth : Method} {c : Code} {dC : Nat → ClassId} {dI : Nat → Nat → Nat} {cI cJ cZ : ClassId} {A : Nat → Prop} {oN : Nat} {aN : Nat → Nat} {N_first N_second N_isCut N_wireClaim N_knotClaim N_turnSize N_turns : Nat → Int32} {N_knots N_wires N_power : Int32}
end
set_option maxHeartbeats 4000000 in
set_option maxRecDepth 100000 in
theorem mX4_addKnot (l : Launch) (dC : Nat → ClassId) (dI : Nat → Nat → Nat) (cI cJ cZ : ClassId) {oN : Nat} {aN : Nat → Nat} {N_first N_second N_isCut N_wireClaim N_knotClaim N_turnSize N_turns : Nat → Int32} {N_knots N_wires N_power : Int32} {out : Int32 × (Nat → Int32) × (Nat → Int32) × Int32} (h : fX4_addKnot N_knotClaim N_turnSize N_knots = some out) (sz : Nat) : Met l yX4_addKnot vsX4_addKnot rX4_addKnot (va_Pc [.ref oN] (dk_Pre (dC, dI) (dk_ty cI cJ cZ) (wX4 oN aN cI cJ cZ N_first N_second N_isCut N_wireClaim N_knotClaim N_turnSize N_turns N_knots N_wires N_power) sz)) (dk_Qi (dC, dI) (dk_ty cI cJ cZ) (wX4 oN aN cI cJ cZ N_first N_second N_isCut N_wireClaim out.2.1 out.2.2.1 N_turns out.2.2.2 N_wires N_power) out.1 (va_A (wX4 oN aN cI cJ cZ N_first N_second N_isCut N_wireClaim N_knotClaim N_turnSize N_turns N_knots N_wires N_power) sz)) 0 0 (va_A (wX4 oN aN cI cJ cZ N_first N_second N_isCut N_wireClaim N_knotClaim N_turnSize N_turns N_knots N_wires N_power) sz) := by
  refine dk_met (cc := cX4_addKnot) (maxL := 1) (ret := (some .int)) (Qc := fun A => dk_Qi (dC, dI) (dk_ty cI cJ cZ) (wX4 oN aN cI cJ cZ N_first N_second N_isCut N_wireClaim out.2.1 out.2.2.1 N_turns out.2.2.2 N_wires N_power) out.1 A) (by decide) rfl (Nat.le_of_ble_eq_true rfl) ?_
  intro p e s m below meth c A C hnm hA hK hP hD hS ls hl
  have C : dk_C p s m meth c _ cX4_addKnot (some .int) 1 RX4 vsX4_addKnot := C
  obtain ⟨hx, hb, hr, hml, hown, hts, hlocks⟩ := id C
  have hl : lv_has ls 1 [(0, .ref oN)] := hl
  unfold fX4_addKnot at h
  refine lv_aload_n hx hb dX4_addKnot_0 rfl (lv_at hl 0 rfl) ?_
  refine va_get (D := (dC, dI)) (ci := 4) (v := .ref (aN 5)) (C := RX4) (T := TX4) (N := 10) hx hb hts qX4_addKnot_X4 hown hK hP 0 rfl rfl 5 (by decide) (hts _ qX4_addKnot_f28) (fun _ h9 => h9) rfl dX4_addKnot_1 ?_
  refine lv_aload_n hx hb dX4_addKnot_4 rfl (lv_at hl 0 rfl) ?_
  refine va_get (D := (dC, dI)) (ci := 4) (v := .int N_knots) (C := RX4) (T := TX4) (N := 10) hx hb hts qX4_addKnot_X4 hown hK hP 0 rfl rfl 7 (by decide) (hts _ qX4_addKnot_f34) (fun _ h9 => h9) rfl dX4_addKnot_5 ?_
  refine lv_iconst (v := 0) hx hb dX4_addKnot_8 (by decide) ?_
  obtain ⟨g_1, h⟩ := dk_gd_to h
  have g_1 := dk_in_to g_1
  refine va_iast hx hb hK hP hD hS 6 0 rfl rfl g_1 dX4_addKnot_9 (fun H locs hP hD hS => ?_)
  obtain ⟨N_turnSize_2, eN_turnSize_2⟩ : ∃ z : Nat → Int32, z = upd N_turnSize N_knots.toNatClampNeg 0 := ⟨_, rfl⟩
  replace h := dk_let_to eN_turnSize_2 h
  have hP : va_P (dC, dI) vwCl (wX4 oN aN cI cJ cZ N_first N_second N_isCut N_wireClaim N_knotClaim N_turnSize_2 N_turns N_knots N_wires N_power) H := by rw [eN_turnSize_2]; exact hP
  have hD : va_D A (wX4 oN aN cI cJ cZ N_first N_second N_isCut N_wireClaim N_knotClaim N_turnSize_2 N_turns N_knots N_wires N_power) := by rw [eN_turnSize_2]; exact hD
  refine lv_aload_n hx hb dX4_addKnot_10 rfl (lv_at hl 0 rfl) ?_
  refine va_get (D := (dC, dI)) (ci := 4) (v := .ref (aN 4)) (C := RX4) (T := TX4) (N := 10) hx hb hts qX4_addKnot_X4 hown hK hP 0 rfl rfl 4 (by decide) (hts _ qX4_addKnot_f25) (fun _ h9 => h9) rfl dX4_addKnot_11 ?_
  refine lv_aload_n hx hb dX4_addKnot_14 rfl (lv_at hl 0 rfl) ?_
  refine va_get (D := (dC, dI)) (ci := 4) (v := .int N_knots) (C := RX4) (T := TX4) (N := 10) hx hb hts qX4_addKnot_X4 hown hK hP 0 rfl rfl 7 (by decide) (hts _ qX4_addKnot_f34) (fun _ h9 => h9) rfl dX4_addKnot_15 ?_
  refine lv_iconst (v := 0) hx hb dX4_addKnot_18 (by decide) ?_
  refine va_iast hx hb hK hP hD hS 5 0 rfl rfl g_1 dX4_addKnot_19 (fun H locs hP hD hS => ?_)
  obtain ⟨N_knotClaim_3, eN_knotClaim_3⟩ : ∃ z : Nat → Int32, z = upd N_knotClaim N_knots.toNatClampNeg 0 := ⟨_, rfl⟩
  replace h := dk_let_to eN_knotClaim_3 h
  have hP : va_P (dC, dI) vwCl (wX4 oN aN cI cJ cZ N_first N_second N_isCut N_wireClaim N_knotClaim_3 N_turnSize_2 N_turns N_knots N_wires N_power) H := by rw [eN_knotClaim_3]; exact hP
  have hD : va_D A (wX4 oN aN cI cJ cZ N_first N_second N_isCut N_wireClaim N_knotClaim_3 N_turnSize_2 N_turns N_knots N_wires N_power) := by rw [eN_knotClaim_3]; exact hD
  refine lv_aload_n hx hb dX4_addKnot_20 rfl (lv_at hl 0 rfl) ?_
  refine lv_dup hx hb dX4_addKnot_21 rfl ?_
  refine va_get (D := (dC, dI)) (ci := 4) (v := .int N_knots) (C := RX4) (T := TX4) (N := 10) hx hb hts qX4_addKnot_X4 hown hK hP 0 rfl rfl 7 (by decide) (hts _ qX4_addKnot_f34) (fun _ h9 => h9) rfl dX4_addKnot_22 ?_
  refine lv_iconst (v := 1) hx hb dX4_addKnot_25 (by decide) ?_
  refine lv_iadd hx hb dX4_addKnot_26 ?_
  refine va_put (D := (dC, dI)) (ci := 4) (v := .int (N_knots + 1)) (ty := .int) (C := RX4) (T := TX4) (N := 10) hx hb hts qX4_addKnot_X4 tyX4 tyX4_ok nmX4 hown hK hP hD hS 0 rfl rfl 7 (by decide) (hts _ qX4_addKnot_f34) (fun _ h9 => h9) rfl (by decide +kernel) rfl rfl (Nat.le_of_ble_eq_true rfl) dX4_addKnot_27 (fun H locs hP hD hS => ?_)
  obtain ⟨N_knots_4, eN_knots_4⟩ : ∃ z : Int32, z = (N_knots + 1) := ⟨_, rfl⟩
  replace h := dk_let_to eN_knots_4 h
  have hP : va_P (dC, dI) vwCl (wX4 oN aN cI cJ cZ N_first N_second N_isCut N_wireClaim N_knotClaim_3 N_turnSize_2 N_turns N_knots_4 N_wires N_power) H := by rw [eN_knots_4]; exact hP
  have hD : va_D A (wX4 oN aN cI cJ cZ N_first N_second N_isCut N_wireClaim N_knotClaim_3 N_turnSize_2 N_turns N_knots_4 N_wires N_power) := by rw [eN_knots_4]; exact hD
  refine lv_aload_n hx hb dX4_addKnot_30 rfl (lv_at hl 0 rfl) ?_
  refine va_get (D := (dC, dI)) (ci := 4) (v := .int N_knots_4) (C := RX4) (T := TX4) (N := 10) hx hb hts qX4_addKnot_X4 hown hK hP 0 rfl rfl 7 (by decide) (hts _ qX4_addKnot_f34) (fun _ h9 => h9) rfl dX4_addKnot_31 ?_
  refine lv_iconst (v := 1) hx hb dX4_addKnot_34 (by decide) ?_
  refine lv_isub hx hb dX4_addKnot_35 ?_
  have e9 := Option.some.inj h
  subst e9
  exact dk_iret C hK hP hD hS rfl dX4_addKnot_36
/-! ===== SquareTiler$Net.isPlain ===== -/
abbrev rX4_isPlain : Room := { frames := 0, cells := 0, slots := 0, locals := 0 }
def ovX4_isPlain : List Cond := [Cond.fieldLink RX4 41 "SquareTiler$Net" "power" "I", Cond.fieldLink RX4 18 "SquareTiler$Net" "isCut" "[Z"]
def vsX4_isPlain : List Cond := .code yX4_isPlain cX4_isPlain 2 (some .boolean) :: (ovX4_isPlain ++ (wsX40 ++ []))
theorem qX4_isPlain_f41 : Cond.fieldLink RX4 41 "SquareTiler$Net" "power" "I" ∈ vsX4_isPlain := List.mem_cons_of_mem _ (List.mem_append_left _ (List.mem_of_getElem? (i := 0) rfl))
theorem qX4_isPlain_f18 : Cond.fieldLink RX4 18 "SquareTiler$Net" "isCut" "[Z" ∈ vsX4_isPlain := List.mem_cons_of_mem _ (List.mem_append_left _ (List.mem_of_getElem? (i := 1) rfl))
theorem qX4_isPlain_X4 : ∀ w ∈ u_ws RX4 TX4 10, w ∈ vsX4_isPlain := fun w h => List.mem_cons_of_mem _ (List.mem_append_right _ (List.mem_append_left _ h))
theorem gd_vsX4_isPlain : ∀ w ∈ vsX4_isPlain, goodWord w = true := dk_cons rfl (dk_app (dk_all (by decide +kernel)) (dk_app gd_wsX40 dk_nil))
def fX4_isPlain (N_isCut : Nat → Int32) (N_power x1 : Int32) : Option (Int32) := if x1 = N_power then some 0 else dk_gd (dk_in x1 22) (if (N_isCut x1.toNatClampNeg) = 0 then some 1 else some 0)
section
variable {p : Program} {l : Launch} {e : Env} {s : State} {m : MethodId} {args : Array Value} {below : List Frame} {meth : Method} {c : Code} {dC : Nat → ClassId} {dI : Nat → Nat → Nat} {cI cJ cZ : ClassId} {A : Nat → Prop} {oN : Nat} {aN : Nat → Nat} {N_first N_second N_isCut N_wireClaim N_knotClaim N_turnSize N_turns : Nat → Int32} {N_knots N_wires N_power : Int32}
end
set_option maxHeartbeats 4000000 in
set_option maxRecDepth 100000 in
theorem mX4_isPlain (l : Launch) (dC : Nat → ClassId) (dI : Nat → Nat → Nat) (cI cJ cZ : ClassId) {oN : Nat} {aN : Nat → Nat} {N_first N_second N_isCut N_wireClaim N_knotClaim N_turnSize N_turns : Nat → Int32} {N_knots N_wires N_power : Int32} {x1 : Int32} {out : Int32} (h : fX4_isPlain N_isCut N_power x1 = some out) (sz : Nat) : Met l yX4_isPlain vsX4_isPlain rX4_isPlain (va_Pc [.ref oN, .int x1] (dk_Pre (dC, dI) (dk_ty cI cJ cZ) (wX4 oN aN cI cJ cZ N_first N_second N_isCut N_wireClaim N_knotClaim N_turnSize N_turns N_knots N_wires N_power) sz)) (dk_Qi (dC, dI) (dk_ty cI cJ cZ) (wX4 oN aN cI cJ cZ N_first N_second N_isCut N_wireClaim N_knotClaim N_turnSize N_turns N_knots N_wires N_power) out (va_A (wX4 oN aN cI cJ cZ N_first N_second N_isCut N_wireClaim N_knotClaim N_turnSize N_turns N_knots N_wires N_power) sz)) 0 0 (va_A (wX4 oN aN cI cJ cZ N_first N_second N_isCut N_wireClaim N_knotClaim N_turnSize N_turns N_knots N_wires N_power) sz) := by
  refine dk_met (cc := cX4_isPlain) (maxL := 2) (ret := (some .boolean)) (Qc := fun A => dk_Qi (dC, dI) (dk_ty cI cJ cZ) (wX4 oN aN cI cJ cZ N_first N_second N_isCut N_wireClaim N_knotClaim N_turnSize N_turns N_knots N_wires N_power) out A) (by decide) rfl (Nat.le_of_ble_eq_true rfl) ?_
  intro p e s m below meth c A C hnm hA hK hP hD hS ls hl
  have C : dk_C p s m meth c _ cX4_isPlain (some .boolean) 2 RX4 vsX4_isPlain := C
  obtain ⟨hx, hb, hr, hml, hown, hts, hlocks⟩ := id C
  have hl : lv_has ls 2 [(0, .ref oN), (1, .int x1)] := hl
  unfold fX4_isPlain at h
  refine lv_iload_n hx hb dX4_isPlain_0 rfl (lv_at hl 1 rfl) ?_
  refine lv_aload_n hx hb dX4_isPlain_1 rfl (lv_at hl 0 rfl) ?_
  refine va_get (D := (dC, dI)) (ci := 4) (v := .int N_power) (C := RX4) (T := TX4) (N := 10) hx hb hts qX4_isPlain_X4 hown hK hP 0 rfl rfl 9 (by decide) (hts _ qX4_isPlain_f41) (fun _ h9 => h9) rfl dX4_isPlain_2 ?_
  refine lv_icmp_eq (tgt := 21) hx hb dX4_isPlain_5 (by decide) (fun c_1 => ?_) (fun c_1 => ?_)
  · replace h := dk_it c_1 h
    refine lv_iconst (v := 0) hx hb dX4_isPlain_21 (by decide) ?_
    have e9 := Option.some.inj h
    subst e9
    exact dk_zret C hK hP hD hS (by decide +kernel) rfl dX4_isPlain_22
  · replace h := dk_ie c_1 h
    refine lv_aload_n hx hb dX4_isPlain_8 rfl (lv_at hl 0 rfl) ?_
    refine va_get (D := (dC, dI)) (ci := 4) (v := .ref (aN 2)) (C := RX4) (T := TX4) (N := 10) hx hb hts qX4_isPlain_X4 hown hK hP 0 rfl rfl 2 (by decide) (hts _ qX4_isPlain_f18) (fun _ h9 => h9) rfl dX4_isPlain_9 ?_
    refine lv_iload_n hx hb dX4_isPlain_12 rfl (lv_at hl 1 rfl) ?_
    obtain ⟨g_2, h⟩ := dk_gd_to h
    have g_2 := dk_in_to g_2
    refine va_zald hx hb hK hP 3 2 rfl rfl g_2 dX4_isPlain_13 ?_
    refine lv_if_ne (tgt := 21) hx hb dX4_isPlain_14 (by decide) (fun c_3 => ?_) (fun c_3 => ?_)
    · replace h := dk_ie c_3 h
      refine lv_iconst (v := 0) hx hb dX4_isPlain_21 (by decide) ?_
      have e9 := Option.some.inj h
      subst e9
      exact dk_zret C hK hP hD hS (by decide +kernel) rfl dX4_isPlain_22
    · replace h := dk_it c_3 h
      refine lv_iconst (v := 1) hx hb dX4_isPlain_17 (by decide) ?_
      refine lv_goto (tgt := 22) hx hb dX4_isPlain_18 (by decide) ?_
      have e9 := Option.some.inj h
      subst e9
      exact dk_zret C hK hP hD hS (by decide +kernel) rfl dX4_isPlain_22
/-! ===== SquareTiler$Net.isWire ===== -/
abbrev rX4_isWire : Room := { frames := 0, cells := 0, slots := 0, locals := 0 }
def ovX4_isWire : List Cond := [Cond.fieldLink RX4 38 "SquareTiler$Net" "wires" "I"]
def vsX4_isWire : List Cond := .code yX4_isWire cX4_isWire 2 (some .boolean) :: (ovX4_isWire ++ (wsX40 ++ []))
theorem qX4_isWire_f38 : Cond.fieldLink RX4 38 "SquareTiler$Net" "wires" "I" ∈ vsX4_isWire := List.mem_cons_of_mem _ (List.mem_append_left _ (List.mem_of_getElem? (i := 0) rfl))
theorem qX4_isWire_X4 : ∀ w ∈ u_ws RX4 TX4 10, w ∈ vsX4_isWire := fun w h => List.mem_cons_of_mem _ (List.mem_append_right _ (List.mem_append_left _ h))
theorem gd_vsX4_isWire : ∀ w ∈ vsX4_isWire, goodWord w = true := dk_cons rfl (dk_app (dk_all (by decide +kernel)) (dk_app gd_wsX40 dk_nil))
def fX4_isWire (N_wires x1 : Int32) : Option (Int32) := if x1 < 0 then some 0 else if N_wires ≤ x1 then some 0 else some 1
section
variable {p : Program} {l : Launch} {e : Env} {s : State} {m : MethodId} {args : Array Value} {below : List Frame} {meth : Method} {c : Code} {dC : Nat → ClassId} {dI : Nat → Nat → Nat} {cI cJ cZ : ClassId} {A : Nat → Prop} {oN : Nat} {aN : Nat → Nat} {N_first N_second N_isCut N_wireClaim N_knotClaim N_turnSize N_turns : Nat → Int32} {N_knots N_wires N_power : Int32}
end
set_option maxHeartbeats 4000000 in
set_option maxRecDepth 100000 in
theorem mX4_isWire (l : Launch) (dC : Nat → ClassId) (dI : Nat → Nat → Nat) (cI cJ cZ : ClassId) {oN : Nat} {aN : Nat → Nat} {N_first N_second N_isCut N_wireClaim N_knotClaim N_turnSize N_turns : Nat → Int32} {N_knots N_wires N_power : Int32} {x1 : Int32} {out : Int32} (h : fX4_isWire N_wires x1 = some out) (sz : Nat) : Met l yX4_isWire vsX4_isWire rX4_isWire (va_Pc [.ref oN, .int x1] (dk_Pre (dC, dI) (dk_ty cI cJ cZ) (wX4 oN aN cI cJ cZ N_first N_second N_isCut N_wireClaim N_knotClaim N_turnSize N_turns N_knots N_wires N_power) sz)) (dk_Qi (dC, dI) (dk_ty cI cJ cZ) (wX4 oN aN cI cJ cZ N_first N_second N_isCut N_wireClaim N_knotClaim N_turnSize N_turns N_knots N_wires N_power) out (va_A (wX4 oN aN cI cJ cZ N_first N_second N_isCut N_wireClaim N_knotClaim N_turnSize N_turns N_knots N_wires N_power) sz)) 0 0 (va_A (wX4 oN aN cI cJ cZ N_first N_second N_isCut N_wireClaim N_knotClaim N_turnSize N_turns N_knots N_wires N_power) sz) := by
  refine dk_met (cc := cX4_isWire) (maxL := 2) (ret := (some .boolean)) (Qc := fun A => dk_Qi (dC, dI) (dk_ty cI cJ cZ) (wX4 oN aN cI cJ cZ N_first N_second N_isCut N_wireClaim N_knotClaim N_turnSize N_turns N_knots N_wires N_power) out A) (by decide) rfl (Nat.le_of_ble_eq_true rfl) ?_
  intro p e s m below meth c A C hnm hA hK hP hD hS ls hl
  have C : dk_C p s m meth c _ cX4_isWire (some .boolean) 2 RX4 vsX4_isWire := C
  obtain ⟨hx, hb, hr, hml, hown, hts, hlocks⟩ := id C
  have hl : lv_has ls 2 [(0, .ref oN), (1, .int x1)] := hl
  unfold fX4_isWire at h
  refine lv_iload_n hx hb dX4_isWire_0 rfl (lv_at hl 1 rfl) ?_
  refine lv_if_lt (tgt := 16) hx hb dX4_isWire_1 (by decide) (fun c_1 => ?_) (fun c_1 => ?_)
  · replace h := dk_it c_1 h
    refine lv_iconst (v := 0) hx hb dX4_isWire_16 (by decide) ?_
    have e9 := Option.some.inj h
    subst e9
    exact dk_zret C hK hP hD hS (by decide +kernel) rfl dX4_isWire_17
  · replace h := dk_ie c_1 h
    refine lv_iload_n hx hb dX4_isWire_4 rfl (lv_at hl 1 rfl) ?_
    refine lv_aload_n hx hb dX4_isWire_5 rfl (lv_at hl 0 rfl) ?_
    refine va_get (D := (dC, dI)) (ci := 4) (v := .int N_wires) (C := RX4) (T := TX4) (N := 10) hx hb hts qX4_isWire_X4 hown hK hP 0 rfl rfl 8 (by decide) (hts _ qX4_isWire_f38) (fun _ h9 => h9) rfl dX4_isWire_6 ?_
    refine lv_icmp_ge (tgt := 16) hx hb dX4_isWire_9 (by decide) (fun c_2 => ?_) (fun c_2 => ?_)
    · replace h := dk_it c_2 h
      refine lv_iconst (v := 0) hx hb dX4_isWire_16 (by decide) ?_
      have e9 := Option.some.inj h
      subst e9
      exact dk_zret C hK hP hD hS (by decide +kernel) rfl dX4_isWire_17
    · replace h := dk_ie c_2 h
      refine lv_iconst (v := 1) hx hb dX4_isWire_12 (by decide) ?_
      refine lv_goto (tgt := 17) hx hb dX4_isWire_13 (by decide) ?_
      have e9 := Option.some.inj h
      subst e9
      exact dk_zret C hK hP hD hS (by decide +kernel) rfl dX4_isWire_17
/-! ===== SquareTiler$Net.endsAt ===== -/
abbrev rX4_endsAt : Room := { frames := 0, cells := 0, slots := 0, locals := 0 }
def ovX4_endsAt : List Cond := [Cond.fieldLink RX4 9 "SquareTiler$Net" "first" "[I", Cond.fieldLink RX4 15 "SquareTiler$Net" "second" "[I"]
def vsX4_endsAt : List Cond := .code yX4_endsAt cX4_endsAt 3 (some .boolean) :: (ovX4_endsAt ++ (wsX40 ++ []))
theorem qX4_endsAt_f9 : Cond.fieldLink RX4 9 "SquareTiler$Net" "first" "[I" ∈ vsX4_endsAt := List.mem_cons_of_mem _ (List.mem_append_left _ (List.mem_of_getElem? (i := 0) rfl))
theorem qX4_endsAt_f15 : Cond.fieldLink RX4 15 "SquareTiler$Net" "second" "[I" ∈ vsX4_endsAt := List.mem_cons_of_mem _ (List.mem_append_left _ (List.mem_of_getElem? (i := 1) rfl))
theorem qX4_endsAt_X4 : ∀ w ∈ u_ws RX4 TX4 10, w ∈ vsX4_endsAt := fun w h => List.mem_cons_of_mem _ (List.mem_append_right _ (List.mem_append_left _ h))
theorem gd_vsX4_endsAt : ∀ w ∈ vsX4_endsAt, goodWord w = true := dk_cons rfl (dk_app (dk_all (by decide +kernel)) (dk_app gd_wsX40 dk_nil))
def jX4_endsAt_20 (N_first N_second : Nat → Int32) : Option (Int32) := some 1
def fX4_endsAt (N_first N_second : Nat → Int32) (x1 x2 : Int32) : Option (Int32) := dk_gd (dk_in x1 22) (if (N_first x1.toNatClampNeg) = x2 then jX4_endsAt_20 N_first N_second else if (N_second x1.toNatClampNeg) = x2 then jX4_endsAt_20 N_first N_second else some 0)
section
variable {p : Program} {l : Launch} {e : Env} {s : State} {m : MethodId} {args : Array Value} {below : List Frame} {meth : Method} {c : Code} {dC : Nat → ClassId} {dI : Nat → Nat → Nat} {cI cJ cZ : ClassId} {A : Nat → Prop} {oN : Nat} {aN : Nat → Nat} {N_first N_second N_isCut N_wireClaim N_knotClaim N_turnSize N_turns : Nat → Int32} {N_knots N_wires N_power : Int32}
set_option maxHeartbeats 4000000 in
set_option maxRecDepth 100000 in
theorem kX4_endsAt_20 (C : dk_C p s m meth c args cX4_endsAt (some .boolean) 3 RX4 vsX4_endsAt) (hK : va_K (dC, dI) vwCl (dk_ty cI cJ cZ) s) (hA : ∀ q : Nat, s.heap.size ≤ q → A q) {out : Int32} (h : jX4_endsAt_20 N_first N_second = some out) : ∀ (H : Heap) (locs : List Loc), va_P (dC, dI) vwCl (wX4 oN aN cI cJ cZ N_first N_second N_isCut N_wireClaim N_knotClaim N_turnSize N_turns N_knots N_wires N_power) H → va_D A (wX4 oN aN cI cJ cZ N_first N_second N_isCut N_wireClaim N_knotClaim N_turnSize N_turns N_knots N_wires N_power) → va_S A s.heap H locs → ∀ ls : Array Slot, lv_has ls 3 [(0, .ref oN)] → W p l e rX4_endsAt s m args below meth c H locs 0 0 (MQ below (dk_Qi (dC, dI) (dk_ty cI cJ cZ) (wX4 oN aN cI cJ cZ N_first N_second N_isCut N_wireClaim N_knotClaim N_turnSize N_turns N_knots N_wires N_power) out A) args s 0 0 A) (F0 m 20 ls []) := by
  obtain ⟨hx, hb, hr, hml, hown, hts, hlocks⟩ := id C
  intro H locs hP hD hS ls hl
  unfold jX4_endsAt_20 at h
  refine lv_iconst (v := 1) hx hb dX4_endsAt_20 (by decide) ?_
  refine lv_goto (tgt := 25) hx hb dX4_endsAt_21 (by decide) ?_
  have e9 := Option.some.inj h
  subst e9
  exact dk_zret C hK hP hD hS (by decide +kernel) rfl dX4_endsAt_25
end
set_option maxHeartbeats 4000000 in
set_option maxRecDepth 100000 in
theorem mX4_endsAt (l : Launch) (dC : Nat → ClassId) (dI : Nat → Nat → Nat) (cI cJ cZ : ClassId) {oN : Nat} {aN : Nat → Nat} {N_first N_second N_isCut N_wireClaim N_knotClaim N_turnSize N_turns : Nat → Int32} {N_knots N_wires N_power : Int32} {x1 x2 : Int32} {out : Int32} (h : fX4_endsAt N_first N_second x1 x2 = some out) (sz : Nat) : Met l yX4_endsAt vsX4_endsAt rX4_endsAt (va_Pc [.ref oN, .int x1, .int x2] (dk_Pre (dC, dI) (dk_ty cI cJ cZ) (wX4 oN aN cI cJ cZ N_first N_second N_isCut N_wireClaim N_knotClaim N_turnSize N_turns N_knots N_wires N_power) sz)) (dk_Qi (dC, dI) (dk_ty cI cJ cZ) (wX4 oN aN cI cJ cZ N_first N_second N_isCut N_wireClaim N_knotClaim N_turnSize N_turns N_knots N_wires N_power) out (va_A (wX4 oN aN cI cJ cZ N_first N_second N_isCut N_wireClaim N_knotClaim N_turnSize N_turns N_knots N_wires N_power) sz)) 0 0 (va_A (wX4 oN aN cI cJ cZ N_first N_second N_isCut N_wireClaim N_knotClaim N_turnSize N_turns N_knots N_wires N_power) sz) := by
  refine dk_met (cc := cX4_endsAt) (maxL := 3) (ret := (some .boolean)) (Qc := fun A => dk_Qi (dC, dI) (dk_ty cI cJ cZ) (wX4 oN aN cI cJ cZ N_first N_second N_isCut N_wireClaim N_knotClaim N_turnSize N_turns N_knots N_wires N_power) out A) (by decide) rfl (Nat.le_of_ble_eq_true rfl) ?_
  intro p e s m below meth c A C hnm hA hK hP hD hS ls hl
  have C : dk_C p s m meth c _ cX4_endsAt (some .boolean) 3 RX4 vsX4_endsAt := C
  obtain ⟨hx, hb, hr, hml, hown, hts, hlocks⟩ := id C
  have hl : lv_has ls 3 [(0, .ref oN), (1, .int x1), (2, .int x2)] := hl
  unfold fX4_endsAt at h
  refine lv_aload_n hx hb dX4_endsAt_0 rfl (lv_at hl 0 rfl) ?_
  refine va_get (D := (dC, dI)) (ci := 4) (v := .ref (aN 0)) (C := RX4) (T := TX4) (N := 10) hx hb hts qX4_endsAt_X4 hown hK hP 0 rfl rfl 0 (by decide) (hts _ qX4_endsAt_f9) (fun _ h9 => h9) rfl dX4_endsAt_1 ?_
  refine lv_iload_n hx hb dX4_endsAt_4 rfl (lv_at hl 1 rfl) ?_
  obtain ⟨g_1, h⟩ := dk_gd_to h
  have g_1 := dk_in_to g_1
  refine va_iald hx hb hK hP 1 0 rfl rfl g_1 dX4_endsAt_5 ?_
  refine lv_iload_n hx hb dX4_endsAt_6 rfl (lv_at hl 2 rfl) ?_
  refine lv_icmp_eq (tgt := 20) hx hb dX4_endsAt_7 (by decide) (fun c_2 => ?_) (fun c_2 => ?_)
  · replace h := dk_it c_2 h
    exact kX4_endsAt_20 C hK hA h _ _ hP hD hS ls (lv_sub hl [0] rfl)
  · replace h := dk_ie c_2 h
    refine lv_aload_n hx hb dX4_endsAt_10 rfl (lv_at hl 0 rfl) ?_
    refine va_get (D := (dC, dI)) (ci := 4) (v := .ref (aN 1)) (C := RX4) (T := TX4) (N := 10) hx hb hts qX4_endsAt_X4 hown hK hP 0 rfl rfl 1 (by decide) (hts _ qX4_endsAt_f15) (fun _ h9 => h9) rfl dX4_endsAt_11 ?_
    refine lv_iload_n hx hb dX4_endsAt_14 rfl (lv_at hl 1 rfl) ?_
    refine va_iald hx hb hK hP 2 0 rfl rfl g_1 dX4_endsAt_15 ?_
    refine lv_iload_n hx hb dX4_endsAt_16 rfl (lv_at hl 2 rfl) ?_
    refine lv_icmp_ne (tgt := 24) hx hb dX4_endsAt_17 (by decide) (fun c_3 => ?_) (fun c_3 => ?_)
    · replace h := dk_ie c_3 h
      refine lv_iconst (v := 0) hx hb dX4_endsAt_24 (by decide) ?_
      have e9 := Option.some.inj h
      subst e9
      exact dk_zret C hK hP hD hS (by decide +kernel) rfl dX4_endsAt_25
    · replace h := dk_it c_3 h
      exact kX4_endsAt_20 C hK hA h _ _ hP hD hS ls (lv_sub hl [0] rfl)
/-! ===== SquareTiler$Net.addWire ===== -/
abbrev rX4_addWire : Room := { frames := 0, cells := 0, slots := 0, locals := 0 }
def ovX4_addWire : List Cond := [Cond.fieldLink RX4 9 "SquareTiler$Net" "first" "[I", Cond.fieldLink RX4 38 "SquareTiler$Net" "wires" "I", Cond.fieldLink RX4 15 "SquareTiler$Net" "second" "[I", Cond.fieldLink RX4 18 "SquareTiler$Net" "isCut" "[Z", Cond.fieldLink RX4 22 "SquareTiler$Net" "wireClaim" "[I"]
def vsX4_addWire : List Cond := .code yX4_addWire cX4_addWire 3 (some .int) :: (ovX4_addWire ++ (wsX40 ++ []))
theorem qX4_addWire_f9 : Cond.fieldLink RX4 9 "SquareTiler$Net" "first" "[I" ∈ vsX4_addWire := List.mem_cons_of_mem _ (List.mem_append_left _ (List.mem_of_getElem? (i := 0) rfl))
theorem qX4_addWire_f38 : Cond.fieldLink RX4 38 "SquareTiler$Net" "wires" "I" ∈ vsX4_addWire := List.mem_cons_of_mem _ (List.mem_append_left _ (List.mem_of_getElem? (i := 1) rfl))
theorem qX4_addWire_f15 : Cond.fieldLink RX4 15 "SquareTiler$Net" "second" "[I" ∈ vsX4_addWire := List.mem_cons_of_mem _ (List.mem_append_left _ (List.mem_of_getElem? (i := 2) rfl))
theorem qX4_addWire_f18 : Cond.fieldLink RX4 18 "SquareTiler$Net" "isCut" "[Z" ∈ vsX4_addWire := List.mem_cons_of_mem _ (List.mem_append_left _ (List.mem_of_getElem? (i := 3) rfl))
theorem qX4_addWire_f22 : Cond.fieldLink RX4 22 "SquareTiler$Net" "wireClaim" "[I" ∈ vsX4_addWire := List.mem_cons_of_mem _ (List.mem_append_left _ (List.mem_of_getElem? (i := 4) rfl))
theorem qX4_addWire_X4 : ∀ w ∈ u_ws RX4 TX4 10, w ∈ vsX4_addWire := fun w h => List.mem_cons_of_mem _ (List.mem_append_right _ (List.mem_append_left _ h))
theorem gd_vsX4_addWire : ∀ w ∈ vsX4_addWire, goodWord w = true := dk_cons rfl (dk_app (dk_all (by decide +kernel)) (dk_app gd_wsX40 dk_nil))
def fX4_addWire (N_first N_second N_isCut N_wireClaim : Nat → Int32) (N_wires x1 x2 : Int32) : Option (Int32 × (Nat → Int32) × (Nat → Int32) × (Nat → Int32) × (Nat → Int32) × Int32) := dk_gd (dk_in N_wires 22) (dk_let (upd N_first N_wires.toNatClampNeg x1) (fun N_first_2 => dk_let (upd N_second N_wires.toNatClampNeg x2) (fun N_second_3 => dk_let (upd N_isCut N_wires.toNatClampNeg (vp_nar .boolean 0)) (fun N_isCut_4 => dk_let (upd N_wireClaim N_wires.toNatClampNeg 0) (fun N_wireClaim_5 => dk_let ((N_wires + 1)) (fun N_wires_6 => some ((N_wires_6 - 1), N_first_2, N_second_3, N_isCut_4, N_wireClaim_5, N_wires_6)))))))
section
variable {p : Program} {l : Launch} {e : Env} {s : State} {m : MethodId} {args : Array Value} {below : List Frame} {meth : Method} {c : Code} {dC : Nat → ClassId} {dI : Nat → Nat → Nat} {cI cJ cZ : ClassId} {A : Nat → Prop} {oN : Nat} {aN : Nat → Nat} {N_first N_second N_isCut N_wireClaim N_knotClaim N_turnSize N_turns : Nat → Int32} {N_knots N_wires N_power : Int32}
end
set_option maxHeartbeats 4000000 in
set_option maxRecDepth 100000 in
theorem mX4_addWire (l : Launch) (dC : Nat → ClassId) (dI : Nat → Nat → Nat) (cI cJ cZ : ClassId) {oN : Nat} {aN : Nat → Nat} {N_first N_second N_isCut N_wireClaim N_knotClaim N_turnSize N_turns : Nat → Int32} {N_knots N_wires N_power : Int32} {x1 x2 : Int32} {out : Int32 × (Nat → Int32) × (Nat → Int32) × (Nat → Int32) × (Nat → Int32) × Int32} (h : fX4_addWire N_first N_second N_isCut N_wireClaim N_wires x1 x2 = some out) (sz : Nat) : Met l yX4_addWire vsX4_addWire rX4_addWire (va_Pc [.ref oN, .int x1, .int x2] (dk_Pre (dC, dI) (dk_ty cI cJ cZ) (wX4 oN aN cI cJ cZ N_first N_second N_isCut N_wireClaim N_knotClaim N_turnSize N_turns N_knots N_wires N_power) sz)) (dk_Qi (dC, dI) (dk_ty cI cJ cZ) (wX4 oN aN cI cJ cZ out.2.1 out.2.2.1 out.2.2.2.1 out.2.2.2.2.1 N_knotClaim N_turnSize N_turns N_knots out.2.2.2.2.2 N_power) out.1 (va_A (wX4 oN aN cI cJ cZ N_first N_second N_isCut N_wireClaim N_knotClaim N_turnSize N_turns N_knots N_wires N_power) sz)) 0 0 (va_A (wX4 oN aN cI cJ cZ N_first N_second N_isCut N_wireClaim N_knotClaim N_turnSize N_turns N_knots N_wires N_power) sz) := by
  refine dk_met (cc := cX4_addWire) (maxL := 3) (ret := (some .int)) (Qc := fun A => dk_Qi (dC, dI) (dk_ty cI cJ cZ) (wX4 oN aN cI cJ cZ out.2.1 out.2.2.1 out.2.2.2.1 out.2.2.2.2.1 N_knotClaim N_turnSize N_turns N_knots out.2.2.2.2.2 N_power) out.1 A) (by decide) rfl (Nat.le_of_ble_eq_true rfl) ?_
  intro p e s m below meth c A C hnm hA hK hP hD hS ls hl
  have C : dk_C p s m meth c _ cX4_addWire (some .int) 3 RX4 vsX4_addWire := C
  obtain ⟨hx, hb, hr, hml, hown, hts, hlocks⟩ := id C
  have hl : lv_has ls 3 [(0, .ref oN), (1, .int x1), (2, .int x2)] := hl
  unfold fX4_addWire at h
  refine lv_aload_n hx hb dX4_addWire_0 rfl (lv_at hl 0 rfl) ?_
  refine va_get (D := (dC, dI)) (ci := 4) (v := .ref (aN 0)) (C := RX4) (T := TX4) (N := 10) hx hb hts qX4_addWire_X4 hown hK hP 0 rfl rfl 0 (by decide) (hts _ qX4_addWire_f9) (fun _ h9 => h9) rfl dX4_addWire_1 ?_
  refine lv_aload_n hx hb dX4_addWire_4 rfl (lv_at hl 0 rfl) ?_
  refine va_get (D := (dC, dI)) (ci := 4) (v := .int N_wires) (C := RX4) (T := TX4) (N := 10) hx hb hts qX4_addWire_X4 hown hK hP 0 rfl rfl 8 (by decide) (hts _ qX4_addWire_f38) (fun _ h9 => h9) rfl dX4_addWire_5 ?_
  refine lv_iload_n hx hb dX4_addWire_8 rfl (lv_at hl 1 rfl) ?_
  obtain ⟨g_1, h⟩ := dk_gd_to h
  have g_1 := dk_in_to g_1
  refine va_iast hx hb hK hP hD hS 1 0 rfl rfl g_1 dX4_addWire_9 (fun H locs hP hD hS => ?_)
  obtain ⟨N_first_2, eN_first_2⟩ : ∃ z : Nat → Int32, z = upd N_first N_wires.toNatClampNeg x1 := ⟨_, rfl⟩
  replace h := dk_let_to eN_first_2 h
  have hP : va_P (dC, dI) vwCl (wX4 oN aN cI cJ cZ N_first_2 N_second N_isCut N_wireClaim N_knotClaim N_turnSize N_turns N_knots N_wires N_power) H := by rw [eN_first_2]; exact hP
  have hD : va_D A (wX4 oN aN cI cJ cZ N_first_2 N_second N_isCut N_wireClaim N_knotClaim N_turnSize N_turns N_knots N_wires N_power) := by rw [eN_first_2]; exact hD
  refine lv_aload_n hx hb dX4_addWire_10 rfl (lv_at hl 0 rfl) ?_
  refine va_get (D := (dC, dI)) (ci := 4) (v := .ref (aN 1)) (C := RX4) (T := TX4) (N := 10) hx hb hts qX4_addWire_X4 hown hK hP 0 rfl rfl 1 (by decide) (hts _ qX4_addWire_f15) (fun _ h9 => h9) rfl dX4_addWire_11 ?_
  refine lv_aload_n hx hb dX4_addWire_14 rfl (lv_at hl 0 rfl) ?_
  refine va_get (D := (dC, dI)) (ci := 4) (v := .int N_wires) (C := RX4) (T := TX4) (N := 10) hx hb hts qX4_addWire_X4 hown hK hP 0 rfl rfl 8 (by decide) (hts _ qX4_addWire_f38) (fun _ h9 => h9) rfl dX4_addWire_15 ?_
  refine lv_iload_n hx hb dX4_addWire_18 rfl (lv_at hl 2 rfl) ?_
  refine va_iast hx hb hK hP hD hS 2 0 rfl rfl g_1 dX4_addWire_19 (fun H locs hP hD hS => ?_)
  obtain ⟨N_second_3, eN_second_3⟩ : ∃ z : Nat → Int32, z = upd N_second N_wires.toNatClampNeg x2 := ⟨_, rfl⟩
  replace h := dk_let_to eN_second_3 h
  have hP : va_P (dC, dI) vwCl (wX4 oN aN cI cJ cZ N_first_2 N_second_3 N_isCut N_wireClaim N_knotClaim N_turnSize N_turns N_knots N_wires N_power) H := by rw [eN_second_3]; exact hP
  have hD : va_D A (wX4 oN aN cI cJ cZ N_first_2 N_second_3 N_isCut N_wireClaim N_knotClaim N_turnSize N_turns N_knots N_wires N_power) := by rw [eN_second_3]; exact hD
  refine lv_aload_n hx hb dX4_addWire_20 rfl (lv_at hl 0 rfl) ?_
  refine va_get (D := (dC, dI)) (ci := 4) (v := .ref (aN 2)) (C := RX4) (T := TX4) (N := 10) hx hb hts qX4_addWire_X4 hown hK hP 0 rfl rfl 2 (by decide) (hts _ qX4_addWire_f18) (fun _ h9 => h9) rfl dX4_addWire_21 ?_
  refine lv_aload_n hx hb dX4_addWire_24 rfl (lv_at hl 0 rfl) ?_
  refine va_get (D := (dC, dI)) (ci := 4) (v := .int N_wires) (C := RX4) (T := TX4) (N := 10) hx hb hts qX4_addWire_X4 hown hK hP 0 rfl rfl 8 (by decide) (hts _ qX4_addWire_f38) (fun _ h9 => h9) rfl dX4_addWire_25 ?_
  refine lv_iconst (v := 0) hx hb dX4_addWire_28 (by decide) ?_
  refine va_zast hx hb hK hP hD hS 3 2 rfl rfl g_1 dX4_addWire_29 (fun H locs hP hD hS => ?_)
  obtain ⟨N_isCut_4, eN_isCut_4⟩ : ∃ z : Nat → Int32, z = upd N_isCut N_wires.toNatClampNeg (vp_nar .boolean 0) := ⟨_, rfl⟩
  replace h := dk_let_to eN_isCut_4 h
  have hP : va_P (dC, dI) vwCl (wX4 oN aN cI cJ cZ N_first_2 N_second_3 N_isCut_4 N_wireClaim N_knotClaim N_turnSize N_turns N_knots N_wires N_power) H := by rw [eN_isCut_4]; exact hP
  have hD : va_D A (wX4 oN aN cI cJ cZ N_first_2 N_second_3 N_isCut_4 N_wireClaim N_knotClaim N_turnSize N_turns N_knots N_wires N_power) := by rw [eN_isCut_4]; exact hD
  refine lv_aload_n hx hb dX4_addWire_30 rfl (lv_at hl 0 rfl) ?_
  refine va_get (D := (dC, dI)) (ci := 4) (v := .ref (aN 3)) (C := RX4) (T := TX4) (N := 10) hx hb hts qX4_addWire_X4 hown hK hP 0 rfl rfl 3 (by decide) (hts _ qX4_addWire_f22) (fun _ h9 => h9) rfl dX4_addWire_31 ?_
  refine lv_aload_n hx hb dX4_addWire_34 rfl (lv_at hl 0 rfl) ?_
  refine va_get (D := (dC, dI)) (ci := 4) (v := .int N_wires) (C := RX4) (T := TX4) (N := 10) hx hb hts qX4_addWire_X4 hown hK hP 0 rfl rfl 8 (by decide) (hts _ qX4_addWire_f38) (fun _ h9 => h9) rfl dX4_addWire_35 ?_
  refine lv_iconst (v := 0) hx hb dX4_addWire_38 (by decide) ?_
  refine va_iast hx hb hK hP hD hS 4 0 rfl rfl g_1 dX4_addWire_39 (fun H locs hP hD hS => ?_)
  obtain ⟨N_wireClaim_5, eN_wireClaim_5⟩ : ∃ z : Nat → Int32, z = upd N_wireClaim N_wires.toNatClampNeg 0 := ⟨_, rfl⟩
  replace h := dk_let_to eN_wireClaim_5 h
  have hP : va_P (dC, dI) vwCl (wX4 oN aN cI cJ cZ N_first_2 N_second_3 N_isCut_4 N_wireClaim_5 N_knotClaim N_turnSize N_turns N_knots N_wires N_power) H := by rw [eN_wireClaim_5]; exact hP
  have hD : va_D A (wX4 oN aN cI cJ cZ N_first_2 N_second_3 N_isCut_4 N_wireClaim_5 N_knotClaim N_turnSize N_turns N_knots N_wires N_power) := by rw [eN_wireClaim_5]; exact hD
  refine lv_aload_n hx hb dX4_addWire_40 rfl (lv_at hl 0 rfl) ?_
  refine lv_dup hx hb dX4_addWire_41 rfl ?_
  refine va_get (D := (dC, dI)) (ci := 4) (v := .int N_wires) (C := RX4) (T := TX4) (N := 10) hx hb hts qX4_addWire_X4 hown hK hP 0 rfl rfl 8 (by decide) (hts _ qX4_addWire_f38) (fun _ h9 => h9) rfl dX4_addWire_42 ?_
  refine lv_iconst (v := 1) hx hb dX4_addWire_45 (by decide) ?_
  refine lv_iadd hx hb dX4_addWire_46 ?_
  refine va_put (D := (dC, dI)) (ci := 4) (v := .int (N_wires + 1)) (ty := .int) (C := RX4) (T := TX4) (N := 10) hx hb hts qX4_addWire_X4 tyX4 tyX4_ok nmX4 hown hK hP hD hS 0 rfl rfl 8 (by decide) (hts _ qX4_addWire_f38) (fun _ h9 => h9) rfl (by decide +kernel) rfl rfl (Nat.le_of_ble_eq_true rfl) dX4_addWire_47 (fun H locs hP hD hS => ?_)
  obtain ⟨N_wires_6, eN_wires_6⟩ : ∃ z : Int32, z = (N_wires + 1) := ⟨_, rfl⟩
  replace h := dk_let_to eN_wires_6 h
  have hP : va_P (dC, dI) vwCl (wX4 oN aN cI cJ cZ N_first_2 N_second_3 N_isCut_4 N_wireClaim_5 N_knotClaim N_turnSize N_turns N_knots N_wires_6 N_power) H := by rw [eN_wires_6]; exact hP
  have hD : va_D A (wX4 oN aN cI cJ cZ N_first_2 N_second_3 N_isCut_4 N_wireClaim_5 N_knotClaim N_turnSize N_turns N_knots N_wires_6 N_power) := by rw [eN_wires_6]; exact hD
  refine lv_aload_n hx hb dX4_addWire_50 rfl (lv_at hl 0 rfl) ?_
  refine va_get (D := (dC, dI)) (ci := 4) (v := .int N_wires_6) (C := RX4) (T := TX4) (N := 10) hx hb hts qX4_addWire_X4 hown hK hP 0 rfl rfl 8 (by decide) (hts _ qX4_addWire_f38) (fun _ h9 => h9) rfl dX4_addWire_51 ?_
  refine lv_iconst (v := 1) hx hb dX4_addWire_54 (by decide) ?_
  refine lv_isub hx hb dX4_addWire_55 ?_
  have e9 := Option.some.inj h
  subst e9
  exact dk_iret C hK hP hD hS rfl dX4_addWire_56
/-! ===== SquareTiler$Net.makeEmpty ===== -/
abbrev rX4_makeEmpty : Room := { frames := 0, cells := 0, slots := 0, locals := 0 }
def ovX4_makeEmpty : List Cond := [Cond.fieldLink RX4 34 "SquareTiler$Net" "knots" "I", Cond.fieldLink RX4 38 "SquareTiler$Net" "wires" "I", Cond.fieldLink RX4 41 "SquareTiler$Net" "power" "I"]
def vsX4_makeEmpty : List Cond := .code yX4_makeEmpty cX4_makeEmpty 1 none :: (ovX4_makeEmpty ++ (wsX40 ++ []))
theorem qX4_makeEmpty_f34 : Cond.fieldLink RX4 34 "SquareTiler$Net" "knots" "I" ∈ vsX4_makeEmpty := List.mem_cons_of_mem _ (List.mem_append_left _ (List.mem_of_getElem? (i := 0) rfl))
theorem qX4_makeEmpty_f38 : Cond.fieldLink RX4 38 "SquareTiler$Net" "wires" "I" ∈ vsX4_makeEmpty := List.mem_cons_of_mem _ (List.mem_append_left _ (List.mem_of_getElem? (i := 1) rfl))
theorem qX4_makeEmpty_f41 : Cond.fieldLink RX4 41 "SquareTiler$Net" "power" "I" ∈ vsX4_makeEmpty := List.mem_cons_of_mem _ (List.mem_append_left _ (List.mem_of_getElem? (i := 2) rfl))
theorem qX4_makeEmpty_X4 : ∀ w ∈ u_ws RX4 TX4 10, w ∈ vsX4_makeEmpty := fun w h => List.mem_cons_of_mem _ (List.mem_append_right _ (List.mem_append_left _ h))
theorem gd_vsX4_makeEmpty : ∀ w ∈ vsX4_makeEmpty, goodWord w = true := dk_cons rfl (dk_app (dk_all (by decide +kernel)) (dk_app gd_wsX40 dk_nil))
def fX4_makeEmpty (N_knots N_wires N_power : Int32) : Option (Int32 × Int32 × Int32) := some (0, 0, (-1))
section
variable {p : Program} {l : Launch} {e : Env} {s : State} {m : MethodId} {args : Array Value} {below : List Frame} {meth : Method} {c : Code} {dC : Nat → ClassId} {dI : Nat → Nat → Nat} {cI cJ cZ : ClassId} {A : Nat → Prop} {oN : Nat} {aN : Nat → Nat} {N_first N_second N_isCut N_wireClaim N_knotClaim N_turnSize N_turns : Nat → Int32} {N_knots N_wires N_power : Int32}
end
set_option maxHeartbeats 4000000 in
set_option maxRecDepth 100000 in
theorem mX4_makeEmpty (l : Launch) (dC : Nat → ClassId) (dI : Nat → Nat → Nat) (cI cJ cZ : ClassId) {oN : Nat} {aN : Nat → Nat} {N_first N_second N_isCut N_wireClaim N_knotClaim N_turnSize N_turns : Nat → Int32} {N_knots N_wires N_power : Int32} {out : Int32 × Int32 × Int32} (h : fX4_makeEmpty N_knots N_wires N_power = some out) (sz : Nat) : Met l yX4_makeEmpty vsX4_makeEmpty rX4_makeEmpty (va_Pc [.ref oN] (dk_Pre (dC, dI) (dk_ty cI cJ cZ) (wX4 oN aN cI cJ cZ N_first N_second N_isCut N_wireClaim N_knotClaim N_turnSize N_turns N_knots N_wires N_power) sz)) (dk_Qv (dC, dI) (dk_ty cI cJ cZ) (wX4 oN aN cI cJ cZ N_first N_second N_isCut N_wireClaim N_knotClaim N_turnSize N_turns out.1 out.2.1 out.2.2) (va_A (wX4 oN aN cI cJ cZ N_first N_second N_isCut N_wireClaim N_knotClaim N_turnSize N_turns N_knots N_wires N_power) sz)) 0 0 (va_A (wX4 oN aN cI cJ cZ N_first N_second N_isCut N_wireClaim N_knotClaim N_turnSize N_turns N_knots N_wires N_power) sz) := by
  refine dk_met (cc := cX4_makeEmpty) (maxL := 1) (ret := none) (Qc := fun A => dk_Qv (dC, dI) (dk_ty cI cJ cZ) (wX4 oN aN cI cJ cZ N_first N_second N_isCut N_wireClaim N_knotClaim N_turnSize N_turns out.1 out.2.1 out.2.2) A) (by decide) rfl (Nat.le_of_ble_eq_true rfl) ?_
  intro p e s m below meth c A C hnm hA hK hP hD hS ls hl
  have C : dk_C p s m meth c _ cX4_makeEmpty none 1 RX4 vsX4_makeEmpty := C
  obtain ⟨hx, hb, hr, hml, hown, hts, hlocks⟩ := id C
  have hl : lv_has ls 1 [(0, .ref oN)] := hl
  unfold fX4_makeEmpty at h
  refine lv_aload_n hx hb dX4_makeEmpty_0 rfl (lv_at hl 0 rfl) ?_
  refine lv_iconst (v := 0) hx hb dX4_makeEmpty_1 (by decide) ?_
  refine va_put (D := (dC, dI)) (ci := 4) (v := .int 0) (ty := .int) (C := RX4) (T := TX4) (N := 10) hx hb hts qX4_makeEmpty_X4 tyX4 tyX4_ok nmX4 hown hK hP hD hS 0 rfl rfl 7 (by decide) (hts _ qX4_makeEmpty_f34) (fun _ h9 => h9) rfl (by decide +kernel) rfl rfl (Nat.le_of_ble_eq_true rfl) dX4_makeEmpty_2 (fun H locs hP hD hS => ?_)
  have hP : va_P (dC, dI) vwCl (wX4 oN aN cI cJ cZ N_first N_second N_isCut N_wireClaim N_knotClaim N_turnSize N_turns 0 N_wires N_power) H := hP
  have hD : va_D A (wX4 oN aN cI cJ cZ N_first N_second N_isCut N_wireClaim N_knotClaim N_turnSize N_turns 0 N_wires N_power) := hD
  refine lv_aload_n hx hb dX4_makeEmpty_5 rfl (lv_at hl 0 rfl) ?_
  refine lv_iconst (v := 0) hx hb dX4_makeEmpty_6 (by decide) ?_
  refine va_put (D := (dC, dI)) (ci := 4) (v := .int 0) (ty := .int) (C := RX4) (T := TX4) (N := 10) hx hb hts qX4_makeEmpty_X4 tyX4 tyX4_ok nmX4 hown hK hP hD hS 0 rfl rfl 8 (by decide) (hts _ qX4_makeEmpty_f38) (fun _ h9 => h9) rfl (by decide +kernel) rfl rfl (Nat.le_of_ble_eq_true rfl) dX4_makeEmpty_7 (fun H locs hP hD hS => ?_)
  have hP : va_P (dC, dI) vwCl (wX4 oN aN cI cJ cZ N_first N_second N_isCut N_wireClaim N_knotClaim N_turnSize N_turns 0 0 N_power) H := hP
  have hD : va_D A (wX4 oN aN cI cJ cZ N_first N_second N_isCut N_wireClaim N_knotClaim N_turnSize N_turns 0 0 N_power) := hD
  refine lv_aload_n hx hb dX4_makeEmpty_10 rfl (lv_at hl 0 rfl) ?_
  refine lv_iconst (v := (-1)) hx hb dX4_makeEmpty_11 (by decide) ?_
  refine va_put (D := (dC, dI)) (ci := 4) (v := .int (-1)) (ty := .int) (C := RX4) (T := TX4) (N := 10) hx hb hts qX4_makeEmpty_X4 tyX4 tyX4_ok nmX4 hown hK hP hD hS 0 rfl rfl 9 (by decide) (hts _ qX4_makeEmpty_f41) (fun _ h9 => h9) rfl (by decide +kernel) rfl rfl (Nat.le_of_ble_eq_true rfl) dX4_makeEmpty_12 (fun H locs hP hD hS => ?_)
  have hP : va_P (dC, dI) vwCl (wX4 oN aN cI cJ cZ N_first N_second N_isCut N_wireClaim N_knotClaim N_turnSize N_turns 0 0 (-1)) H := hP
  have hD : va_D A (wX4 oN aN cI cJ cZ N_first N_second N_isCut N_wireClaim N_knotClaim N_turnSize N_turns 0 0 (-1)) := hD
  have e9 := Option.some.inj h
  subst e9
  exact dk_vret C hK hP hD hS dX4_makeEmpty_15
/-! ===== SquareTiler$Net.takeFrom ===== -/
abbrev rX4_takeFrom : Room := { frames := 1, cells := 0, slots := 0, locals := 40 }
def ovX4_takeFrom : List Cond := [Cond.fieldLink RX4 34 "SquareTiler$Net" "knots" "I", Cond.fieldLink RX4 38 "SquareTiler$Net" "wires" "I", Cond.fieldLink RX4 41 "SquareTiler$Net" "power" "I", Cond.fieldLink RX4 9 "SquareTiler$Net" "first" "[I", Cond.methodLink RX4 44 arraycopyName, Cond.native arraycopyName, Cond.static arraycopyName, Cond.initialized "java/lang/System", Cond.fieldLink RX4 15 "SquareTiler$Net" "second" "[I", Cond.fieldLink RX4 18 "SquareTiler$Net" "isCut" "[Z", Cond.fieldLink RX4 22 "SquareTiler$Net" "wireClaim" "[I", Cond.fieldLink RX4 25 "SquareTiler$Net" "knotClaim" "[I", Cond.fieldLink RX4 28 "SquareTiler$Net" "turnSize" "[I", Cond.fieldLink RX4 31 "SquareTiler$Net" "turns" "[I"]
def vsX4_takeFrom : List Cond := .code yX4_takeFrom cX4_takeFrom 2 none :: (ovX4_takeFrom ++ (wsX40 ++ []))
theorem qX4_takeFrom_f34 : Cond.fieldLink RX4 34 "SquareTiler$Net" "knots" "I" ∈ vsX4_takeFrom := List.mem_cons_of_mem _ (List.mem_append_left _ (List.mem_of_getElem? (i := 0) rfl))
theorem qX4_takeFrom_f38 : Cond.fieldLink RX4 38 "SquareTiler$Net" "wires" "I" ∈ vsX4_takeFrom := List.mem_cons_of_mem _ (List.mem_append_left _ (List.mem_of_getElem? (i := 1) rfl))
theorem qX4_takeFrom_f41 : Cond.fieldLink RX4 41 "SquareTiler$Net" "power" "I" ∈ vsX4_takeFrom := List.mem_cons_of_mem _ (List.mem_append_left _ (List.mem_of_getElem? (i := 2) rfl))
theorem qX4_takeFrom_f9 : Cond.fieldLink RX4 9 "SquareTiler$Net" "first" "[I" ∈ vsX4_takeFrom := List.mem_cons_of_mem _ (List.mem_append_left _ (List.mem_of_getElem? (i := 3) rfl))
theorem qX4_takeFrom_ac1 : Cond.methodLink RX4 44 arraycopyName ∈ vsX4_takeFrom := List.mem_cons_of_mem _ (List.mem_append_left _ (List.mem_of_getElem? (i := 4) rfl))
theorem qX4_takeFrom_ac2 : Cond.native arraycopyName ∈ vsX4_takeFrom := List.mem_cons_of_mem _ (List.mem_append_left _ (List.mem_of_getElem? (i := 5) rfl))
theorem qX4_takeFrom_ac3 : Cond.static arraycopyName ∈ vsX4_takeFrom := List.mem_cons_of_mem _ (List.mem_append_left _ (List.mem_of_getElem? (i := 6) rfl))
theorem qX4_takeFrom_ac4 : Cond.initialized "java/lang/System" ∈ vsX4_takeFrom := List.mem_cons_of_mem _ (List.mem_append_left _ (List.mem_of_getElem? (i := 7) rfl))
theorem qX4_takeFrom_f15 : Cond.fieldLink RX4 15 "SquareTiler$Net" "second" "[I" ∈ vsX4_takeFrom := List.mem_cons_of_mem _ (List.mem_append_left _ (List.mem_of_getElem? (i := 8) rfl))
theorem qX4_takeFrom_f18 : Cond.fieldLink RX4 18 "SquareTiler$Net" "isCut" "[Z" ∈ vsX4_takeFrom := List.mem_cons_of_mem _ (List.mem_append_left _ (List.mem_of_getElem? (i := 9) rfl))
theorem qX4_takeFrom_f22 : Cond.fieldLink RX4 22 "SquareTiler$Net" "wireClaim" "[I" ∈ vsX4_takeFrom := List.mem_cons_of_mem _ (List.mem_append_left _ (List.mem_of_getElem? (i := 10) rfl))
theorem qX4_takeFrom_f25 : Cond.fieldLink RX4 25 "SquareTiler$Net" "knotClaim" "[I" ∈ vsX4_takeFrom := List.mem_cons_of_mem _ (List.mem_append_left _ (List.mem_of_getElem? (i := 11) rfl))
theorem qX4_takeFrom_f28 : Cond.fieldLink RX4 28 "SquareTiler$Net" "turnSize" "[I" ∈ vsX4_takeFrom := List.mem_cons_of_mem _ (List.mem_append_left _ (List.mem_of_getElem? (i := 12) rfl))
theorem qX4_takeFrom_f31 : Cond.fieldLink RX4 31 "SquareTiler$Net" "turns" "[I" ∈ vsX4_takeFrom := List.mem_cons_of_mem _ (List.mem_append_left _ (List.mem_of_getElem? (i := 13) rfl))
theorem qX4_takeFrom_X4 : ∀ w ∈ u_ws RX4 TX4 10, w ∈ vsX4_takeFrom := fun w h => List.mem_cons_of_mem _ (List.mem_append_right _ (List.mem_append_left _ h))
theorem gd_vsX4_takeFrom : ∀ w ∈ vsX4_takeFrom, goodWord w = true := dk_cons rfl (dk_app (dk_all (by decide +kernel)) (dk_app gd_wsX40 dk_nil))
def fX4_takeFrom (N_first N_second N_isCut N_wireClaim N_knotClaim N_turnSize N_turns : Nat → Int32) (N_knots N_wires N_power : Int32) (O_first O_second O_isCut O_wireClaim O_knotClaim O_turnSize O_turns : Nat → Int32) (O_knots O_wires O_power : Int32) : Option ((Nat → Int32) × (Nat → Int32) × (Nat → Int32) × (Nat → Int32) × (Nat → Int32) × (Nat → Int32) × (Nat → Int32) × Int32 × Int32 × Int32) := dk_let (va_cpy O_first N_first (0 : Int32).toNatClampNeg (0 : Int32).toNatClampNeg (22 : Int32).toNatClampNeg) (fun N_first_1 => dk_let (va_cpy O_second N_second (0 : Int32).toNatClampNeg (0 : Int32).toNatClampNeg (22 : Int32).toNatClampNeg) (fun N_second_2 => dk_gd (dk_bos O_isCut 22) (dk_let (va_cpy O_isCut N_isCut (0 : Int32).toNatClampNeg (0 : Int32).toNatClampNeg (22 : Int32).toNatClampNeg) (fun N_isCut_4 => dk_let (va_cpy O_wireClaim N_wireClaim (0 : Int32).toNatClampNeg (0 : Int32).toNatClampNeg (22 : Int32).toNatClampNeg) (fun N_wireClaim_5 => dk_let (va_cpy O_knotClaim N_knotClaim (0 : Int32).toNatClampNeg (0 : Int32).toNatClampNeg (12 : Int32).toNatClampNeg) (fun N_knotClaim_6 => dk_let (va_cpy O_turnSize N_turnSize (0 : Int32).toNatClampNeg (0 : Int32).toNatClampNeg (12 : Int32).toNatClampNeg) (fun N_turnSize_7 => dk_let (va_cpy O_turns N_turns (0 : Int32).toNatClampNeg (0 : Int32).toNatClampNeg (264 : Int32).toNatClampNeg) (fun N_turns_8 => some (N_first_1, N_second_2, N_isCut_4, N_wireClaim_5, N_knotClaim_6, N_turnSize_7, N_turns_8, O_knots, O_wires, O_power)))))))))
section
variable {p : Program} {l : Launch} {e : Env} {s : State} {m : MethodId} {args : Array Value} {below : List Frame} {meth : Method} {c : Code} {dC : Nat → ClassId} {dI : Nat → Nat → Nat} {cI cJ cZ : ClassId} {A : Nat → Prop} {oN : Nat} {aN : Nat → Nat} {oO : Nat} {aO : Nat → Nat} {N_first N_second N_isCut N_wireClaim N_knotClaim N_turnSize N_turns : Nat → Int32} {N_knots N_wires N_power : Int32} {O_first O_second O_isCut O_wireClaim O_knotClaim O_turnSize O_turns : Nat → Int32} {O_knots O_wires O_power : Int32}
end
set_option maxHeartbeats 4000000 in
set_option maxRecDepth 100000 in
theorem mX4_takeFrom (l : Launch) (dC : Nat → ClassId) (dI : Nat → Nat → Nat) (cI cJ cZ : ClassId) {oN : Nat} {aN : Nat → Nat} {oO : Nat} {aO : Nat → Nat} {N_first N_second N_isCut N_wireClaim N_knotClaim N_turnSize N_turns : Nat → Int32} {N_knots N_wires N_power : Int32} {O_first O_second O_isCut O_wireClaim O_knotClaim O_turnSize O_turns : Nat → Int32} {O_knots O_wires O_power : Int32} {out : (Nat → Int32) × (Nat → Int32) × (Nat → Int32) × (Nat → Int32) × (Nat → Int32) × (Nat → Int32) × (Nat → Int32) × Int32 × Int32 × Int32} (h : fX4_takeFrom N_first N_second N_isCut N_wireClaim N_knotClaim N_turnSize N_turns N_knots N_wires N_power O_first O_second O_isCut O_wireClaim O_knotClaim O_turnSize O_turns O_knots O_wires O_power = some out) (sz : Nat) : Met l yX4_takeFrom vsX4_takeFrom rX4_takeFrom (va_Pc [.ref oN, .ref oO] (dk_Pre (dC, dI) (dk_ty cI cJ cZ) (wX4 oN aN cI cJ cZ N_first N_second N_isCut N_wireClaim N_knotClaim N_turnSize N_turns N_knots N_wires N_power ++ (wX4 oO aO cI cJ cZ O_first O_second O_isCut O_wireClaim O_knotClaim O_turnSize O_turns O_knots O_wires O_power)) sz)) (dk_Qv (dC, dI) (dk_ty cI cJ cZ) (wX4 oN aN cI cJ cZ out.1 out.2.1 out.2.2.1 out.2.2.2.1 out.2.2.2.2.1 out.2.2.2.2.2.1 out.2.2.2.2.2.2.1 out.2.2.2.2.2.2.2.1 out.2.2.2.2.2.2.2.2.1 out.2.2.2.2.2.2.2.2.2 ++ (wX4 oO aO cI cJ cZ O_first O_second O_isCut O_wireClaim O_knotClaim O_turnSize O_turns O_knots O_wires O_power)) (va_A (wX4 oN aN cI cJ cZ N_first N_second N_isCut N_wireClaim N_knotClaim N_turnSize N_turns N_knots N_wires N_power ++ (wX4 oO aO cI cJ cZ O_first O_second O_isCut O_wireClaim O_knotClaim O_turnSize O_turns O_knots O_wires O_power)) sz)) 0 0 (va_A (wX4 oN aN cI cJ cZ N_first N_second N_isCut N_wireClaim N_knotClaim N_turnSize N_turns N_knots N_wires N_power ++ (wX4 oO aO cI cJ cZ O_first O_second O_isCut O_wireClaim O_knotClaim O_turnSize O_turns O_knots O_wires O_power)) sz) := by
  refine dk_met (cc := cX4_takeFrom) (maxL := 2) (ret := none) (Qc := fun A => dk_Qv (dC, dI) (dk_ty cI cJ cZ) (wX4 oN aN cI cJ cZ out.1 out.2.1 out.2.2.1 out.2.2.2.1 out.2.2.2.2.1 out.2.2.2.2.2.1 out.2.2.2.2.2.2.1 out.2.2.2.2.2.2.2.1 out.2.2.2.2.2.2.2.2.1 out.2.2.2.2.2.2.2.2.2 ++ (wX4 oO aO cI cJ cZ O_first O_second O_isCut O_wireClaim O_knotClaim O_turnSize O_turns O_knots O_wires O_power)) A) (by decide) rfl (Nat.le_of_ble_eq_true rfl) ?_
  intro p e s m below meth c A C hnm hA hK hP hD hS ls hl
  have C : dk_C p s m meth c _ cX4_takeFrom none 2 RX4 vsX4_takeFrom := C
  obtain ⟨hx, hb, hr, hml, hown, hts, hlocks⟩ := id C
  have hl : lv_has ls 2 [(0, .ref oN), (1, .ref oO)] := hl
  unfold fX4_takeFrom at h
  refine lv_aload_n hx hb dX4_takeFrom_0 rfl (lv_at hl 0 rfl) ?_
  refine lv_aload_n hx hb dX4_takeFrom_1 rfl (lv_at hl 1 rfl) ?_
  refine va_get (D := (dC, dI)) (ci := 4) (v := .int O_knots) (C := RX4) (T := TX4) (N := 10) hx hb hts qX4_takeFrom_X4 hown hK hP 8 rfl rfl 7 (by decide) (hts _ qX4_takeFrom_f34) (fun _ h9 => h9) rfl dX4_takeFrom_2 ?_
  refine va_put (D := (dC, dI)) (ci := 4) (v := .int O_knots) (ty := .int) (C := RX4) (T := TX4) (N := 10) hx hb hts qX4_takeFrom_X4 tyX4 tyX4_ok nmX4 hown hK hP hD hS 0 rfl rfl 7 (by decide) (hts _ qX4_takeFrom_f34) (fun _ h9 => h9) rfl (by decide +kernel) rfl rfl (Nat.le_of_ble_eq_true rfl) dX4_takeFrom_5 (fun H locs hP hD hS => ?_)
  have hP : va_P (dC, dI) vwCl (wX4 oN aN cI cJ cZ N_first N_second N_isCut N_wireClaim N_knotClaim N_turnSize N_turns O_knots N_wires N_power ++ (wX4 oO aO cI cJ cZ O_first O_second O_isCut O_wireClaim O_knotClaim O_turnSize O_turns O_knots O_wires O_power)) H := hP
  have hD : va_D A (wX4 oN aN cI cJ cZ N_first N_second N_isCut N_wireClaim N_knotClaim N_turnSize N_turns O_knots N_wires N_power ++ (wX4 oO aO cI cJ cZ O_first O_second O_isCut O_wireClaim O_knotClaim O_turnSize O_turns O_knots O_wires O_power)) := hD
  refine lv_aload_n hx hb dX4_takeFrom_8 rfl (lv_at hl 0 rfl) ?_
  refine lv_aload_n hx hb dX4_takeFrom_9 rfl (lv_at hl 1 rfl) ?_
  refine va_get (D := (dC, dI)) (ci := 4) (v := .int O_wires) (C := RX4) (T := TX4) (N := 10) hx hb hts qX4_takeFrom_X4 hown hK hP 8 rfl rfl 8 (by decide) (hts _ qX4_takeFrom_f38) (fun _ h9 => h9) rfl dX4_takeFrom_10 ?_
  refine va_put (D := (dC, dI)) (ci := 4) (v := .int O_wires) (ty := .int) (C := RX4) (T := TX4) (N := 10) hx hb hts qX4_takeFrom_X4 tyX4 tyX4_ok nmX4 hown hK hP hD hS 0 rfl rfl 8 (by decide) (hts _ qX4_takeFrom_f38) (fun _ h9 => h9) rfl (by decide +kernel) rfl rfl (Nat.le_of_ble_eq_true rfl) dX4_takeFrom_13 (fun H locs hP hD hS => ?_)
  have hP : va_P (dC, dI) vwCl (wX4 oN aN cI cJ cZ N_first N_second N_isCut N_wireClaim N_knotClaim N_turnSize N_turns O_knots O_wires N_power ++ (wX4 oO aO cI cJ cZ O_first O_second O_isCut O_wireClaim O_knotClaim O_turnSize O_turns O_knots O_wires O_power)) H := hP
  have hD : va_D A (wX4 oN aN cI cJ cZ N_first N_second N_isCut N_wireClaim N_knotClaim N_turnSize N_turns O_knots O_wires N_power ++ (wX4 oO aO cI cJ cZ O_first O_second O_isCut O_wireClaim O_knotClaim O_turnSize O_turns O_knots O_wires O_power)) := hD
  refine lv_aload_n hx hb dX4_takeFrom_16 rfl (lv_at hl 0 rfl) ?_
  refine lv_aload_n hx hb dX4_takeFrom_17 rfl (lv_at hl 1 rfl) ?_
  refine va_get (D := (dC, dI)) (ci := 4) (v := .int O_power) (C := RX4) (T := TX4) (N := 10) hx hb hts qX4_takeFrom_X4 hown hK hP 8 rfl rfl 9 (by decide) (hts _ qX4_takeFrom_f41) (fun _ h9 => h9) rfl dX4_takeFrom_18 ?_
  refine va_put (D := (dC, dI)) (ci := 4) (v := .int O_power) (ty := .int) (C := RX4) (T := TX4) (N := 10) hx hb hts qX4_takeFrom_X4 tyX4 tyX4_ok nmX4 hown hK hP hD hS 0 rfl rfl 9 (by decide) (hts _ qX4_takeFrom_f41) (fun _ h9 => h9) rfl (by decide +kernel) rfl rfl (Nat.le_of_ble_eq_true rfl) dX4_takeFrom_21 (fun H locs hP hD hS => ?_)
  have hP : va_P (dC, dI) vwCl (wX4 oN aN cI cJ cZ N_first N_second N_isCut N_wireClaim N_knotClaim N_turnSize N_turns O_knots O_wires O_power ++ (wX4 oO aO cI cJ cZ O_first O_second O_isCut O_wireClaim O_knotClaim O_turnSize O_turns O_knots O_wires O_power)) H := hP
  have hD : va_D A (wX4 oN aN cI cJ cZ N_first N_second N_isCut N_wireClaim N_knotClaim N_turnSize N_turns O_knots O_wires O_power ++ (wX4 oO aO cI cJ cZ O_first O_second O_isCut O_wireClaim O_knotClaim O_turnSize O_turns O_knots O_wires O_power)) := hD
  refine lv_aload_n hx hb dX4_takeFrom_24 rfl (lv_at hl 1 rfl) ?_
  refine va_get (D := (dC, dI)) (ci := 4) (v := .ref (aO 0)) (C := RX4) (T := TX4) (N := 10) hx hb hts qX4_takeFrom_X4 hown hK hP 8 rfl rfl 0 (by decide) (hts _ qX4_takeFrom_f9) (fun _ h9 => h9) rfl dX4_takeFrom_25 ?_
  refine lv_iconst (v := 0) hx hb dX4_takeFrom_28 (by decide) ?_
  refine lv_aload_n hx hb dX4_takeFrom_29 rfl (lv_at hl 0 rfl) ?_
  refine va_get (D := (dC, dI)) (ci := 4) (v := .ref (aN 0)) (C := RX4) (T := TX4) (N := 10) hx hb hts qX4_takeFrom_X4 hown hK hP 0 rfl rfl 0 (by decide) (hts _ qX4_takeFrom_f9) (fun _ h9 => h9) rfl dX4_takeFrom_30 ?_
  refine lv_iconst (v := 0) hx hb dX4_takeFrom_33 (by decide) ?_
  refine lv_bipush (v := 22) hx hb dX4_takeFrom_34 (by decide) ?_
  refine va_copyi hx hb (hml.trans hl.1.symm) hown (hts _ qX4_takeFrom_ac1) (hts _ qX4_takeFrom_ac2) (hts _ qX4_takeFrom_ac3) (hts _ qX4_takeFrom_ac4) hK hP hD hS 9 1 0 0 rfl rfl rfl rfl rfl (by decide) (by decide) (by decide) (by decide +kernel) (by decide +kernel) (fun _ _ => rfl) (Nat.le_of_ble_eq_true rfl) (Nat.le_of_ble_eq_true rfl) dX4_takeFrom_36 (fun H locs hP hD hS => ?_)
  obtain ⟨N_first_1, eN_first_1⟩ : ∃ z : Nat → Int32, z = va_cpy O_first N_first (0 : Int32).toNatClampNeg (0 : Int32).toNatClampNeg (22 : Int32).toNatClampNeg := ⟨_, rfl⟩
  replace h := dk_let_to eN_first_1 h
  have hP : va_P (dC, dI) vwCl (wX4 oN aN cI cJ cZ N_first_1 N_second N_isCut N_wireClaim N_knotClaim N_turnSize N_turns O_knots O_wires O_power ++ (wX4 oO aO cI cJ cZ O_first O_second O_isCut O_wireClaim O_knotClaim O_turnSize O_turns O_knots O_wires O_power)) H := by rw [eN_first_1]; exact hP
  have hD : va_D A (wX4 oN aN cI cJ cZ N_first_1 N_second N_isCut N_wireClaim N_knotClaim N_turnSize N_turns O_knots O_wires O_power ++ (wX4 oO aO cI cJ cZ O_first O_second O_isCut O_wireClaim O_knotClaim O_turnSize O_turns O_knots O_wires O_power)) := by rw [eN_first_1]; exact hD
  refine lv_aload_n hx hb dX4_takeFrom_39 rfl (lv_at hl 1 rfl) ?_
  refine va_get (D := (dC, dI)) (ci := 4) (v := .ref (aO 1)) (C := RX4) (T := TX4) (N := 10) hx hb hts qX4_takeFrom_X4 hown hK hP 8 rfl rfl 1 (by decide) (hts _ qX4_takeFrom_f15) (fun _ h9 => h9) rfl dX4_takeFrom_40 ?_
  refine lv_iconst (v := 0) hx hb dX4_takeFrom_43 (by decide) ?_
  refine lv_aload_n hx hb dX4_takeFrom_44 rfl (lv_at hl 0 rfl) ?_
  refine va_get (D := (dC, dI)) (ci := 4) (v := .ref (aN 1)) (C := RX4) (T := TX4) (N := 10) hx hb hts qX4_takeFrom_X4 hown hK hP 0 rfl rfl 1 (by decide) (hts _ qX4_takeFrom_f15) (fun _ h9 => h9) rfl dX4_takeFrom_45 ?_
  refine lv_iconst (v := 0) hx hb dX4_takeFrom_48 (by decide) ?_
  refine lv_bipush (v := 22) hx hb dX4_takeFrom_49 (by decide) ?_
  refine va_copyi hx hb (hml.trans hl.1.symm) hown (hts _ qX4_takeFrom_ac1) (hts _ qX4_takeFrom_ac2) (hts _ qX4_takeFrom_ac3) (hts _ qX4_takeFrom_ac4) hK hP hD hS 10 2 0 0 rfl rfl rfl rfl rfl (by decide) (by decide) (by decide) (by decide +kernel) (by decide +kernel) (fun _ _ => rfl) (Nat.le_of_ble_eq_true rfl) (Nat.le_of_ble_eq_true rfl) dX4_takeFrom_51 (fun H locs hP hD hS => ?_)
  obtain ⟨N_second_2, eN_second_2⟩ : ∃ z : Nat → Int32, z = va_cpy O_second N_second (0 : Int32).toNatClampNeg (0 : Int32).toNatClampNeg (22 : Int32).toNatClampNeg := ⟨_, rfl⟩
  replace h := dk_let_to eN_second_2 h
  have hP : va_P (dC, dI) vwCl (wX4 oN aN cI cJ cZ N_first_1 N_second_2 N_isCut N_wireClaim N_knotClaim N_turnSize N_turns O_knots O_wires O_power ++ (wX4 oO aO cI cJ cZ O_first O_second O_isCut O_wireClaim O_knotClaim O_turnSize O_turns O_knots O_wires O_power)) H := by rw [eN_second_2]; exact hP
  have hD : va_D A (wX4 oN aN cI cJ cZ N_first_1 N_second_2 N_isCut N_wireClaim N_knotClaim N_turnSize N_turns O_knots O_wires O_power ++ (wX4 oO aO cI cJ cZ O_first O_second O_isCut O_wireClaim O_knotClaim O_turnSize O_turns O_knots O_wires O_power)) := by rw [eN_second_2]; exact hD
  refine lv_aload_n hx hb dX4_takeFrom_54 rfl (lv_at hl 1 rfl) ?_
  refine va_get (D := (dC, dI)) (ci := 4) (v := .ref (aO 2)) (C := RX4) (T := TX4) (N := 10) hx hb hts qX4_takeFrom_X4 hown hK hP 8 rfl rfl 2 (by decide) (hts _ qX4_takeFrom_f18) (fun _ h9 => h9) rfl dX4_takeFrom_55 ?_
  refine lv_iconst (v := 0) hx hb dX4_takeFrom_58 (by decide) ?_
  refine lv_aload_n hx hb dX4_takeFrom_59 rfl (lv_at hl 0 rfl) ?_
  refine va_get (D := (dC, dI)) (ci := 4) (v := .ref (aN 2)) (C := RX4) (T := TX4) (N := 10) hx hb hts qX4_takeFrom_X4 hown hK hP 0 rfl rfl 2 (by decide) (hts _ qX4_takeFrom_f18) (fun _ h9 => h9) rfl dX4_takeFrom_60 ?_
  refine lv_iconst (v := 0) hx hb dX4_takeFrom_63 (by decide) ?_
  refine lv_bipush (v := 22) hx hb dX4_takeFrom_64 (by decide) ?_
  obtain ⟨g_3, h⟩ := dk_gd_to h
  have g_3 := dk_bos_to g_3
  refine va_copyi hx hb (hml.trans hl.1.symm) hown (hts _ qX4_takeFrom_ac1) (hts _ qX4_takeFrom_ac2) (hts _ qX4_takeFrom_ac3) (hts _ qX4_takeFrom_ac4) hK hP hD hS 11 3 2 2 rfl rfl rfl rfl rfl (by decide) (by decide) (by decide) (by decide +kernel) (by decide +kernel) (fun i hi => dk_fit0 g_3 i hi) (Nat.le_of_ble_eq_true rfl) (Nat.le_of_ble_eq_true rfl) dX4_takeFrom_66 (fun H locs hP hD hS => ?_)
  obtain ⟨N_isCut_4, eN_isCut_4⟩ : ∃ z : Nat → Int32, z = va_cpy O_isCut N_isCut (0 : Int32).toNatClampNeg (0 : Int32).toNatClampNeg (22 : Int32).toNatClampNeg := ⟨_, rfl⟩
  replace h := dk_let_to eN_isCut_4 h
  have hP : va_P (dC, dI) vwCl (wX4 oN aN cI cJ cZ N_first_1 N_second_2 N_isCut_4 N_wireClaim N_knotClaim N_turnSize N_turns O_knots O_wires O_power ++ (wX4 oO aO cI cJ cZ O_first O_second O_isCut O_wireClaim O_knotClaim O_turnSize O_turns O_knots O_wires O_power)) H := by rw [eN_isCut_4]; exact hP
  have hD : va_D A (wX4 oN aN cI cJ cZ N_first_1 N_second_2 N_isCut_4 N_wireClaim N_knotClaim N_turnSize N_turns O_knots O_wires O_power ++ (wX4 oO aO cI cJ cZ O_first O_second O_isCut O_wireClaim O_knotClaim O_turnSize O_turns O_knots O_wires O_power)) := by rw [eN_isCut_4]; exact hD
  refine lv_aload_n hx hb dX4_takeFrom_69 rfl (lv_at hl 1 rfl) ?_
  refine va_get (D := (dC, dI)) (ci := 4) (v := .ref (aO 3)) (C := RX4) (T := TX4) (N := 10) hx hb hts qX4_takeFrom_X4 hown hK hP 8 rfl rfl 3 (by decide) (hts _ qX4_takeFrom_f22) (fun _ h9 => h9) rfl dX4_takeFrom_70 ?_
  refine lv_iconst (v := 0) hx hb dX4_takeFrom_73 (by decide) ?_
  refine lv_aload_n hx hb dX4_takeFrom_74 rfl (lv_at hl 0 rfl) ?_
  refine va_get (D := (dC, dI)) (ci := 4) (v := .ref (aN 3)) (C := RX4) (T := TX4) (N := 10) hx hb hts qX4_takeFrom_X4 hown hK hP 0 rfl rfl 3 (by decide) (hts _ qX4_takeFrom_f22) (fun _ h9 => h9) rfl dX4_takeFrom_75 ?_
  refine lv_iconst (v := 0) hx hb dX4_takeFrom_78 (by decide) ?_
  refine lv_bipush (v := 22) hx hb dX4_takeFrom_79 (by decide) ?_
  refine va_copyi hx hb (hml.trans hl.1.symm) hown (hts _ qX4_takeFrom_ac1) (hts _ qX4_takeFrom_ac2) (hts _ qX4_takeFrom_ac3) (hts _ qX4_takeFrom_ac4) hK hP hD hS 12 4 0 0 rfl rfl rfl rfl rfl (by decide) (by decide) (by decide) (by decide +kernel) (by decide +kernel) (fun _ _ => rfl) (Nat.le_of_ble_eq_true rfl) (Nat.le_of_ble_eq_true rfl) dX4_takeFrom_81 (fun H locs hP hD hS => ?_)
  obtain ⟨N_wireClaim_5, eN_wireClaim_5⟩ : ∃ z : Nat → Int32, z = va_cpy O_wireClaim N_wireClaim (0 : Int32).toNatClampNeg (0 : Int32).toNatClampNeg (22 : Int32).toNatClampNeg := ⟨_, rfl⟩
  replace h := dk_let_to eN_wireClaim_5 h
  have hP : va_P (dC, dI) vwCl (wX4 oN aN cI cJ cZ N_first_1 N_second_2 N_isCut_4 N_wireClaim_5 N_knotClaim N_turnSize N_turns O_knots O_wires O_power ++ (wX4 oO aO cI cJ cZ O_first O_second O_isCut O_wireClaim O_knotClaim O_turnSize O_turns O_knots O_wires O_power)) H := by rw [eN_wireClaim_5]; exact hP
  have hD : va_D A (wX4 oN aN cI cJ cZ N_first_1 N_second_2 N_isCut_4 N_wireClaim_5 N_knotClaim N_turnSize N_turns O_knots O_wires O_power ++ (wX4 oO aO cI cJ cZ O_first O_second O_isCut O_wireClaim O_knotClaim O_turnSize O_turns O_knots O_wires O_power)) := by rw [eN_wireClaim_5]; exact hD
  refine lv_aload_n hx hb dX4_takeFrom_84 rfl (lv_at hl 1 rfl) ?_
  refine va_get (D := (dC, dI)) (ci := 4) (v := .ref (aO 4)) (C := RX4) (T := TX4) (N := 10) hx hb hts qX4_takeFrom_X4 hown hK hP 8 rfl rfl 4 (by decide) (hts _ qX4_takeFrom_f25) (fun _ h9 => h9) rfl dX4_takeFrom_85 ?_
  refine lv_iconst (v := 0) hx hb dX4_takeFrom_88 (by decide) ?_
  refine lv_aload_n hx hb dX4_takeFrom_89 rfl (lv_at hl 0 rfl) ?_
  refine va_get (D := (dC, dI)) (ci := 4) (v := .ref (aN 4)) (C := RX4) (T := TX4) (N := 10) hx hb hts qX4_takeFrom_X4 hown hK hP 0 rfl rfl 4 (by decide) (hts _ qX4_takeFrom_f25) (fun _ h9 => h9) rfl dX4_takeFrom_90 ?_
  refine lv_iconst (v := 0) hx hb dX4_takeFrom_93 (by decide) ?_
  refine lv_bipush (v := 12) hx hb dX4_takeFrom_94 (by decide) ?_
  refine va_copyi hx hb (hml.trans hl.1.symm) hown (hts _ qX4_takeFrom_ac1) (hts _ qX4_takeFrom_ac2) (hts _ qX4_takeFrom_ac3) (hts _ qX4_takeFrom_ac4) hK hP hD hS 13 5 0 0 rfl rfl rfl rfl rfl (by decide) (by decide) (by decide) (by decide +kernel) (by decide +kernel) (fun _ _ => rfl) (Nat.le_of_ble_eq_true rfl) (Nat.le_of_ble_eq_true rfl) dX4_takeFrom_96 (fun H locs hP hD hS => ?_)
  obtain ⟨N_knotClaim_6, eN_knotClaim_6⟩ : ∃ z : Nat → Int32, z = va_cpy O_knotClaim N_knotClaim (0 : Int32).toNatClampNeg (0 : Int32).toNatClampNeg (12 : Int32).toNatClampNeg := ⟨_, rfl⟩
  replace h := dk_let_to eN_knotClaim_6 h
  have hP : va_P (dC, dI) vwCl (wX4 oN aN cI cJ cZ N_first_1 N_second_2 N_isCut_4 N_wireClaim_5 N_knotClaim_6 N_turnSize N_turns O_knots O_wires O_power ++ (wX4 oO aO cI cJ cZ O_first O_second O_isCut O_wireClaim O_knotClaim O_turnSize O_turns O_knots O_wires O_power)) H := by rw [eN_knotClaim_6]; exact hP
  have hD : va_D A (wX4 oN aN cI cJ cZ N_first_1 N_second_2 N_isCut_4 N_wireClaim_5 N_knotClaim_6 N_turnSize N_turns O_knots O_wires O_power ++ (wX4 oO aO cI cJ cZ O_first O_second O_isCut O_wireClaim O_knotClaim O_turnSize O_turns O_knots O_wires O_power)) := by rw [eN_knotClaim_6]; exact hD
  refine lv_aload_n hx hb dX4_takeFrom_99 rfl (lv_at hl 1 rfl) ?_
  refine va_get (D := (dC, dI)) (ci := 4) (v := .ref (aO 5)) (C := RX4) (T := TX4) (N := 10) hx hb hts qX4_takeFrom_X4 hown hK hP 8 rfl rfl 5 (by decide) (hts _ qX4_takeFrom_f28) (fun _ h9 => h9) rfl dX4_takeFrom_100 ?_
  refine lv_iconst (v := 0) hx hb dX4_takeFrom_103 (by decide) ?_
  refine lv_aload_n hx hb dX4_takeFrom_104 rfl (lv_at hl 0 rfl) ?_
  refine va_get (D := (dC, dI)) (ci := 4) (v := .ref (aN 5)) (C := RX4) (T := TX4) (N := 10) hx hb hts qX4_takeFrom_X4 hown hK hP 0 rfl rfl 5 (by decide) (hts _ qX4_takeFrom_f28) (fun _ h9 => h9) rfl dX4_takeFrom_105 ?_
  refine lv_iconst (v := 0) hx hb dX4_takeFrom_108 (by decide) ?_
  refine lv_bipush (v := 12) hx hb dX4_takeFrom_109 (by decide) ?_
  refine va_copyi hx hb (hml.trans hl.1.symm) hown (hts _ qX4_takeFrom_ac1) (hts _ qX4_takeFrom_ac2) (hts _ qX4_takeFrom_ac3) (hts _ qX4_takeFrom_ac4) hK hP hD hS 14 6 0 0 rfl rfl rfl rfl rfl (by decide) (by decide) (by decide) (by decide +kernel) (by decide +kernel) (fun _ _ => rfl) (Nat.le_of_ble_eq_true rfl) (Nat.le_of_ble_eq_true rfl) dX4_takeFrom_111 (fun H locs hP hD hS => ?_)
  obtain ⟨N_turnSize_7, eN_turnSize_7⟩ : ∃ z : Nat → Int32, z = va_cpy O_turnSize N_turnSize (0 : Int32).toNatClampNeg (0 : Int32).toNatClampNeg (12 : Int32).toNatClampNeg := ⟨_, rfl⟩
  replace h := dk_let_to eN_turnSize_7 h
  have hP : va_P (dC, dI) vwCl (wX4 oN aN cI cJ cZ N_first_1 N_second_2 N_isCut_4 N_wireClaim_5 N_knotClaim_6 N_turnSize_7 N_turns O_knots O_wires O_power ++ (wX4 oO aO cI cJ cZ O_first O_second O_isCut O_wireClaim O_knotClaim O_turnSize O_turns O_knots O_wires O_power)) H := by rw [eN_turnSize_7]; exact hP
  have hD : va_D A (wX4 oN aN cI cJ cZ N_first_1 N_second_2 N_isCut_4 N_wireClaim_5 N_knotClaim_6 N_turnSize_7 N_turns O_knots O_wires O_power ++ (wX4 oO aO cI cJ cZ O_first O_second O_isCut O_wireClaim O_knotClaim O_turnSize O_turns O_knots O_wires O_power)) := by rw [eN_turnSize_7]; exact hD
  refine lv_aload_n hx hb dX4_takeFrom_114 rfl (lv_at hl 1 rfl) ?_
  refine va_get (D := (dC, dI)) (ci := 4) (v := .ref (aO 6)) (C := RX4) (T := TX4) (N := 10) hx hb hts qX4_takeFrom_X4 hown hK hP 8 rfl rfl 6 (by decide) (hts _ qX4_takeFrom_f31) (fun _ h9 => h9) rfl dX4_takeFrom_115 ?_
  refine lv_iconst (v := 0) hx hb dX4_takeFrom_118 (by decide) ?_
  refine lv_aload_n hx hb dX4_takeFrom_119 rfl (lv_at hl 0 rfl) ?_
  refine va_get (D := (dC, dI)) (ci := 4) (v := .ref (aN 6)) (C := RX4) (T := TX4) (N := 10) hx hb hts qX4_takeFrom_X4 hown hK hP 0 rfl rfl 6 (by decide) (hts _ qX4_takeFrom_f31) (fun _ h9 => h9) rfl dX4_takeFrom_120 ?_
  refine lv_iconst (v := 0) hx hb dX4_takeFrom_123 (by decide) ?_
  refine lv_sipush (v := 264) hx hb dX4_takeFrom_124 (by decide) ?_
  refine va_copyi hx hb (hml.trans hl.1.symm) hown (hts _ qX4_takeFrom_ac1) (hts _ qX4_takeFrom_ac2) (hts _ qX4_takeFrom_ac3) (hts _ qX4_takeFrom_ac4) hK hP hD hS 15 7 0 0 rfl rfl rfl rfl rfl (by decide) (by decide) (by decide) (by decide +kernel) (by decide +kernel) (fun _ _ => rfl) (Nat.le_of_ble_eq_true rfl) (Nat.le_of_ble_eq_true rfl) dX4_takeFrom_127 (fun H locs hP hD hS => ?_)
  obtain ⟨N_turns_8, eN_turns_8⟩ : ∃ z : Nat → Int32, z = va_cpy O_turns N_turns (0 : Int32).toNatClampNeg (0 : Int32).toNatClampNeg (264 : Int32).toNatClampNeg := ⟨_, rfl⟩
  replace h := dk_let_to eN_turns_8 h
  have hP : va_P (dC, dI) vwCl (wX4 oN aN cI cJ cZ N_first_1 N_second_2 N_isCut_4 N_wireClaim_5 N_knotClaim_6 N_turnSize_7 N_turns_8 O_knots O_wires O_power ++ (wX4 oO aO cI cJ cZ O_first O_second O_isCut O_wireClaim O_knotClaim O_turnSize O_turns O_knots O_wires O_power)) H := by rw [eN_turns_8]; exact hP
  have hD : va_D A (wX4 oN aN cI cJ cZ N_first_1 N_second_2 N_isCut_4 N_wireClaim_5 N_knotClaim_6 N_turnSize_7 N_turns_8 O_knots O_wires O_power ++ (wX4 oO aO cI cJ cZ O_first O_second O_isCut O_wireClaim O_knotClaim O_turnSize O_turns O_knots O_wires O_power)) := by rw [eN_turns_8]; exact hD
  have e9 := Option.some.inj h
  subst e9
  exact dk_vret C hK hP hD hS dX4_takeFrom_130
/-! ===== SquareTiler$Net.isKnot ===== -/
abbrev rX4_isKnot : Room := { frames := 0, cells := 0, slots := 0, locals := 0 }
def ovX4_isKnot : List Cond := [Cond.fieldLink RX4 34 "SquareTiler$Net" "knots" "I"]
def vsX4_isKnot : List Cond := .code yX4_isKnot cX4_isKnot 2 (some .boolean) :: (ovX4_isKnot ++ (wsX40 ++ []))
theorem qX4_isKnot_f34 : Cond.fieldLink RX4 34 "SquareTiler$Net" "knots" "I" ∈ vsX4_isKnot := List.mem_cons_of_mem _ (List.mem_append_left _ (List.mem_of_getElem? (i := 0) rfl))
theorem qX4_isKnot_X4 : ∀ w ∈ u_ws RX4 TX4 10, w ∈ vsX4_isKnot := fun w h => List.mem_cons_of_mem _ (List.mem_append_right _ (List.mem_append_left _ h))
theorem gd_vsX4_isKnot : ∀ w ∈ vsX4_isKnot, goodWord w = true := dk_cons rfl (dk_app (dk_all (by decide +kernel)) (dk_app gd_wsX40 dk_nil))
def fX4_isKnot (N_knots x1 : Int32) : Option (Int32) := if x1 < 0 then some 0 else if N_knots ≤ x1 then some 0 else some 1
section
variable {p : Program} {l : Launch} {e : Env} {s : State} {m : MethodId} {args : Array Value} {below : List Frame} {meth : Method} {c : Code} {dC : Nat → ClassId} {dI : Nat → Nat → Nat} {cI cJ cZ : ClassId} {A : Nat → Prop} {oN : Nat} {aN : Nat → Nat} {N_first N_second N_isCut N_wireClaim N_knotClaim N_turnSize N_turns : Nat → Int32} {N_knots N_wires N_power : Int32}
end
set_option maxHeartbeats 4000000 in
set_option maxRecDepth 100000 in
theorem mX4_isKnot (l : Launch) (dC : Nat → ClassId) (dI : Nat → Nat → Nat) (cI cJ cZ : ClassId) {oN : Nat} {aN : Nat → Nat} {N_first N_second N_isCut N_wireClaim N_knotClaim N_turnSize N_turns : Nat → Int32} {N_knots N_wires N_power : Int32} {x1 : Int32} {out : Int32} (h : fX4_isKnot N_knots x1 = some out) (sz : Nat) : Met l yX4_isKnot vsX4_isKnot rX4_isKnot (va_Pc [.ref oN, .int x1] (dk_Pre (dC, dI) (dk_ty cI cJ cZ) (wX4 oN aN cI cJ cZ N_first N_second N_isCut N_wireClaim N_knotClaim N_turnSize N_turns N_knots N_wires N_power) sz)) (dk_Qi (dC, dI) (dk_ty cI cJ cZ) (wX4 oN aN cI cJ cZ N_first N_second N_isCut N_wireClaim N_knotClaim N_turnSize N_turns N_knots N_wires N_power) out (va_A (wX4 oN aN cI cJ cZ N_first N_second N_isCut N_wireClaim N_knotClaim N_turnSize N_turns N_knots N_wires N_power) sz)) 0 0 (va_A (wX4 oN aN cI cJ cZ N_first N_second N_isCut N_wireClaim N_knotClaim N_turnSize N_turns N_knots N_wires N_power) sz) := by
  refine dk_met (cc := cX4_isKnot) (maxL := 2) (ret := (some .boolean)) (Qc := fun A => dk_Qi (dC, dI) (dk_ty cI cJ cZ) (wX4 oN aN cI cJ cZ N_first N_second N_isCut N_wireClaim N_knotClaim N_turnSize N_turns N_knots N_wires N_power) out A) (by decide) rfl (Nat.le_of_ble_eq_true rfl) ?_
  intro p e s m below meth c A C hnm hA hK hP hD hS ls hl
  have C : dk_C p s m meth c _ cX4_isKnot (some .boolean) 2 RX4 vsX4_isKnot := C
  obtain ⟨hx, hb, hr, hml, hown, hts, hlocks⟩ := id C
  have hl : lv_has ls 2 [(0, .ref oN), (1, .int x1)] := hl
  unfold fX4_isKnot at h
  refine lv_iload_n hx hb dX4_isKnot_0 rfl (lv_at hl 1 rfl) ?_
  refine lv_if_lt (tgt := 16) hx hb dX4_isKnot_1 (by decide) (fun c_1 => ?_) (fun c_1 => ?_)
  · replace h := dk_it c_1 h
    refine lv_iconst (v := 0) hx hb dX4_isKnot_16 (by decide) ?_
    have e9 := Option.some.inj h
    subst e9
    exact dk_zret C hK hP hD hS (by decide +kernel) rfl dX4_isKnot_17
  · replace h := dk_ie c_1 h
    refine lv_iload_n hx hb dX4_isKnot_4 rfl (lv_at hl 1 rfl) ?_
    refine lv_aload_n hx hb dX4_isKnot_5 rfl (lv_at hl 0 rfl) ?_
    refine va_get (D := (dC, dI)) (ci := 4) (v := .int N_knots) (C := RX4) (T := TX4) (N := 10) hx hb hts qX4_isKnot_X4 hown hK hP 0 rfl rfl 7 (by decide) (hts _ qX4_isKnot_f34) (fun _ h9 => h9) rfl dX4_isKnot_6 ?_
    refine lv_icmp_ge (tgt := 16) hx hb dX4_isKnot_9 (by decide) (fun c_2 => ?_) (fun c_2 => ?_)
    · replace h := dk_it c_2 h
      refine lv_iconst (v := 0) hx hb dX4_isKnot_16 (by decide) ?_
      have e9 := Option.some.inj h
      subst e9
      exact dk_zret C hK hP hD hS (by decide +kernel) rfl dX4_isKnot_17
    · replace h := dk_ie c_2 h
      refine lv_iconst (v := 1) hx hb dX4_isKnot_12 (by decide) ?_
      refine lv_goto (tgt := 17) hx hb dX4_isKnot_13 (by decide) ?_
      have e9 := Option.some.inj h
      subst e9
      exact dk_zret C hK hP hD hS (by decide +kernel) rfl dX4_isKnot_17
/-! ===== SquareTiler$Net.reverseTurn ===== -/
abbrev rX4_reverseTurn : Room := { frames := 0, cells := 0, slots := 0, locals := 0 }
def ovX4_reverseTurn : List Cond := [Cond.fieldLink RX4 28 "SquareTiler$Net" "turnSize" "[I", Cond.fieldLink RX4 31 "SquareTiler$Net" "turns" "[I"]
def vsX4_reverseTurn : List Cond := .code yX4_reverseTurn cX4_reverseTurn 5 none :: (ovX4_reverseTurn ++ (wsX40 ++ []))
theorem qX4_reverseTurn_f28 : Cond.fieldLink RX4 28 "SquareTiler$Net" "turnSize" "[I" ∈ vsX4_reverseTurn := List.mem_cons_of_mem _ (List.mem_append_left _ (List.mem_of_getElem? (i := 0) rfl))
theorem qX4_reverseTurn_f31 : Cond.fieldLink RX4 31 "SquareTiler$Net" "turns" "[I" ∈ vsX4_reverseTurn := List.mem_cons_of_mem _ (List.mem_append_left _ (List.mem_of_getElem? (i := 1) rfl))
theorem qX4_reverseTurn_X4 : ∀ w ∈ u_ws RX4 TX4 10, w ∈ vsX4_reverseTurn := fun w h => List.mem_cons_of_mem _ (List.mem_append_right _ (List.mem_append_left _ h))
theorem gd_vsX4_reverseTurn : ∀ w ∈ vsX4_reverseTurn, goodWord w = true := dk_cons rfl (dk_app (dk_all (by decide +kernel)) (dk_app gd_wsX40 dk_nil))
def bX4_reverseTurn_16 (N_turnSize : Nat → Int32) (st : Int32 × Int32 × (Nat → Int32)) : Option (((Nat → Int32)) ⊕ (Int32 × Int32 × (Nat → Int32))) := if st.2.1 ≤ st.1 then some (.inl st.2.2) else dk_gd (dk_in st.1 264) (dk_let ((st.2.2 st.1.toNatClampNeg)) (fun x4_7 => dk_gd (dk_in st.2.1 264) (dk_let (upd st.2.2 st.1.toNatClampNeg (st.2.2 st.2.1.toNatClampNeg)) (fun N_turns_9 => dk_let (upd N_turns_9 st.2.1.toNatClampNeg x4_7) (fun N_turns_10 => dk_let (st.1 + 1) (fun x2_11 => dk_let (st.2.1 + (-1)) (fun x3_12 => some (.inr (x2_11, x3_12, N_turns_10)))))))))
def fX4_reverseTurn (N_turnSize N_turns : Nat → Int32) (x1 : Int32) : Option ((Nat → Int32)) := dk_let ((x1 * 22)) (fun x2_1 => dk_gd (dk_in x1 12) (dk_let (((x2_1 + (N_turnSize x1.toNatClampNeg)) - 1)) (fun x3_3 => dk_bnd (dk_loop (bX4_reverseTurn_16 N_turnSize) 1000 (x2_1, x3_3, N_turns)) (fun r_4 => some r_4))))
section
variable {p : Program} {l : Launch} {e : Env} {s : State} {m : MethodId} {args : Array Value} {below : List Frame} {meth : Method} {c : Code} {dC : Nat → ClassId} {dI : Nat → Nat → Nat} {cI cJ cZ : ClassId} {A : Nat → Prop} {oN : Nat} {aN : Nat → Nat} {N_first N_second N_isCut N_wireClaim N_knotClaim N_turnSize N_turns : Nat → Int32} {N_knots N_wires N_power : Int32}
set_option maxHeartbeats 4000000 in
set_option maxRecDepth 100000 in
theorem tX4_reverseTurn_16 (C : dk_C p s m meth c args cX4_reverseTurn none 5 RX4 vsX4_reverseTurn) (hK : va_K (dC, dI) vwCl (dk_ty cI cJ cZ) s) (hA : ∀ q : Nat, s.heap.size ≤ q → A q) {out : (Nat → Int32)} {st : Int32 × Int32 × (Nat → Int32)} {y : ((Nat → Int32)) ⊕ (Int32 × Int32 × (Nat → Int32))} (h : bX4_reverseTurn_16 N_turnSize st = some y) (hE : ∀ z : (Nat → Int32), y = .inl z → ∀ (H : Heap) (locs : List Loc), va_P (dC, dI) vwCl (wX4 oN aN cI cJ cZ N_first N_second N_isCut N_wireClaim N_knotClaim N_turnSize z N_knots N_wires N_power) H → va_D A (wX4 oN aN cI cJ cZ N_first N_second N_isCut N_wireClaim N_knotClaim N_turnSize z N_knots N_wires N_power) → va_S A s.heap H locs → ∀ ls : Array Slot, lv_has ls 5 [(0, .ref oN)] → W p l e rX4_reverseTurn s m args below meth c H locs 0 0 (MQ below (dk_Qv (dC, dI) (dk_ty cI cJ cZ) (wX4 oN aN cI cJ cZ N_first N_second N_isCut N_wireClaim N_knotClaim N_turnSize out N_knots N_wires N_power) A) args s 0 0 A) (F0 m 58 ls [])) (hC : ∀ z : Int32 × Int32 × (Nat → Int32), y = .inr z → ∀ (H : Heap) (locs : List Loc), va_P (dC, dI) vwCl (wX4 oN aN cI cJ cZ N_first N_second N_isCut N_wireClaim N_knotClaim N_turnSize z.2.2 N_knots N_wires N_power) H → va_D A (wX4 oN aN cI cJ cZ N_first N_second N_isCut N_wireClaim N_knotClaim N_turnSize z.2.2 N_knots N_wires N_power) → va_S A s.heap H locs → ∀ ls : Array Slot, lv_has ls 5 [(0, .ref oN), (2, .int z.1), (3, .int z.2.1)] → W p l e rX4_reverseTurn s m args below meth c H locs 0 0 (MQ below (dk_Qv (dC, dI) (dk_ty cI cJ cZ) (wX4 oN aN cI cJ cZ N_first N_second N_isCut N_wireClaim N_knotClaim N_turnSize out N_knots N_wires N_power) A) args s 0 0 A) (F0 m 16 ls [])) : ∀ (H : Heap) (locs : List Loc), va_P (dC, dI) vwCl (wX4 oN aN cI cJ cZ N_first N_second N_isCut N_wireClaim N_knotClaim N_turnSize st.2.2 N_knots N_wires N_power) H → va_D A (wX4 oN aN cI cJ cZ N_first N_second N_isCut N_wireClaim N_knotClaim N_turnSize st.2.2 N_knots N_wires N_power) → va_S A s.heap H locs → ∀ ls : Array Slot, lv_has ls 5 [(0, .ref oN), (2, .int st.1), (3, .int st.2.1)] → W p l e rX4_reverseTurn s m args below meth c H locs 0 0 (MQ below (dk_Qv (dC, dI) (dk_ty cI cJ cZ) (wX4 oN aN cI cJ cZ N_first N_second N_isCut N_wireClaim N_knotClaim N_turnSize out N_knots N_wires N_power) A) args s 0 0 A) (F0 m 16 ls []) := by
  obtain ⟨hx, hb, hr, hml, hown, hts, hlocks⟩ := id C
  intro H locs hP hD hS ls hl
  unfold bX4_reverseTurn_16 at h
  refine lv_iload_n hx hb dX4_reverseTurn_16 rfl (lv_at hl 1 rfl) ?_
  refine lv_iload_n hx hb dX4_reverseTurn_17 rfl (lv_at hl 2 rfl) ?_
  refine lv_icmp_ge (tgt := 58) hx hb dX4_reverseTurn_18 (by decide) (fun c_5 => ?_) (fun c_5 => ?_)
  · replace h := dk_it c_5 h
    exact hE _ (Option.some.inj h).symm _ _ hP hD hS ls (lv_sub hl [0] rfl)
  · replace h := dk_ie c_5 h
    refine lv_aload_n hx hb dX4_reverseTurn_21 rfl (lv_at hl 0 rfl) ?_
    refine va_get (D := (dC, dI)) (ci := 4) (v := .ref (aN 6)) (C := RX4) (T := TX4) (N := 10) hx hb hts qX4_reverseTurn_X4 hown hK hP 0 rfl rfl 6 (by decide) (hts _ qX4_reverseTurn_f31) (fun _ h9 => h9) rfl dX4_reverseTurn_22 ?_
    refine lv_iload_n hx hb dX4_reverseTurn_25 rfl (lv_at hl 1 rfl) ?_
    obtain ⟨g_6, h⟩ := dk_gd_to h
    have g_6 := dk_in_to g_6
    refine va_iald hx hb hK hP 7 0 rfl rfl g_6 dX4_reverseTurn_26 ?_
    refine lv_topi (fun x4_7 ex4_7 => ?_)
    replace h := dk_let_to ex4_7 h
    refine lv_istore (lv' := [(4, .int x4_7), (0, .ref oN), (2, .int st.1), (3, .int st.2.1)]) hx hb dX4_reverseTurn_27 hl (by decide) rfl (fun ls hl => ?_)
    refine lv_aload_n hx hb dX4_reverseTurn_29 rfl (lv_at hl 1 rfl) ?_
    refine va_get (D := (dC, dI)) (ci := 4) (v := .ref (aN 6)) (C := RX4) (T := TX4) (N := 10) hx hb hts qX4_reverseTurn_X4 hown hK hP 0 rfl rfl 6 (by decide) (hts _ qX4_reverseTurn_f31) (fun _ h9 => h9) rfl dX4_reverseTurn_30 ?_
    refine lv_iload_n hx hb dX4_reverseTurn_33 rfl (lv_at hl 2 rfl) ?_
    refine lv_aload_n hx hb dX4_reverseTurn_34 rfl (lv_at hl 1 rfl) ?_
    refine va_get (D := (dC, dI)) (ci := 4) (v := .ref (aN 6)) (C := RX4) (T := TX4) (N := 10) hx hb hts qX4_reverseTurn_X4 hown hK hP 0 rfl rfl 6 (by decide) (hts _ qX4_reverseTurn_f31) (fun _ h9 => h9) rfl dX4_reverseTurn_35 ?_
    refine lv_iload_n hx hb dX4_reverseTurn_38 rfl (lv_at hl 3 rfl) ?_
    obtain ⟨g_8, h⟩ := dk_gd_to h
    have g_8 := dk_in_to g_8
    refine va_iald hx hb hK hP 7 0 rfl rfl g_8 dX4_reverseTurn_39 ?_
    refine va_iast hx hb hK hP hD hS 7 0 rfl rfl g_6 dX4_reverseTurn_40 (fun H locs hP hD hS => ?_)
    obtain ⟨N_turns_9, eN_turns_9⟩ : ∃ z : Nat → Int32, z = upd st.2.2 st.1.toNatClampNeg (st.2.2 st.2.1.toNatClampNeg) := ⟨_, rfl⟩
    replace h := dk_let_to eN_turns_9 h
    have hP : va_P (dC, dI) vwCl (wX4 oN aN cI cJ cZ N_first N_second N_isCut N_wireClaim N_knotClaim N_turnSize N_turns_9 N_knots N_wires N_power) H := by rw [eN_turns_9]; exact hP
    have hD : va_D A (wX4 oN aN cI cJ cZ N_first N_second N_isCut N_wireClaim N_knotClaim N_turnSize N_turns_9 N_knots N_wires N_power) := by rw [eN_turns_9]; exact hD
    refine lv_aload_n hx hb dX4_reverseTurn_41 rfl (lv_at hl 1 rfl) ?_
    refine va_get (D := (dC, dI)) (ci := 4) (v := .ref (aN 6)) (C := RX4) (T := TX4) (N := 10) hx hb hts qX4_reverseTurn_X4 hown hK hP 0 rfl rfl 6 (by decide) (hts _ qX4_reverseTurn_f31) (fun _ h9 => h9) rfl dX4_reverseTurn_42 ?_
    refine lv_iload_n hx hb dX4_reverseTurn_45 rfl (lv_at hl 3 rfl) ?_
    refine lv_iload hx hb dX4_reverseTurn_46 (lv_at hl 0 rfl) ?_
    refine va_iast hx hb hK hP hD hS 7 0 rfl rfl g_8 dX4_reverseTurn_48 (fun H locs hP hD hS => ?_)
    obtain ⟨N_turns_10, eN_turns_10⟩ : ∃ z : Nat → Int32, z = upd N_turns_9 st.2.1.toNatClampNeg x4_7 := ⟨_, rfl⟩
    replace h := dk_let_to eN_turns_10 h
    have hP : va_P (dC, dI) vwCl (wX4 oN aN cI cJ cZ N_first N_second N_isCut N_wireClaim N_knotClaim N_turnSize N_turns_10 N_knots N_wires N_power) H := by rw [eN_turns_10]; exact hP
    have hD : va_D A (wX4 oN aN cI cJ cZ N_first N_second N_isCut N_wireClaim N_knotClaim N_turnSize N_turns_10 N_knots N_wires N_power) := by rw [eN_turns_10]; exact hD
    obtain ⟨x2_11, ex2_11⟩ : ∃ z : Int32, z = st.1 + 1 := ⟨_, rfl⟩
    replace h := dk_let_to ex2_11 h
    refine lv_iinc (v := x2_11) (lv' := [(2, .int x2_11), (4, .int x4_7), (0, .ref oN), (3, .int st.2.1)]) hx hb dX4_reverseTurn_49 hl (k := 2) rfl (by rw [ex2_11]; rfl) (by decide) rfl (fun ls hl => ?_)
    obtain ⟨x3_12, ex3_12⟩ : ∃ z : Int32, z = st.2.1 + (-1) := ⟨_, rfl⟩
    replace h := dk_let_to ex3_12 h
    refine lv_iinc (v := x3_12) (lv' := [(3, .int x3_12), (2, .int x2_11), (4, .int x4_7), (0, .ref oN)]) hx hb dX4_reverseTurn_52 hl (k := 3) rfl (by rw [ex3_12]; rfl) (by decide) rfl (fun ls hl => ?_)
    refine lv_goto (tgt := 16) hx hb dX4_reverseTurn_55 (by decide) ?_
    exact hC _ (Option.some.inj h).symm _ _ hP hD hS ls (lv_sub hl [3, 1, 0] rfl)
set_option maxHeartbeats 4000000 in
set_option maxRecDepth 100000 in
theorem lX4_reverseTurn_16 (C : dk_C p s m meth c args cX4_reverseTurn none 5 RX4 vsX4_reverseTurn) (hK : va_K (dC, dI) vwCl (dk_ty cI cJ cZ) s) (hA : ∀ q : Nat, s.heap.size ≤ q → A q) {out : (Nat → Int32)} {n : Nat} {st : Int32 × Int32 × (Nat → Int32)} {r : (Nat → Int32)} (h : dk_loop (bX4_reverseTurn_16 N_turnSize) n st = some r) (hE : ∀ (H : Heap) (locs : List Loc), va_P (dC, dI) vwCl (wX4 oN aN cI cJ cZ N_first N_second N_isCut N_wireClaim N_knotClaim N_turnSize r N_knots N_wires N_power) H → va_D A (wX4 oN aN cI cJ cZ N_first N_second N_isCut N_wireClaim N_knotClaim N_turnSize r N_knots N_wires N_power) → va_S A s.heap H locs → ∀ ls : Array Slot, lv_has ls 5 [(0, .ref oN)] → W p l e rX4_reverseTurn s m args below meth c H locs 0 0 (MQ below (dk_Qv (dC, dI) (dk_ty cI cJ cZ) (wX4 oN aN cI cJ cZ N_first N_second N_isCut N_wireClaim N_knotClaim N_turnSize out N_knots N_wires N_power) A) args s 0 0 A) (F0 m 58 ls [])) : ∀ (H : Heap) (locs : List Loc), va_P (dC, dI) vwCl (wX4 oN aN cI cJ cZ N_first N_second N_isCut N_wireClaim N_knotClaim N_turnSize st.2.2 N_knots N_wires N_power) H → va_D A (wX4 oN aN cI cJ cZ N_first N_second N_isCut N_wireClaim N_knotClaim N_turnSize st.2.2 N_knots N_wires N_power) → va_S A s.heap H locs → ∀ ls : Array Slot, lv_has ls 5 [(0, .ref oN), (2, .int st.1), (3, .int st.2.1)] → W p l e rX4_reverseTurn s m args below meth c H locs 0 0 (MQ below (dk_Qv (dC, dI) (dk_ty cI cJ cZ) (wX4 oN aN cI cJ cZ N_first N_second N_isCut N_wireClaim N_knotClaim N_turnSize out N_knots N_wires N_power) A) args s 0 0 A) (F0 m 16 ls []) :=
  dk_loopW (P := fun st => ∀ (H : Heap) (locs : List Loc), va_P (dC, dI) vwCl (wX4 oN aN cI cJ cZ N_first N_second N_isCut N_wireClaim N_knotClaim N_turnSize st.2.2 N_knots N_wires N_power) H → va_D A (wX4 oN aN cI cJ cZ N_first N_second N_isCut N_wireClaim N_knotClaim N_turnSize st.2.2 N_knots N_wires N_power) → va_S A s.heap H locs → ∀ ls : Array Slot, lv_has ls 5 [(0, .ref oN), (2, .int st.1), (3, .int st.2.1)] → W p l e rX4_reverseTurn s m args below meth c H locs 0 0 (MQ below (dk_Qv (dC, dI) (dk_ty cI cJ cZ) (wX4 oN aN cI cJ cZ N_first N_second N_isCut N_wireClaim N_knotClaim N_turnSize out N_knots N_wires N_power) A) args s 0 0 A) (F0 m 16 ls [])) (K := fun r => ∀ (H : Heap) (locs : List Loc), va_P (dC, dI) vwCl (wX4 oN aN cI cJ cZ N_first N_second N_isCut N_wireClaim N_knotClaim N_turnSize r N_knots N_wires N_power) H → va_D A (wX4 oN aN cI cJ cZ N_first N_second N_isCut N_wireClaim N_knotClaim N_turnSize r N_knots N_wires N_power) → va_S A s.heap H locs → ∀ ls : Array Slot, lv_has ls 5 [(0, .ref oN)] → W p l e rX4_reverseTurn s m args below meth c H locs 0 0 (MQ below (dk_Qv (dC, dI) (dk_ty cI cJ cZ) (wX4 oN aN cI cJ cZ N_first N_second N_isCut N_wireClaim N_knotClaim N_turnSize out N_knots N_wires N_power) A) args s 0 0 A) (F0 m 58 ls [])) (fun st y hy k1 k2 => tX4_reverseTurn_16 C hK hA hy k1 k2) n st r h hE
end
set_option maxHeartbeats 4000000 in
set_option maxRecDepth 100000 in
theorem mX4_reverseTurn (l : Launch) (dC : Nat → ClassId) (dI : Nat → Nat → Nat) (cI cJ cZ : ClassId) {oN : Nat} {aN : Nat → Nat} {N_first N_second N_isCut N_wireClaim N_knotClaim N_turnSize N_turns : Nat → Int32} {N_knots N_wires N_power : Int32} {x1 : Int32} {out : (Nat → Int32)} (h : fX4_reverseTurn N_turnSize N_turns x1 = some out) (sz : Nat) : Met l yX4_reverseTurn vsX4_reverseTurn rX4_reverseTurn (va_Pc [.ref oN, .int x1] (dk_Pre (dC, dI) (dk_ty cI cJ cZ) (wX4 oN aN cI cJ cZ N_first N_second N_isCut N_wireClaim N_knotClaim N_turnSize N_turns N_knots N_wires N_power) sz)) (dk_Qv (dC, dI) (dk_ty cI cJ cZ) (wX4 oN aN cI cJ cZ N_first N_second N_isCut N_wireClaim N_knotClaim N_turnSize out N_knots N_wires N_power) (va_A (wX4 oN aN cI cJ cZ N_first N_second N_isCut N_wireClaim N_knotClaim N_turnSize N_turns N_knots N_wires N_power) sz)) 0 0 (va_A (wX4 oN aN cI cJ cZ N_first N_second N_isCut N_wireClaim N_knotClaim N_turnSize N_turns N_knots N_wires N_power) sz) := by
  refine dk_met (cc := cX4_reverseTurn) (maxL := 5) (ret := none) (Qc := fun A => dk_Qv (dC, dI) (dk_ty cI cJ cZ) (wX4 oN aN cI cJ cZ N_first N_second N_isCut N_wireClaim N_knotClaim N_turnSize out N_knots N_wires N_power) A) (by decide) rfl (Nat.le_of_ble_eq_true rfl) ?_
  intro p e s m below meth c A C hnm hA hK hP hD hS ls hl
  have C : dk_C p s m meth c _ cX4_reverseTurn none 5 RX4 vsX4_reverseTurn := C
  obtain ⟨hx, hb, hr, hml, hown, hts, hlocks⟩ := id C
  have hl : lv_has ls 5 [(0, .ref oN), (1, .int x1)] := hl
  unfold fX4_reverseTurn at h
  refine lv_iload_n hx hb dX4_reverseTurn_0 rfl (lv_at hl 1 rfl) ?_
  refine lv_bipush (v := 22) hx hb dX4_reverseTurn_1 (by decide) ?_
  refine lv_imul hx hb dX4_reverseTurn_3 ?_
  refine lv_topi (fun x2_1 ex2_1 => ?_)
  replace h := dk_let_to ex2_1 h
  refine lv_istore_n (lv' := [(2, .int x2_1), (0, .ref oN), (1, .int x1)]) hx hb dX4_reverseTurn_4 rfl hl (by decide) rfl (fun ls hl => ?_)
  refine lv_iload_n hx hb dX4_reverseTurn_5 rfl (lv_at hl 0 rfl) ?_
  refine lv_aload_n hx hb dX4_reverseTurn_6 rfl (lv_at hl 1 rfl) ?_
  refine va_get (D := (dC, dI)) (ci := 4) (v := .ref (aN 5)) (C := RX4) (T := TX4) (N := 10) hx hb hts qX4_reverseTurn_X4 hown hK hP 0 rfl rfl 5 (by decide) (hts _ qX4_reverseTurn_f28) (fun _ h9 => h9) rfl dX4_reverseTurn_7 ?_
  refine lv_iload_n hx hb dX4_reverseTurn_10 rfl (lv_at hl 2 rfl) ?_
  obtain ⟨g_2, h⟩ := dk_gd_to h
  have g_2 := dk_in_to g_2
  refine va_iald hx hb hK hP 6 0 rfl rfl g_2 dX4_reverseTurn_11 ?_
  refine lv_iadd hx hb dX4_reverseTurn_12 ?_
  refine lv_iconst (v := 1) hx hb dX4_reverseTurn_13 (by decide) ?_
  refine lv_isub hx hb dX4_reverseTurn_14 ?_
  refine lv_topi (fun x3_3 ex3_3 => ?_)
  replace h := dk_let_to ex3_3 h
  refine lv_istore_n (lv' := [(3, .int x3_3), (2, .int x2_1), (0, .ref oN), (1, .int x1)]) hx hb dX4_reverseTurn_15 rfl hl (by decide) rfl (fun ls hl => ?_)
  obtain ⟨r_4, hLr_4, h⟩ := dk_bnd_to h
  refine lX4_reverseTurn_16 C hK hA hLr_4 (fun H locs hP hD hS ls hl => ?_) _ _ hP hD hS ls (lv_sub hl [2, 1, 0] rfl)
  have e9 := Option.some.inj h
  subst e9
  exact dk_vret C hK hP hD hS dX4_reverseTurn_58
/-! ===== SquareTiler$Net.hasWholeTurns ===== -/
abbrev rX4_hasWholeTurns : Room := { frames := 1, cells := 0, slots := 0, locals := 22 }
def ovX4_hasWholeTurns : List Cond := [Cond.fieldLink RX4 34 "SquareTiler$Net" "knots" "I", Cond.fieldLink RX4 28 "SquareTiler$Net" "turnSize" "[I", Cond.fieldLink RX4 38 "SquareTiler$Net" "wires" "I", Cond.methodLink RX4 50 yX4_endsAt, Cond.instanceMethod yX4_endsAt, Cond.selects RX4 yX4_endsAt yX4_endsAt, Cond.initialized RX4]
def vsX4_hasWholeTurns : List Cond := .code yX4_hasWholeTurns cX4_hasWholeTurns 4 (some .boolean) :: (ovX4_hasWholeTurns ++ (wsX40 ++ (vsX4_endsAt ++ [])))
theorem qX4_hasWholeTurns_f34 : Cond.fieldLink RX4 34 "SquareTiler$Net" "knots" "I" ∈ vsX4_hasWholeTurns := List.mem_cons_of_mem _ (List.mem_append_left _ (List.mem_of_getElem? (i := 0) rfl))
theorem qX4_hasWholeTurns_f28 : Cond.fieldLink RX4 28 "SquareTiler$Net" "turnSize" "[I" ∈ vsX4_hasWholeTurns := List.mem_cons_of_mem _ (List.mem_append_left _ (List.mem_of_getElem? (i := 1) rfl))
theorem qX4_hasWholeTurns_f38 : Cond.fieldLink RX4 38 "SquareTiler$Net" "wires" "I" ∈ vsX4_hasWholeTurns := List.mem_cons_of_mem _ (List.mem_append_left _ (List.mem_of_getElem? (i := 2) rfl))
theorem qX4_hasWholeTurns_w3 : Cond.methodLink RX4 50 yX4_endsAt ∈ vsX4_hasWholeTurns := List.mem_cons_of_mem _ (List.mem_append_left _ (List.mem_of_getElem? (i := 3) rfl))
theorem qX4_hasWholeTurns_w4 : Cond.instanceMethod yX4_endsAt ∈ vsX4_hasWholeTurns := List.mem_cons_of_mem _ (List.mem_append_left _ (List.mem_of_getElem? (i := 4) rfl))
theorem qX4_hasWholeTurns_w5 : Cond.selects RX4 yX4_endsAt yX4_endsAt ∈ vsX4_hasWholeTurns := List.mem_cons_of_mem _ (List.mem_append_left _ (List.mem_of_getElem? (i := 5) rfl))
theorem qX4_hasWholeTurns_w6 : Cond.initialized RX4 ∈ vsX4_hasWholeTurns := List.mem_cons_of_mem _ (List.mem_append_left _ (List.mem_of_getElem? (i := 6) rfl))
theorem qX4_hasWholeTurns_X4 : ∀ w ∈ u_ws RX4 TX4 10, w ∈ vsX4_hasWholeTurns := fun w h => List.mem_cons_of_mem _ (List.mem_append_right _ (List.mem_append_left _ h))
theorem gd_vsX4_hasWholeTurns : ∀ w ∈ vsX4_hasWholeTurns, goodWord w = true := dk_cons rfl (dk_app (dk_all (by decide +kernel)) (dk_app gd_wsX40 (dk_app gd_vsX4_endsAt dk_nil)))
theorem gvX4_hasWholeTurns_X4_endsAt : GoodIn vsX4_hasWholeTurns (wsV RX4 50 RX4 yX4_endsAt vsX4_endsAt) := goodIn_app (dk_g4 qX4_hasWholeTurns_w3 qX4_hasWholeTurns_w4 qX4_hasWholeTurns_w5 qX4_hasWholeTurns_w6 rfl) (dk_gIn (fun w h => List.mem_cons_of_mem _ (List.mem_append_right _ (List.mem_append_right _ (List.mem_append_left _ h)))) gd_vsX4_endsAt)
def jX4_hasWholeTurns_37 (N_first N_second N_turnSize : Nat → Int32) (N_knots N_wires x1 x3 s0 s1 : Int32) : Option ((Int32) ⊕ (Int32 × Int32)) := dk_let ((s0 + s1)) (fun x2_11 => dk_let (x3 + 1) (fun x3_12 => some (.inr (x2_11, x3_12))))
def bX4_hasWholeTurns_14 (N_first N_second N_turnSize : Nat → Int32) (N_knots N_wires x1 : Int32) (st : Int32 × Int32) : Option ((Int32) ⊕ (Int32 × Int32)) := if N_wires ≤ st.2 then some (.inl st.1) else dk_bnd (fX4_endsAt N_first N_second st.2 x1) (fun r_9 => if r_9 = 0 then jX4_hasWholeTurns_37 N_first N_second N_turnSize N_knots N_wires x1 st.2 st.1 0 else jX4_hasWholeTurns_37 N_first N_second N_turnSize N_knots N_wires x1 st.2 st.1 1)
def bX4_hasWholeTurns_2 (N_first N_second N_turnSize : Nat → Int32) (N_knots N_wires : Int32) (st : Int32) : Option (((Int32) ⊕ (Unit)) ⊕ (Int32)) := if N_knots ≤ st then some (.inl (.inr ())) else dk_bnd (dk_loop (bX4_hasWholeTurns_14 N_first N_second N_turnSize N_knots N_wires st) 1000 (0, 0)) (fun r_4 => dk_gd (dk_in st 12) (if r_4 = (N_turnSize st.toNatClampNeg) then dk_let (st + 1) (fun x1_7 => some (.inr x1_7)) else some (.inl (.inl 0))))
def fX4_hasWholeTurns (N_first N_second N_turnSize : Nat → Int32) (N_knots N_wires : Int32) : Option (Int32) := dk_bnd (dk_loop (bX4_hasWholeTurns_2 N_first N_second N_turnSize N_knots N_wires) 1000 0) (fun r_1 => dk_sum r_1 (fun zz => some zz) (fun z_2 => some 1))
section
variable {p : Program} {l : Launch} {e : Env} {s : State} {m : MethodId} {args : Array Value} {below : List Frame} {meth : Method} {c : Code} {dC : Nat → ClassId} {dI : Nat → Nat → Nat} {cI cJ cZ : ClassId} {A : Nat → Prop} {oN : Nat} {aN : Nat → Nat} {N_first N_second N_isCut N_wireClaim N_knotClaim N_turnSize N_turns : Nat → Int32} {N_knots N_wires N_power : Int32}
set_option maxHeartbeats 4000000 in
set_option maxRecDepth 100000 in
theorem kX4_hasWholeTurns_37 (C : dk_C p s m meth c args cX4_hasWholeTurns (some .boolean) 4 RX4 vsX4_hasWholeTurns) (hK : va_K (dC, dI) vwCl (dk_ty cI cJ cZ) s) (hA : ∀ q : Nat, s.heap.size ≤ q → A q) {out : Int32} {x1 x3 s0 s1 : Int32} {y : (Int32) ⊕ (Int32 × Int32)} (h : jX4_hasWholeTurns_37 N_first N_second N_turnSize N_knots N_wires x1 x3 s0 s1 = some y) (hE : ∀ z : Int32, y = .inl z → ∀ (H : Heap) (locs : List Loc), va_P (dC, dI) vwCl (wX4 oN aN cI cJ cZ N_first N_second N_isCut N_wireClaim N_knotClaim N_turnSize N_turns N_knots N_wires N_power) H → va_D A (wX4 oN aN cI cJ cZ N_first N_second N_isCut N_wireClaim N_knotClaim N_turnSize N_turns N_knots N_wires N_power) → va_S A s.heap H locs → ∀ ls : Array Slot, lv_has ls 4 [(0, .ref oN), (1, .int x1), (2, .int z)] → W p l e rX4_hasWholeTurns s m args below meth c H locs 0 0 (MQ below (dk_Qi (dC, dI) (dk_ty cI cJ cZ) (wX4 oN aN cI cJ cZ N_first N_second N_isCut N_wireClaim N_knotClaim N_turnSize N_turns N_knots N_wires N_power) out A) args s 0 0 A) (F0 m 45 ls [])) (hC : ∀ z : Int32 × Int32, y = .inr z → ∀ (H : Heap) (locs : List Loc), va_P (dC, dI) vwCl (wX4 oN aN cI cJ cZ N_first N_second N_isCut N_wireClaim N_knotClaim N_turnSize N_turns N_knots N_wires N_power) H → va_D A (wX4 oN aN cI cJ cZ N_first N_second N_isCut N_wireClaim N_knotClaim N_turnSize N_turns N_knots N_wires N_power) → va_S A s.heap H locs → ∀ ls : Array Slot, lv_has ls 4 [(0, .ref oN), (1, .int x1), (2, .int z.1), (3, .int z.2)] → W p l e rX4_hasWholeTurns s m args below meth c H locs 0 0 (MQ below (dk_Qi (dC, dI) (dk_ty cI cJ cZ) (wX4 oN aN cI cJ cZ N_first N_second N_isCut N_wireClaim N_knotClaim N_turnSize N_turns N_knots N_wires N_power) out A) args s 0 0 A) (F0 m 14 ls [])) : ∀ (H : Heap) (locs : List Loc), va_P (dC, dI) vwCl (wX4 oN aN cI cJ cZ N_first N_second N_isCut N_wireClaim N_knotClaim N_turnSize N_turns N_knots N_wires N_power) H → va_D A (wX4 oN aN cI cJ cZ N_first N_second N_isCut N_wireClaim N_knotClaim N_turnSize N_turns N_knots N_wires N_power) → va_S A s.heap H locs → ∀ ls : Array Slot, lv_has ls 4 [(0, .ref oN), (1, .int x1), (3, .int x3)] → W p l e rX4_hasWholeTurns s m args below meth c H locs 0 0 (MQ below (dk_Qi (dC, dI) (dk_ty cI cJ cZ) (wX4 oN aN cI cJ cZ N_first N_second N_isCut N_wireClaim N_knotClaim N_turnSize N_turns N_knots N_wires N_power) out A) args s 0 0 A) (F0 m 37 ls [.int s1, .int s0]) := by
  obtain ⟨hx, hb, hr, hml, hown, hts, hlocks⟩ := id C
  intro H locs hP hD hS ls hl
  unfold jX4_hasWholeTurns_37 at h
  refine lv_iadd hx hb dX4_hasWholeTurns_37 ?_
  refine lv_topi (fun x2_11 ex2_11 => ?_)
  replace h := dk_let_to ex2_11 h
  refine lv_istore_n (lv' := [(2, .int x2_11), (0, .ref oN), (1, .int x1), (3, .int x3)]) hx hb dX4_hasWholeTurns_38 rfl hl (by decide) rfl (fun ls hl => ?_)
  obtain ⟨x3_12, ex3_12⟩ : ∃ z : Int32, z = x3 + 1 := ⟨_, rfl⟩
  replace h := dk_let_to ex3_12 h
  refine lv_iinc (v := x3_12) (lv' := [(3, .int x3_12), (2, .int x2_11), (0, .ref oN), (1, .int x1)]) hx hb dX4_hasWholeTurns_39 hl (k := 3) rfl (by rw [ex3_12]; rfl) (by decide) rfl (fun ls hl => ?_)
  refine lv_goto (tgt := 14) hx hb dX4_hasWholeTurns_42 (by decide) ?_
  exact hC _ (Option.some.inj h).symm _ _ hP hD hS ls (lv_sub hl [2, 3, 1, 0] rfl)
set_option maxHeartbeats 4000000 in
set_option maxRecDepth 100000 in
theorem tX4_hasWholeTurns_14 (C : dk_C p s m meth c args cX4_hasWholeTurns (some .boolean) 4 RX4 vsX4_hasWholeTurns) (hK : va_K (dC, dI) vwCl (dk_ty cI cJ cZ) s) (hA : ∀ q : Nat, s.heap.size ≤ q → A q) {out : Int32} {x1 : Int32} {st : Int32 × Int32} {y : (Int32) ⊕ (Int32 × Int32)} (h : bX4_hasWholeTurns_14 N_first N_second N_turnSize N_knots N_wires x1 st = some y) (hE : ∀ z : Int32, y = .inl z → ∀ (H : Heap) (locs : List Loc), va_P (dC, dI) vwCl (wX4 oN aN cI cJ cZ N_first N_second N_isCut N_wireClaim N_knotClaim N_turnSize N_turns N_knots N_wires N_power) H → va_D A (wX4 oN aN cI cJ cZ N_first N_second N_isCut N_wireClaim N_knotClaim N_turnSize N_turns N_knots N_wires N_power) → va_S A s.heap H locs → ∀ ls : Array Slot, lv_has ls 4 [(0, .ref oN), (1, .int x1), (2, .int z)] → W p l e rX4_hasWholeTurns s m args below meth c H locs 0 0 (MQ below (dk_Qi (dC, dI) (dk_ty cI cJ cZ) (wX4 oN aN cI cJ cZ N_first N_second N_isCut N_wireClaim N_knotClaim N_turnSize N_turns N_knots N_wires N_power) out A) args s 0 0 A) (F0 m 45 ls [])) (hC : ∀ z : Int32 × Int32, y = .inr z → ∀ (H : Heap) (locs : List Loc), va_P (dC, dI) vwCl (wX4 oN aN cI cJ cZ N_first N_second N_isCut N_wireClaim N_knotClaim N_turnSize N_turns N_knots N_wires N_power) H → va_D A (wX4 oN aN cI cJ cZ N_first N_second N_isCut N_wireClaim N_knotClaim N_turnSize N_turns N_knots N_wires N_power) → va_S A s.heap H locs → ∀ ls : Array Slot, lv_has ls 4 [(0, .ref oN), (1, .int x1), (2, .int z.1), (3, .int z.2)] → W p l e rX4_hasWholeTurns s m args below meth c H locs 0 0 (MQ below (dk_Qi (dC, dI) (dk_ty cI cJ cZ) (wX4 oN aN cI cJ cZ N_first N_second N_isCut N_wireClaim N_knotClaim N_turnSize N_turns N_knots N_wires N_power) out A) args s 0 0 A) (F0 m 14 ls [])) : ∀ (H : Heap) (locs : List Loc), va_P (dC, dI) vwCl (wX4 oN aN cI cJ cZ N_first N_second N_isCut N_wireClaim N_knotClaim N_turnSize N_turns N_knots N_wires N_power) H → va_D A (wX4 oN aN cI cJ cZ N_first N_second N_isCut N_wireClaim N_knotClaim N_turnSize N_turns N_knots N_wires N_power) → va_S A s.heap H locs → ∀ ls : Array Slot, lv_has ls 4 [(0, .ref oN), (1, .int x1), (2, .int st.1), (3, .int st.2)] → W p l e rX4_hasWholeTurns s m args below meth c H locs 0 0 (MQ below (dk_Qi (dC, dI) (dk_ty cI cJ cZ) (wX4 oN aN cI cJ cZ N_first N_second N_isCut N_wireClaim N_knotClaim N_turnSize N_turns N_knots N_wires N_power) out A) args s 0 0 A) (F0 m 14 ls []) := by
  obtain ⟨hx, hb, hr, hml, hown, hts, hlocks⟩ := id C
  intro H locs hP hD hS ls hl
  unfold bX4_hasWholeTurns_14 at h
  refine lv_iload_n hx hb dX4_hasWholeTurns_14 rfl (lv_at hl 3 rfl) ?_
  refine lv_aload_n hx hb dX4_hasWholeTurns_15 rfl (lv_at hl 0 rfl) ?_
  refine va_get (D := (dC, dI)) (ci := 4) (v := .int N_wires) (C := RX4) (T := TX4) (N := 10) hx hb hts qX4_hasWholeTurns_X4 hown hK hP 0 rfl rfl 8 (by decide) (hts _ qX4_hasWholeTurns_f38) (fun _ h9 => h9) rfl dX4_hasWholeTurns_16 ?_
  refine lv_icmp_ge (tgt := 45) hx hb dX4_hasWholeTurns_19 (by decide) (fun c_8 => ?_) (fun c_8 => ?_)
  · replace h := dk_it c_8 h
    exact hE _ (Option.some.inj h).symm _ _ hP hD hS ls (lv_sub hl [0, 1, 2] rfl)
  · replace h := dk_ie c_8 h
    refine lv_iload_n hx hb dX4_hasWholeTurns_22 rfl (lv_at hl 2 rfl) ?_
    refine lv_aload_n hx hb dX4_hasWholeTurns_23 rfl (lv_at hl 0 rfl) ?_
    refine lv_iload_n hx hb dX4_hasWholeTurns_24 rfl (lv_at hl 3 rfl) ?_
    refine lv_iload_n hx hb dX4_hasWholeTurns_25 rfl (lv_at hl 1 rfl) ?_
    obtain ⟨r_9, hcr_9, h⟩ := dk_bnd_to h
    refine dk_rVi (b := oN) (As := [.int st.2, .int x1]) (rest := [.int st.1]) (wc := (wX4 oN aN cI cJ cZ N_first N_second N_isCut N_wireClaim N_knotClaim N_turnSize N_turns N_knots N_wires N_power)) C hK hP hD hS hA (mX4_endsAt l dC dI cI cJ cZ hcr_9 _) (cwV 2 hts gvX4_hasWholeTurns_X4_endsAt rfl rfl rfl (by decide +kernel) ⟨Nat.le_of_ble_eq_true rfl, Nat.le_of_ble_eq_true rfl⟩) [0, 1, 2, 3, 4, 5, 6, 7] rfl (by decide) 0 4 rfl rfl rfl hl.1 rfl (Nat.le_of_ble_eq_true rfl) ⟨Nat.le_of_ble_eq_true rfl, Nat.le_of_ble_eq_true rfl⟩ dX4_hasWholeTurns_26 (fun H locs hP hD hS => ?_)
    refine lv_if_eq (tgt := 36) hx hb dX4_hasWholeTurns_29 (by decide) (fun c_10 => ?_) (fun c_10 => ?_)
    · replace h := dk_it c_10 h
      refine lv_iconst (v := 0) hx hb dX4_hasWholeTurns_36 (by decide) ?_
      exact kX4_hasWholeTurns_37 C hK hA h hE hC _ _ hP hD hS ls (lv_sub hl [0, 1, 3] rfl)
    · replace h := dk_ie c_10 h
      refine lv_iconst (v := 1) hx hb dX4_hasWholeTurns_32 (by decide) ?_
      refine lv_goto (tgt := 37) hx hb dX4_hasWholeTurns_33 (by decide) ?_
      exact kX4_hasWholeTurns_37 C hK hA h hE hC _ _ hP hD hS ls (lv_sub hl [0, 1, 3] rfl)
set_option maxHeartbeats 4000000 in
set_option maxRecDepth 100000 in
theorem lX4_hasWholeTurns_14 (C : dk_C p s m meth c args cX4_hasWholeTurns (some .boolean) 4 RX4 vsX4_hasWholeTurns) (hK : va_K (dC, dI) vwCl (dk_ty cI cJ cZ) s) (hA : ∀ q : Nat, s.heap.size ≤ q → A q) {out : Int32} {x1 : Int32} {n : Nat} {st : Int32 × Int32} {r : Int32} (h : dk_loop (bX4_hasWholeTurns_14 N_first N_second N_turnSize N_knots N_wires x1) n st = some r) (hE : ∀ (H : Heap) (locs : List Loc), va_P (dC, dI) vwCl (wX4 oN aN cI cJ cZ N_first N_second N_isCut N_wireClaim N_knotClaim N_turnSize N_turns N_knots N_wires N_power) H → va_D A (wX4 oN aN cI cJ cZ N_first N_second N_isCut N_wireClaim N_knotClaim N_turnSize N_turns N_knots N_wires N_power) → va_S A s.heap H locs → ∀ ls : Array Slot, lv_has ls 4 [(0, .ref oN), (1, .int x1), (2, .int r)] → W p l e rX4_hasWholeTurns s m args below meth c H locs 0 0 (MQ below (dk_Qi (dC, dI) (dk_ty cI cJ cZ) (wX4 oN aN cI cJ cZ N_first N_second N_isCut N_wireClaim N_knotClaim N_turnSize N_turns N_knots N_wires N_power) out A) args s 0 0 A) (F0 m 45 ls [])) : ∀ (H : Heap) (locs : List Loc), va_P (dC, dI) vwCl (wX4 oN aN cI cJ cZ N_first N_second N_isCut N_wireClaim N_knotClaim N_turnSize N_turns N_knots N_wires N_power) H → va_D A (wX4 oN aN cI cJ cZ N_first N_second N_isCut N_wireClaim N_knotClaim N_turnSize N_turns N_knots N_wires N_power) → va_S A s.heap H locs → ∀ ls : Array Slot, lv_has ls 4 [(0, .ref oN), (1, .int x1), (2, .int st.1), (3, .int st.2)] → W p l e rX4_hasWholeTurns s m args below meth c H locs 0 0 (MQ below (dk_Qi (dC, dI) (dk_ty cI cJ cZ) (wX4 oN aN cI cJ cZ N_first N_second N_isCut N_wireClaim N_knotClaim N_turnSize N_turns N_knots N_wires N_power) out A) args s 0 0 A) (F0 m 14 ls []) :=
  dk_loopW (P := fun st => ∀ (H : Heap) (locs : List Loc), va_P (dC, dI) vwCl (wX4 oN aN cI cJ cZ N_first N_second N_isCut N_wireClaim N_knotClaim N_turnSize N_turns N_knots N_wires N_power) H → va_D A (wX4 oN aN cI cJ cZ N_first N_second N_isCut N_wireClaim N_knotClaim N_turnSize N_turns N_knots N_wires N_power) → va_S A s.heap H locs → ∀ ls : Array Slot, lv_has ls 4 [(0, .ref oN), (1, .int x1), (2, .int st.1), (3, .int st.2)] → W p l e rX4_hasWholeTurns s m args below meth c H locs 0 0 (MQ below (dk_Qi (dC, dI) (dk_ty cI cJ cZ) (wX4 oN aN cI cJ cZ N_first N_second N_isCut N_wireClaim N_knotClaim N_turnSize N_turns N_knots N_wires N_power) out A) args s 0 0 A) (F0 m 14 ls [])) (K := fun r => ∀ (H : Heap) (locs : List Loc), va_P (dC, dI) vwCl (wX4 oN aN cI cJ cZ N_first N_second N_isCut N_wireClaim N_knotClaim N_turnSize N_turns N_knots N_wires N_power) H → va_D A (wX4 oN aN cI cJ cZ N_first N_second N_isCut N_wireClaim N_knotClaim N_turnSize N_turns N_knots N_wires N_power) → va_S A s.heap H locs → ∀ ls : Array Slot, lv_has ls 4 [(0, .ref oN), (1, .int x1), (2, .int r)] → W p l e rX4_hasWholeTurns s m args below meth c H locs 0 0 (MQ below (dk_Qi (dC, dI) (dk_ty cI cJ cZ) (wX4 oN aN cI cJ cZ N_first N_second N_isCut N_wireClaim N_knotClaim N_turnSize N_turns N_knots N_wires N_power) out A) args s 0 0 A) (F0 m 45 ls [])) (fun st y hy k1 k2 => tX4_hasWholeTurns_14 C hK hA hy k1 k2) n st r h hE
set_option maxHeartbeats 4000000 in
set_option maxRecDepth 100000 in
theorem tX4_hasWholeTurns_2 (C : dk_C p s m meth c args cX4_hasWholeTurns (some .boolean) 4 RX4 vsX4_hasWholeTurns) (hK : va_K (dC, dI) vwCl (dk_ty cI cJ cZ) s) (hA : ∀ q : Nat, s.heap.size ≤ q → A q) {out : Int32} {st : Int32} {y : ((Int32) ⊕ (Unit)) ⊕ (Int32)} (h : bX4_hasWholeTurns_2 N_first N_second N_turnSize N_knots N_wires st = some y) (hR : ∀ z : Int32, y = .inl (.inl z) → z = out) (hE : ∀ z : Unit, y = .inl (.inr z) → ∀ (H : Heap) (locs : List Loc), va_P (dC, dI) vwCl (wX4 oN aN cI cJ cZ N_first N_second N_isCut N_wireClaim N_knotClaim N_turnSize N_turns N_knots N_wires N_power) H → va_D A (wX4 oN aN cI cJ cZ N_first N_second N_isCut N_wireClaim N_knotClaim N_turnSize N_turns N_knots N_wires N_power) → va_S A s.heap H locs → ∀ ls : Array Slot, lv_has ls 4 [(0, .ref oN)] → W p l e rX4_hasWholeTurns s m args below meth c H locs 0 0 (MQ below (dk_Qi (dC, dI) (dk_ty cI cJ cZ) (wX4 oN aN cI cJ cZ N_first N_second N_isCut N_wireClaim N_knotClaim N_turnSize N_turns N_knots N_wires N_power) out A) args s 0 0 A) (F0 m 63 ls [])) (hC : ∀ z : Int32, y = .inr z → ∀ (H : Heap) (locs : List Loc), va_P (dC, dI) vwCl (wX4 oN aN cI cJ cZ N_first N_second N_isCut N_wireClaim N_knotClaim N_turnSize N_turns N_knots N_wires N_power) H → va_D A (wX4 oN aN cI cJ cZ N_first N_second N_isCut N_wireClaim N_knotClaim N_turnSize N_turns N_knots N_wires N_power) → va_S A s.heap H locs → ∀ ls : Array Slot, lv_has ls 4 [(0, .ref oN), (1, .int z)] → W p l e rX4_hasWholeTurns s m args below meth c H locs 0 0 (MQ below (dk_Qi (dC, dI) (dk_ty cI cJ cZ) (wX4 oN aN cI cJ cZ N_first N_second N_isCut N_wireClaim N_knotClaim N_turnSize N_turns N_knots N_wires N_power) out A) args s 0 0 A) (F0 m 2 ls [])) : ∀ (H : Heap) (locs : List Loc), va_P (dC, dI) vwCl (wX4 oN aN cI cJ cZ N_first N_second N_isCut N_wireClaim N_knotClaim N_turnSize N_turns N_knots N_wires N_power) H → va_D A (wX4 oN aN cI cJ cZ N_first N_second N_isCut N_wireClaim N_knotClaim N_turnSize N_turns N_knots N_wires N_power) → va_S A s.heap H locs → ∀ ls : Array Slot, lv_has ls 4 [(0, .ref oN), (1, .int st)] → W p l e rX4_hasWholeTurns s m args below meth c H locs 0 0 (MQ below (dk_Qi (dC, dI) (dk_ty cI cJ cZ) (wX4 oN aN cI cJ cZ N_first N_second N_isCut N_wireClaim N_knotClaim N_turnSize N_turns N_knots N_wires N_power) out A) args s 0 0 A) (F0 m 2 ls []) := by
  obtain ⟨hx, hb, hr, hml, hown, hts, hlocks⟩ := id C
  intro H locs hP hD hS ls hl
  unfold bX4_hasWholeTurns_2 at h
  refine lv_iload_n hx hb dX4_hasWholeTurns_2 rfl (lv_at hl 1 rfl) ?_
  refine lv_aload_n hx hb dX4_hasWholeTurns_3 rfl (lv_at hl 0 rfl) ?_
  refine va_get (D := (dC, dI)) (ci := 4) (v := .int N_knots) (C := RX4) (T := TX4) (N := 10) hx hb hts qX4_hasWholeTurns_X4 hown hK hP 0 rfl rfl 7 (by decide) (hts _ qX4_hasWholeTurns_f34) (fun _ h9 => h9) rfl dX4_hasWholeTurns_4 ?_
  refine lv_icmp_ge (tgt := 63) hx hb dX4_hasWholeTurns_7 (by decide) (fun c_3 => ?_) (fun c_3 => ?_)
  · replace h := dk_it c_3 h
    exact hE _ (Option.some.inj h).symm _ _ hP hD hS ls (lv_sub hl [0] rfl)
  · replace h := dk_ie c_3 h
    refine lv_iconst (v := 0) hx hb dX4_hasWholeTurns_10 (by decide) ?_
    refine lv_istore_n (lv' := [(2, .int 0), (0, .ref oN), (1, .int st)]) hx hb dX4_hasWholeTurns_11 rfl hl (by decide) rfl (fun ls hl => ?_)
    refine lv_iconst (v := 0) hx hb dX4_hasWholeTurns_12 (by decide) ?_
    refine lv_istore_n (lv' := [(3, .int 0), (2, .int 0), (0, .ref oN), (1, .int st)]) hx hb dX4_hasWholeTurns_13 rfl hl (by decide) rfl (fun ls hl => ?_)
    obtain ⟨r_4, hLr_4, h⟩ := dk_bnd_to h
    refine lX4_hasWholeTurns_14 C hK hA hLr_4 (fun H locs hP hD hS ls hl => ?_) _ _ hP hD hS ls (lv_sub hl [2, 3, 1, 0] rfl)
    refine lv_iload_n hx hb dX4_hasWholeTurns_45 rfl (lv_at hl 2 rfl) ?_
    refine lv_aload_n hx hb dX4_hasWholeTurns_46 rfl (lv_at hl 0 rfl) ?_
    refine va_get (D := (dC, dI)) (ci := 4) (v := .ref (aN 5)) (C := RX4) (T := TX4) (N := 10) hx hb hts qX4_hasWholeTurns_X4 hown hK hP 0 rfl rfl 5 (by decide) (hts _ qX4_hasWholeTurns_f28) (fun _ h9 => h9) rfl dX4_hasWholeTurns_47 ?_
    refine lv_iload_n hx hb dX4_hasWholeTurns_50 rfl (lv_at hl 1 rfl) ?_
    obtain ⟨g_5, h⟩ := dk_gd_to h
    have g_5 := dk_in_to g_5
    refine va_iald hx hb hK hP 6 0 rfl rfl g_5 dX4_hasWholeTurns_51 ?_
    refine lv_icmp_eq (tgt := 57) hx hb dX4_hasWholeTurns_52 (by decide) (fun c_6 => ?_) (fun c_6 => ?_)
    · replace h := dk_it c_6 h
      obtain ⟨x1_7, ex1_7⟩ : ∃ z : Int32, z = st + 1 := ⟨_, rfl⟩
      replace h := dk_let_to ex1_7 h
      refine lv_iinc (v := x1_7) (lv' := [(1, .int x1_7), (0, .ref oN), (2, .int r_4)]) hx hb dX4_hasWholeTurns_57 hl (k := 1) rfl (by rw [ex1_7]; rfl) (by decide) rfl (fun ls hl => ?_)
      refine lv_goto (tgt := 2) hx hb dX4_hasWholeTurns_60 (by decide) ?_
      exact hC _ (Option.some.inj h).symm _ _ hP hD hS ls (lv_sub hl [1, 0] rfl)
    · replace h := dk_ie c_6 h
      refine lv_iconst (v := 0) hx hb dX4_hasWholeTurns_55 (by decide) ?_
      have e9 := hR _ (Option.some.inj h).symm
      subst e9
      exact dk_zret C hK hP hD hS (by decide +kernel) rfl dX4_hasWholeTurns_56
set_option maxHeartbeats 4000000 in
set_option maxRecDepth 100000 in
theorem lX4_hasWholeTurns_2 (C : dk_C p s m meth c args cX4_hasWholeTurns (some .boolean) 4 RX4 vsX4_hasWholeTurns) (hK : va_K (dC, dI) vwCl (dk_ty cI cJ cZ) s) (hA : ∀ q : Nat, s.heap.size ≤ q → A q) {out : Int32} {n : Nat} {st : Int32} {r : (Int32) ⊕ (Unit)} (h : dk_loop (bX4_hasWholeTurns_2 N_first N_second N_turnSize N_knots N_wires) n st = some r) (hR : ∀ z : Int32, r = .inl z → z = out) (hE : ∀ z : Unit, r = .inr z → ∀ (H : Heap) (locs : List Loc), va_P (dC, dI) vwCl (wX4 oN aN cI cJ cZ N_first N_second N_isCut N_wireClaim N_knotClaim N_turnSize N_turns N_knots N_wires N_power) H → va_D A (wX4 oN aN cI cJ cZ N_first N_second N_isCut N_wireClaim N_knotClaim N_turnSize N_turns N_knots N_wires N_power) → va_S A s.heap H locs → ∀ ls : Array Slot, lv_has ls 4 [(0, .ref oN)] → W p l e rX4_hasWholeTurns s m args below meth c H locs 0 0 (MQ below (dk_Qi (dC, dI) (dk_ty cI cJ cZ) (wX4 oN aN cI cJ cZ N_first N_second N_isCut N_wireClaim N_knotClaim N_turnSize N_turns N_knots N_wires N_power) out A) args s 0 0 A) (F0 m 63 ls [])) : ∀ (H : Heap) (locs : List Loc), va_P (dC, dI) vwCl (wX4 oN aN cI cJ cZ N_first N_second N_isCut N_wireClaim N_knotClaim N_turnSize N_turns N_knots N_wires N_power) H → va_D A (wX4 oN aN cI cJ cZ N_first N_second N_isCut N_wireClaim N_knotClaim N_turnSize N_turns N_knots N_wires N_power) → va_S A s.heap H locs → ∀ ls : Array Slot, lv_has ls 4 [(0, .ref oN), (1, .int st)] → W p l e rX4_hasWholeTurns s m args below meth c H locs 0 0 (MQ below (dk_Qi (dC, dI) (dk_ty cI cJ cZ) (wX4 oN aN cI cJ cZ N_first N_second N_isCut N_wireClaim N_knotClaim N_turnSize N_turns N_knots N_wires N_power) out A) args s 0 0 A) (F0 m 2 ls []) :=
  dk_loopW (P := fun st => ∀ (H : Heap) (locs : List Loc), va_P (dC, dI) vwCl (wX4 oN aN cI cJ cZ N_first N_second N_isCut N_wireClaim N_knotClaim N_turnSize N_turns N_knots N_wires N_power) H → va_D A (wX4 oN aN cI cJ cZ N_first N_second N_isCut N_wireClaim N_knotClaim N_turnSize N_turns N_knots N_wires N_power) → va_S A s.heap H locs → ∀ ls : Array Slot, lv_has ls 4 [(0, .ref oN), (1, .int st)] → W p l e rX4_hasWholeTurns s m args below meth c H locs 0 0 (MQ below (dk_Qi (dC, dI) (dk_ty cI cJ cZ) (wX4 oN aN cI cJ cZ N_first N_second N_isCut N_wireClaim N_knotClaim N_turnSize N_turns N_knots N_wires N_power) out A) args s 0 0 A) (F0 m 2 ls [])) (K := fun r => (∀ z : Int32, r = .inl z → z = out) ∧ (∀ z : Unit, r = .inr z → ∀ (H : Heap) (locs : List Loc), va_P (dC, dI) vwCl (wX4 oN aN cI cJ cZ N_first N_second N_isCut N_wireClaim N_knotClaim N_turnSize N_turns N_knots N_wires N_power) H → va_D A (wX4 oN aN cI cJ cZ N_first N_second N_isCut N_wireClaim N_knotClaim N_turnSize N_turns N_knots N_wires N_power) → va_S A s.heap H locs → ∀ ls : Array Slot, lv_has ls 4 [(0, .ref oN)] → W p l e rX4_hasWholeTurns s m args below meth c H locs 0 0 (MQ below (dk_Qi (dC, dI) (dk_ty cI cJ cZ) (wX4 oN aN cI cJ cZ N_first N_second N_isCut N_wireClaim N_knotClaim N_turnSize N_turns N_knots N_wires N_power) out A) args s 0 0 A) (F0 m 63 ls []))) (fun st y hy k1 k2 => tX4_hasWholeTurns_2 C hK hA hy (fun z e1 => (k1 _ e1).1 z rfl) (fun z e1 => (k1 _ e1).2 z rfl) k2) n st r h ⟨hR, hE⟩
end
set_option maxHeartbeats 4000000 in
set_option maxRecDepth 100000 in
theorem mX4_hasWholeTurns (l : Launch) (dC : Nat → ClassId) (dI : Nat → Nat → Nat) (cI cJ cZ : ClassId) {oN : Nat} {aN : Nat → Nat} {N_first N_second N_isCut N_wireClaim N_knotClaim N_turnSize N_turns : Nat → Int32} {N_knots N_wires N_power : Int32} {out : Int32} (h : fX4_hasWholeTurns N_first N_second N_turnSize N_knots N_wires = some out) (sz : Nat) : Met l yX4_hasWholeTurns vsX4_hasWholeTurns rX4_hasWholeTurns (va_Pc [.ref oN] (dk_Pre (dC, dI) (dk_ty cI cJ cZ) (wX4 oN aN cI cJ cZ N_first N_second N_isCut N_wireClaim N_knotClaim N_turnSize N_turns N_knots N_wires N_power) sz)) (dk_Qi (dC, dI) (dk_ty cI cJ cZ) (wX4 oN aN cI cJ cZ N_first N_second N_isCut N_wireClaim N_knotClaim N_turnSize N_turns N_knots N_wires N_power) out (va_A (wX4 oN aN cI cJ cZ N_first N_second N_isCut N_wireClaim N_knotClaim N_turnSize N_turns N_knots N_wires N_power) sz)) 0 0 (va_A (wX4 oN aN cI cJ cZ N_first N_second N_isCut N_wireClaim N_knotClaim N_turnSize N_turns N_knots N_wires N_power) sz) := by
  refine dk_met (cc := cX4_hasWholeTurns) (maxL := 4) (ret := (some .boolean)) (Qc := fun A => dk_Qi (dC, dI) (dk_ty cI cJ cZ) (wX4 oN aN cI cJ cZ N_first N_second N_isCut N_wireClaim N_knotClaim N_turnSize N_turns N_knots N_wires N_power) out A) (by decide) rfl (Nat.le_of_ble_eq_true rfl) ?_
  intro p e s m below meth c A C hnm hA hK hP hD hS ls hl
  have C : dk_C p s m meth c _ cX4_hasWholeTurns (some .boolean) 4 RX4 vsX4_hasWholeTurns := C
  obtain ⟨hx, hb, hr, hml, hown, hts, hlocks⟩ := id C
  have hl : lv_has ls 4 [(0, .ref oN)] := hl
  unfold fX4_hasWholeTurns at h
  refine lv_iconst (v := 0) hx hb dX4_hasWholeTurns_0 (by decide) ?_
  refine lv_istore_n (lv' := [(1, .int 0), (0, .ref oN)]) hx hb dX4_hasWholeTurns_1 rfl hl (by decide) rfl (fun ls hl => ?_)
  obtain ⟨r_1, hLr_1, h⟩ := dk_bnd_to h
  cases r_1 with
  | inl zz =>
    replace h := dk_sum_l h
    have hz := Option.some.inj h
    exact lX4_hasWholeTurns_2 C hK hA hLr_1 (fun z1 e1 => by cases e1; exact hz) (fun z1 e1 => by cases e1) _ _ hP hD hS ls (lv_sub hl [1, 0] rfl)
  | inr z_2 =>
    replace h := dk_sum_r h
    refine lX4_hasWholeTurns_2 C hK hA hLr_1 (fun z1 e1 => by cases e1) (fun z1 e1 => ?_) _ _ hP hD hS ls (lv_sub hl [1, 0] rfl)
    have e2 := Sum.inr.inj e1
    subst e2
    intro H locs hP hD hS ls hl
    refine lv_iconst (v := 1) hx hb dX4_hasWholeTurns_63 (by decide) ?_
    have e9 := Option.some.inj h
    subst e9
    exact dk_zret C hK hP hD hS (by decide +kernel) rfl dX4_hasWholeTurns_64

/-! ===== SquareTiler$Net.hasCutWire ===== -/
abbrev rX4_hasCutWire : Room := { frames := 0, cells := 0, slots := 0, locals := 0 }
def ovX4_hasCutWire : List Cond := [Cond.fieldLink RX4 38 "SquareTiler$Net" "wires" "I", Cond.fieldLink RX4 18 "SquareTiler$Net" "isCut" "[Z"]
def vsX4_hasCutWire : List Cond := .code yX4_hasCutWire cX4_hasCutWire 2 (some .boolean) :: (ovX4_hasCutWire ++ (wsX40 ++ []))
theorem qX4_hasCutWire_f38 : Cond.fieldLink RX4 38 "SquareTiler$Net" "wires" "I" ∈ vsX4_hasCutWire := List.mem_cons_of_mem _ (List.mem_append_left _ (List.mem_of_getElem? (i := 0) rfl))
theorem qX4_hasCutWire_f18 : Cond.fieldLink RX4 18 "SquareTiler$Net" "isCut" "[Z" ∈ vsX4_hasCutWire := List.mem_cons_of_mem _ (List.mem_append_left _ (List.mem_of_getElem? (i := 1) rfl))
theorem qX4_hasCutWire_X4 : ∀ w ∈ u_ws RX4 TX4 10, w ∈ vsX4_hasCutWire := fun w h => List.mem_cons_of_mem _ (List.mem_append_right _ (List.mem_append_left _ h))
theorem gd_vsX4_hasCutWire : ∀ w ∈ vsX4_hasCutWire, goodWord w = true := dk_cons rfl (dk_app (dk_all (by decide +kernel)) (dk_app gd_wsX40 dk_nil))
def bX4_hasCutWire_2 (N_isCut : Nat → Int32) (N_wires : Int32) (st : Int32) : Option (((Int32) ⊕ (Unit)) ⊕ (Int32)) := if N_wires ≤ st then some (.inl (.inr ())) else dk_gd (dk_in st 22) (if (N_isCut st.toNatClampNeg) = 0 then dk_let (st + 1) (fun x1_6 => some (.inr x1_6)) else some (.inl (.inl 1)))
def fX4_hasCutWire (N_isCut : Nat → Int32) (N_wires : Int32) : Option (Int32) := dk_bnd (dk_loop (bX4_hasCutWire_2 N_isCut N_wires) 1000 0) (fun r_1 => dk_sum r_1 (fun zz => some zz) (fun z_2 => some 0))
section
variable {p : Program} {l : Launch} {e : Env} {s : State} {m : MethodId} {args : Array Value} {below : List Frame} {meth : Method} {c : Code} {dC : Nat → ClassId} {dI : Nat → Nat → Nat} {cI cJ cZ : ClassId} {A : Nat → Prop} {oN : Nat} {aN : Nat → Nat} {N_first N_second N_isCut N_wireClaim N_knotClaim N_turnSize N_turns : Nat → Int32} {N_knots N_wires N_power : Int32}
set_option maxHeartbeats 4000000 in
set_option maxRecDepth 100000 in
theorem tX4_hasCutWire_2 (C : dk_C p s m meth c args cX4_hasCutWire (some .boolean) 2 RX4 vsX4_hasCutWire) (hK : va_K (dC, dI) vwCl (dk_ty cI cJ cZ) s) (hA : ∀ q : Nat, s.heap.size ≤ q → A q) {out : Int32} {st : Int32} {y : ((Int32) ⊕ (Unit)) ⊕ (Int32)} (h : bX4_hasCutWire_2 N_isCut N_wires st = some y) (hR : ∀ z : Int32, y = .inl (.inl z) → z = out) (hE : ∀ z : Unit, y = .inl (.inr z) → ∀ (H : Heap) (locs : List Loc), va_P (dC, dI) vwCl (wX4 oN aN cI cJ cZ N_first N_second N_isCut N_wireClaim N_knotClaim N_turnSize N_turns N_knots N_wires N_power) H → va_D A (wX4 oN aN cI cJ cZ N_first N_second N_isCut N_wireClaim N_knotClaim N_turnSize N_turns N_knots N_wires N_power) → va_S A s.heap H locs → ∀ ls : Array Slot, lv_has ls 2 [(0, .ref oN)] → W p l e rX4_hasCutWire s m args below meth c H locs 0 0 (MQ below (dk_Qi (dC, dI) (dk_ty cI cJ cZ) (wX4 oN aN cI cJ cZ N_first N_second N_isCut N_wireClaim N_knotClaim N_turnSize N_turns N_knots N_wires N_power) out A) args s 0 0 A) (F0 m 27 ls [])) (hC : ∀ z : Int32, y = .inr z → ∀ (H : Heap) (locs : List Loc), va_P (dC, dI) vwCl (wX4 oN aN cI cJ cZ N_first N_second N_isCut N_wireClaim N_knotClaim N_turnSize N_turns N_knots N_wires N_power) H → va_D A (wX4 oN aN cI cJ cZ N_first N_second N_isCut N_wireClaim N_knotClaim N_turnSize N_turns N_knots N_wires N_power) → va_S A s.heap H locs → ∀ ls : Array Slot, lv_has ls 2 [(0, .ref oN), (1, .int z)] → W p l e rX4_hasCutWire s m args below meth c H locs 0 0 (MQ below (dk_Qi (dC, dI) (dk_ty cI cJ cZ) (wX4 oN aN cI cJ cZ N_first N_second N_isCut N_wireClaim N_knotClaim N_turnSize N_turns N_knots N_wires N_power) out A) args s 0 0 A) (F0 m 2 ls [])) : ∀ (H : Heap) (locs : List Loc), va_P (dC, dI) vwCl (wX4 oN aN cI cJ cZ N_first N_second N_isCut N_wireClaim N_knotClaim N_turnSize N_turns N_knots N_wires N_power) H → va_D A (wX4 oN aN cI cJ cZ N_first N_second N_isCut N_wireClaim N_knotClaim N_turnSize N_turns N_knots N_wires N_power) → va_S A s.heap H locs → ∀ ls : Array Slot, lv_has ls 2 [(0, .ref oN), (1, .int st)] → W p l e rX4_hasCutWire s m args below meth c H locs 0 0 (MQ below (dk_Qi (dC, dI) (dk_ty cI cJ cZ) (wX4 oN aN cI cJ cZ N_first N_second N_isCut N_wireClaim N_knotClaim N_turnSize N_turns N_knots N_wires N_power) out A) args s 0 0 A) (F0 m 2 ls []) := by
  obtain ⟨hx, hb, hr, hml, hown, hts, hlocks⟩ := id C
  intro H locs hP hD hS ls hl
  unfold bX4_hasCutWire_2 at h
  refine lv_iload_n hx hb dX4_hasCutWire_2 rfl (lv_at hl 1 rfl) ?_
  refine lv_aload_n hx hb dX4_hasCutWire_3 rfl (lv_at hl 0 rfl) ?_
  refine va_get (D := (dC, dI)) (ci := 4) (v := .int N_wires) (C := RX4) (T := TX4) (N := 10) hx hb hts qX4_hasCutWire_X4 hown hK hP 0 rfl rfl 8 (by decide) (hts _ qX4_hasCutWire_f38) (fun _ h9 => h9) rfl dX4_hasCutWire_4 ?_
  refine lv_icmp_ge (tgt := 27) hx hb dX4_hasCutWire_7 (by decide) (fun c_3 => ?_) (fun c_3 => ?_)
  · replace h := dk_it c_3 h
    exact hE _ (Option.some.inj h).symm _ _ hP hD hS ls (lv_sub hl [0] rfl)
  · replace h := dk_ie c_3 h
    refine lv_aload_n hx hb dX4_hasCutWire_10 rfl (lv_at hl 0 rfl) ?_
    refine va_get (D := (dC, dI)) (ci := 4) (v := .ref (aN 2)) (C := RX4) (T := TX4) (N := 10) hx hb hts qX4_hasCutWire_X4 hown hK hP 0 rfl rfl 2 (by decide) (hts _ qX4_hasCutWire_f18) (fun _ h9 => h9) rfl dX4_hasCutWire_11 ?_
    refine lv_iload_n hx hb dX4_hasCutWire_14 rfl (lv_at hl 1 rfl) ?_
    obtain ⟨g_4, h⟩ := dk_gd_to h
    have g_4 := dk_in_to g_4
    refine va_zald hx hb hK hP 3 2 rfl rfl g_4 dX4_hasCutWire_15 ?_
    refine lv_if_eq (tgt := 21) hx hb dX4_hasCutWire_16 (by decide) (fun c_5 => ?_) (fun c_5 => ?_)
    · replace h := dk_it c_5 h
      obtain ⟨x1_6, ex1_6⟩ : ∃ z : Int32, z = st + 1 := ⟨_, rfl⟩
      replace h := dk_let_to ex1_6 h
      refine lv_iinc (v := x1_6) (lv' := [(1, .int x1_6), (0, .ref oN)]) hx hb dX4_hasCutWire_21 hl (k := 1) rfl (by rw [ex1_6]; rfl) (by decide) rfl (fun ls hl => ?_)
      refine lv_goto (tgt := 2) hx hb dX4_hasCutWire_24 (by decide) ?_
      exact hC _ (Option.some.inj h).symm _ _ hP hD hS ls (lv_sub hl [1, 0] rfl)
    · replace h := dk_ie c_5 h
      refine lv_iconst (v := 1) hx hb dX4_hasCutWire_19 (by decide) ?_
      have e9 := hR _ (Option.some.inj h).symm
      subst e9
      exact dk_zret C hK hP hD hS (by decide +kernel) rfl dX4_hasCutWire_20
set_option maxHeartbeats 4000000 in
set_option maxRecDepth 100000 in
theorem lX4_hasCutWire_2 (C : dk_C p s m meth c args cX4_hasCutWire (some .boolean) 2 RX4 vsX4_hasCutWire) (hK : va_K (dC, dI) vwCl (dk_ty cI cJ cZ) s) (hA : ∀ q : Nat, s.heap.size ≤ q → A q) {out : Int32} {n : Nat} {st : Int32} {r : (Int32) ⊕ (Unit)} (h : dk_loop (bX4_hasCutWire_2 N_isCut N_wires) n st = some r) (hR : ∀ z : Int32, r = .inl z → z = out) (hE : ∀ z : Unit, r = .inr z → ∀ (H : Heap) (locs : List Loc), va_P (dC, dI) vwCl (wX4 oN aN cI cJ cZ N_first N_second N_isCut N_wireClaim N_knotClaim N_turnSize N_turns N_knots N_wires N_power) H → va_D A (wX4 oN aN cI cJ cZ N_first N_second N_isCut N_wireClaim N_knotClaim N_turnSize N_turns N_knots N_wires N_power) → va_S A s.heap H locs → ∀ ls : Array Slot, lv_has ls 2 [(0, .ref oN)] → W p l e rX4_hasCutWire s m args below meth c H locs 0 0 (MQ below (dk_Qi (dC, dI) (dk_ty cI cJ cZ) (wX4 oN aN cI cJ cZ N_first N_second N_isCut N_wireClaim N_knotClaim N_turnSize N_turns N_knots N_wires N_power) out A) args s 0 0 A) (F0 m 27 ls [])) : ∀ (H : Heap) (locs : List Loc), va_P (dC, dI) vwCl (wX4 oN aN cI cJ cZ N_first N_second N_isCut N_wireClaim N_knotClaim N_turnSize N_turns N_knots N_wires N_power) H → va_D A (wX4 oN aN cI cJ cZ N_first N_second N_isCut N_wireClaim N_knotClaim N_turnSize N_turns N_knots N_wires N_power) → va_S A s.heap H locs → ∀ ls : Array Slot, lv_has ls 2 [(0, .ref oN), (1, .int st)] → W p l e rX4_hasCutWire s m args below meth c H locs 0 0 (MQ below (dk_Qi (dC, dI) (dk_ty cI cJ cZ) (wX4 oN aN cI cJ cZ N_first N_second N_isCut N_wireClaim N_knotClaim N_turnSize N_turns N_knots N_wires N_power) out A) args s 0 0 A) (F0 m 2 ls []) :=
  dk_loopW (P := fun st => ∀ (H : Heap) (locs : List Loc), va_P (dC, dI) vwCl (wX4 oN aN cI cJ cZ N_first N_second N_isCut N_wireClaim N_knotClaim N_turnSize N_turns N_knots N_wires N_power) H → va_D A (wX4 oN aN cI cJ cZ N_first N_second N_isCut N_wireClaim N_knotClaim N_turnSize N_turns N_knots N_wires N_power) → va_S A s.heap H locs → ∀ ls : Array Slot, lv_has ls 2 [(0, .ref oN), (1, .int st)] → W p l e rX4_hasCutWire s m args below meth c H locs 0 0 (MQ below (dk_Qi (dC, dI) (dk_ty cI cJ cZ) (wX4 oN aN cI cJ cZ N_first N_second N_isCut N_wireClaim N_knotClaim N_turnSize N_turns N_knots N_wires N_power) out A) args s 0 0 A) (F0 m 2 ls [])) (K := fun r => (∀ z : Int32, r = .inl z → z = out) ∧ (∀ z : Unit, r = .inr z → ∀ (H : Heap) (locs : List Loc), va_P (dC, dI) vwCl (wX4 oN aN cI cJ cZ N_first N_second N_isCut N_wireClaim N_knotClaim N_turnSize N_turns N_knots N_wires N_power) H → va_D A (wX4 oN aN cI cJ cZ N_first N_second N_isCut N_wireClaim N_knotClaim N_turnSize N_turns N_knots N_wires N_power) → va_S A s.heap H locs → ∀ ls : Array Slot, lv_has ls 2 [(0, .ref oN)] → W p l e rX4_hasCutWire s m args below meth c H locs 0 0 (MQ below (dk_Qi (dC, dI) (dk_ty cI cJ cZ) (wX4 oN aN cI cJ cZ N_first N_second N_isCut N_wireClaim N_knotClaim N_turnSize N_turns N_knots N_wires N_power) out A) args s 0 0 A) (F0 m 27 ls []))) (fun st y hy k1 k2 => tX4_hasCutWire_2 C hK hA hy (fun z e1 => (k1 _ e1).1 z rfl) (fun z e1 => (k1 _ e1).2 z rfl) k2) n st r h ⟨hR, hE⟩
end
set_option maxHeartbeats 4000000 in
set_option maxRecDepth 100000 in
theorem mX4_hasCutWire (l : Launch) (dC : Nat → ClassId) (dI : Nat → Nat → Nat) (cI cJ cZ : ClassId) {oN : Nat} {aN : Nat → Nat} {N_first N_second N_isCut N_wireClaim N_knotClaim N_turnSize N_turns : Nat → Int32} {N_knots N_wires N_power : Int32} {out : Int32} (h : fX4_hasCutWire N_isCut N_wires = some out) (sz : Nat) : Met l yX4_hasCutWire vsX4_hasCutWire rX4_hasCutWire (va_Pc [.ref oN] (dk_Pre (dC, dI) (dk_ty cI cJ cZ) (wX4 oN aN cI cJ cZ N_first N_second N_isCut N_wireClaim N_knotClaim N_turnSize N_turns N_knots N_wires N_power) sz)) (dk_Qi (dC, dI) (dk_ty cI cJ cZ) (wX4 oN aN cI cJ cZ N_first N_second N_isCut N_wireClaim N_knotClaim N_turnSize N_turns N_knots N_wires N_power) out (va_A (wX4 oN aN cI cJ cZ N_first N_second N_isCut N_wireClaim N_knotClaim N_turnSize N_turns N_knots N_wires N_power) sz)) 0 0 (va_A (wX4 oN aN cI cJ cZ N_first N_second N_isCut N_wireClaim N_knotClaim N_turnSize N_turns N_knots N_wires N_power) sz) := by
  refine dk_met (cc := cX4_hasCutWire) (maxL := 2) (ret := (some .boolean)) (Qc := fun A => dk_Qi (dC, dI) (dk_ty cI cJ cZ) (wX4 oN aN cI cJ cZ N_first N_second N_isCut N_wireClaim N_knotClaim N_turnSize N_turns N_knots N_wires N_power) out A) (by decide) rfl (Nat.le_of_ble_eq_true rfl) ?_
  intro p e s m below meth c A C hnm hA hK hP hD hS ls hl
  have C : dk_C p s m meth c _ cX4_hasCutWire (some .boolean) 2 RX4 vsX4_hasCutWire := C
  obtain ⟨hx, hb, hr, hml, hown, hts, hlocks⟩ := id C
  have hl : lv_has ls 2 [(0, .ref oN)] := hl
  unfold fX4_hasCutWire at h
  refine lv_iconst (v := 0) hx hb dX4_hasCutWire_0 (by decide) ?_
  refine lv_istore_n (lv' := [(1, .int 0), (0, .ref oN)]) hx hb dX4_hasCutWire_1 rfl hl (by decide) rfl (fun ls hl => ?_)
  obtain ⟨r_1, hLr_1, h⟩ := dk_bnd_to h
  cases r_1 with
  | inl zz =>
    replace h := dk_sum_l h
    have hz := Option.some.inj h
    exact lX4_hasCutWire_2 C hK hA hLr_1 (fun z1 e1 => by cases e1; exact hz) (fun z1 e1 => by cases e1) _ _ hP hD hS ls (lv_sub hl [1, 0] rfl)
  | inr z_2 =>
    replace h := dk_sum_r h
    refine lX4_hasCutWire_2 C hK hA hLr_1 (fun z1 e1 => by cases e1) (fun z1 e1 => ?_) _ _ hP hD hS ls (lv_sub hl [1, 0] rfl)
    have e2 := Sum.inr.inj e1
    subst e2
    intro H locs hP hD hS ls hl
    refine lv_iconst (v := 0) hx hb dX4_hasCutWire_27 (by decide) ?_
    have e9 := Option.some.inj h
    subst e9
    exact dk_zret C hK hP hD hS (by decide +kernel) rfl dX4_hasCutWire_28
/-! ===== SquareTiler$Net.hangsTogether ===== -/
abbrev rX4_hangsTogether : Room := { frames := 1, cells := 0, slots := 0, locals := 21 }
def ovX4_hangsTogether : List Cond := [Cond.fieldLink RX4 34 "SquareTiler$Net" "knots" "I", Cond.fieldLink RX4 38 "SquareTiler$Net" "wires" "I", Cond.fieldLink RX4 9 "SquareTiler$Net" "first" "[I", Cond.fieldLink RX4 15 "SquareTiler$Net" "second" "[I", Cond.methodLink RX4 54 yX4_isPlain, Cond.instanceMethod yX4_isPlain, Cond.selects RX4 yX4_isPlain yX4_isPlain, Cond.initialized RX4]
def vsX4_hangsTogether : List Cond := .code yX4_hangsTogether cX4_hangsTogether 6 (some .boolean) :: (ovX4_hangsTogether ++ (wsX40 ++ (vsX4_isPlain ++ [])))
theorem qX4_hangsTogether_f34 : Cond.fieldLink RX4 34 "SquareTiler$Net" "knots" "I" ∈ vsX4_hangsTogether := List.mem_cons_of_mem _ (List.mem_append_left _ (List.mem_of_getElem? (i := 0) rfl))
theorem qX4_hangsTogether_f38 : Cond.fieldLink RX4 38 "SquareTiler$Net" "wires" "I" ∈ vsX4_hangsTogether := List.mem_cons_of_mem _ (List.mem_append_left _ (List.mem_of_getElem? (i := 1) rfl))
theorem qX4_hangsTogether_f9 : Cond.fieldLink RX4 9 "SquareTiler$Net" "first" "[I" ∈ vsX4_hangsTogether := List.mem_cons_of_mem _ (List.mem_append_left _ (List.mem_of_getElem? (i := 2) rfl))
theorem qX4_hangsTogether_f15 : Cond.fieldLink RX4 15 "SquareTiler$Net" "second" "[I" ∈ vsX4_hangsTogether := List.mem_cons_of_mem _ (List.mem_append_left _ (List.mem_of_getElem? (i := 3) rfl))
theorem qX4_hangsTogether_w4 : Cond.methodLink RX4 54 yX4_isPlain ∈ vsX4_hangsTogether := List.mem_cons_of_mem _ (List.mem_append_left _ (List.mem_of_getElem? (i := 4) rfl))
theorem qX4_hangsTogether_w5 : Cond.instanceMethod yX4_isPlain ∈ vsX4_hangsTogether := List.mem_cons_of_mem _ (List.mem_append_left _ (List.mem_of_getElem? (i := 5) rfl))
theorem qX4_hangsTogether_w6 : Cond.selects RX4 yX4_isPlain yX4_isPlain ∈ vsX4_hangsTogether := List.mem_cons_of_mem _ (List.mem_append_left _ (List.mem_of_getElem? (i := 6) rfl))
theorem qX4_hangsTogether_w7 : Cond.initialized RX4 ∈ vsX4_hangsTogether := List.mem_cons_of_mem _ (List.mem_append_left _ (List.mem_of_getElem? (i := 7) rfl))
theorem qX4_hangsTogether_X4 : ∀ w ∈ u_ws RX4 TX4 10, w ∈ vsX4_hangsTogether := fun w h => List.mem_cons_of_mem _ (List.mem_append_right _ (List.mem_append_left _ h))
theorem gd_vsX4_hangsTogether : ∀ w ∈ vsX4_hangsTogether, goodWord w = true := dk_cons rfl (dk_app (dk_all (by decide +kernel)) (dk_app gd_wsX40 (dk_app gd_vsX4_isPlain dk_nil)))
theorem gvX4_hangsTogether_X4_isPlain : GoodIn vsX4_hangsTogether (wsV RX4 54 RX4 yX4_isPlain vsX4_isPlain) := goodIn_app (dk_g4 qX4_hangsTogether_w4 qX4_hangsTogether_w5 qX4_hangsTogether_w6 qX4_hangsTogether_w7 rfl) (dk_gIn (fun w h => List.mem_cons_of_mem _ (List.mem_append_right _ (List.mem_append_right _ (List.mem_append_left _ h)))) gd_vsX4_isPlain)
def jX4_hangsTogether_70 (N_first N_second N_isCut : Nat → Int32) (N_knots N_wires N_power x1 x2 x3 x4 : Int32) : Option ((Int32) ⊕ (Int32 × Int32)) := dk_let (x4 + 1) (fun x4_13 => some (.inr (x2, x4_13)))
def jX4_hangsTogether_65 (N_first N_second N_isCut : Nat → Int32) (N_knots N_wires N_power x1 x2 x3 x4 x5 : Int32) : Option ((Int32) ⊕ (Int32 × Int32)) := dk_let ((x2 ||| x5)) (fun x2_14 => jX4_hangsTogether_70 N_first N_second N_isCut N_knots N_wires N_power x1 x2_14 x3 x4)
def bX4_hangsTogether_15 (N_first N_second N_isCut : Nat → Int32) (N_knots N_wires N_power x1 x3 : Int32) (st : Int32 × Int32) : Option ((Int32) ⊕ (Int32 × Int32)) := if N_wires ≤ st.2 then some (.inl st.1) else dk_gd (dk_in st.2 22) (dk_let ((((1 : Int32) <<< ((N_first st.2.toNatClampNeg) &&& 31)) ||| ((1 : Int32) <<< ((N_second st.2.toNatClampNeg) &&& 31)))) (fun x5_8 => if (st.1 &&& x5_8) = 0 then jX4_hangsTogether_70 N_first N_second N_isCut N_knots N_wires N_power x1 st.1 x3 st.2 else dk_bnd (fX4_isPlain N_isCut N_power st.2) (fun r_10 => if r_10 = 0 then if x1 = 0 then jX4_hangsTogether_65 N_first N_second N_isCut N_knots N_wires N_power x1 st.1 x3 st.2 x5_8 else jX4_hangsTogether_70 N_first N_second N_isCut N_knots N_wires N_power x1 st.1 x3 st.2 else jX4_hangsTogether_65 N_first N_second N_isCut N_knots N_wires N_power x1 st.1 x3 st.2 x5_8)))
def bX4_hangsTogether_4 (N_first N_second N_isCut : Nat → Int32) (N_knots N_wires N_power x1 : Int32) (st : Int32 × Int32) : Option ((Int32) ⊕ (Int32 × Int32)) := if N_knots ≤ st.2 then some (.inl st.1) else dk_bnd (dk_loop (bX4_hangsTogether_15 N_first N_second N_isCut N_knots N_wires N_power x1 st.2) 1000 (st.1, 0)) (fun r_4 => dk_let (st.2 + 1) (fun x3_5 => some (.inr (r_4, x3_5))))
def fX4_hangsTogether (N_first N_second N_isCut : Nat → Int32) (N_knots N_wires N_power x1 : Int32) : Option (Int32) := dk_bnd (dk_loop (bX4_hangsTogether_4 N_first N_second N_isCut N_knots N_wires N_power x1) 1000 (1, 0)) (fun r_1 => if r_1 = (((1 : Int32) <<< (N_knots &&& 31)) - 1) then some 1 else some 0)
section
variable {p : Program} {l : Launch} {e : Env} {s : State} {m : MethodId} {args : Array Value} {below : List Frame} {meth : Method} {c : Code} {dC : Nat → ClassId} {dI : Nat → Nat → Nat} {cI cJ cZ : ClassId} {A : Nat → Prop} {oN : Nat} {aN : Nat → Nat} {N_first N_second N_isCut N_wireClaim N_knotClaim N_turnSize N_turns : Nat → Int32} {N_knots N_wires N_power : Int32}
set_option maxHeartbeats 4000000 in
set_option maxRecDepth 100000 in
theorem kX4_hangsTogether_70 (C : dk_C p s m meth c args cX4_hangsTogether (some .boolean) 6 RX4 vsX4_hangsTogether) (hK : va_K (dC, dI) vwCl (dk_ty cI cJ cZ) s) (hA : ∀ q : Nat, s.heap.size ≤ q → A q) {out : Int32} {x1 x2 x3 x4 : Int32} {y : (Int32) ⊕ (Int32 × Int32)} (h : jX4_hangsTogether_70 N_first N_second N_isCut N_knots N_wires N_power x1 x2 x3 x4 = some y) (hE : ∀ z : Int32, y = .inl z → ∀ (H : Heap) (locs : List Loc), va_P (dC, dI) vwCl (wX4 oN aN cI cJ cZ N_first N_second N_isCut N_wireClaim N_knotClaim N_turnSize N_turns N_knots N_wires N_power) H → va_D A (wX4 oN aN cI cJ cZ N_first N_second N_isCut N_wireClaim N_knotClaim N_turnSize N_turns N_knots N_wires N_power) → va_S A s.heap H locs → ∀ ls : Array Slot, lv_has ls 6 [(0, .ref oN), (1, .int x1), (2, .int z), (3, .int x3)] → W p l e rX4_hangsTogether s m args below meth c H locs 0 0 (MQ below (dk_Qi (dC, dI) (dk_ty cI cJ cZ) (wX4 oN aN cI cJ cZ N_first N_second N_isCut N_wireClaim N_knotClaim N_turnSize N_turns N_knots N_wires N_power) out A) args s 0 0 A) (F0 m 76 ls [])) (hC : ∀ z : Int32 × Int32, y = .inr z → ∀ (H : Heap) (locs : List Loc), va_P (dC, dI) vwCl (wX4 oN aN cI cJ cZ N_first N_second N_isCut N_wireClaim N_knotClaim N_turnSize N_turns N_knots N_wires N_power) H → va_D A (wX4 oN aN cI cJ cZ N_first N_second N_isCut N_wireClaim N_knotClaim N_turnSize N_turns N_knots N_wires N_power) → va_S A s.heap H locs → ∀ ls : Array Slot, lv_has ls 6 [(0, .ref oN), (1, .int x1), (2, .int z.1), (3, .int x3), (4, .int z.2)] → W p l e rX4_hangsTogether s m args below meth c H locs 0 0 (MQ below (dk_Qi (dC, dI) (dk_ty cI cJ cZ) (wX4 oN aN cI cJ cZ N_first N_second N_isCut N_wireClaim N_knotClaim N_turnSize N_turns N_knots N_wires N_power) out A) args s 0 0 A) (F0 m 15 ls [])) : ∀ (H : Heap) (locs : List Loc), va_P (dC, dI) vwCl (wX4 oN aN cI cJ cZ N_first N_second N_isCut N_wireClaim N_knotClaim N_turnSize N_turns N_knots N_wires N_power) H → va_D A (wX4 oN aN cI cJ cZ N_first N_second N_isCut N_wireClaim N_knotClaim N_turnSize N_turns N_knots N_wires N_power) → va_S A s.heap H locs → ∀ ls : Array Slot, lv_has ls 6 [(0, .ref oN), (1, .int x1), (2, .int x2), (3, .int x3), (4, .int x4)] → W p l e rX4_hangsTogether s m args below meth c H locs 0 0 (MQ below (dk_Qi (dC, dI) (dk_ty cI cJ cZ) (wX4 oN aN cI cJ cZ N_first N_second N_isCut N_wireClaim N_knotClaim N_turnSize N_turns N_knots N_wires N_power) out A) args s 0 0 A) (F0 m 70 ls []) := by
  obtain ⟨hx, hb, hr, hml, hown, hts, hlocks⟩ := id C
  intro H locs hP hD hS ls hl
  unfold jX4_hangsTogether_70 at h
  obtain ⟨x4_13, ex4_13⟩ : ∃ z : Int32, z = x4 + 1 := ⟨_, rfl⟩
  replace h := dk_let_to ex4_13 h
  refine lv_iinc (v := x4_13) (lv' := [(4, .int x4_13), (0, .ref oN), (1, .int x1), (2, .int x2), (3, .int x3)]) hx hb dX4_hangsTogether_70 hl (k := 4) rfl (by rw [ex4_13]; rfl) (by decide) rfl (fun ls hl => ?_)
  refine lv_goto (tgt := 15) hx hb dX4_hangsTogether_73 (by decide) ?_
  exact hC _ (Option.some.inj h).symm _ _ hP hD hS ls (lv_sub hl [1, 2, 3, 4, 0] rfl)
set_option maxHeartbeats 4000000 in
set_option maxRecDepth 100000 in
theorem kX4_hangsTogether_65 (C : dk_C p s m meth c args cX4_hangsTogether (some .boolean) 6 RX4 vsX4_hangsTogether) (hK : va_K (dC, dI) vwCl (dk_ty cI cJ cZ) s) (hA : ∀ q : Nat, s.heap.size ≤ q → A q) {out : Int32} {x1 x2 x3 x4 x5 : Int32} {y : (Int32) ⊕ (Int32 × Int32)} (h : jX4_hangsTogether_65 N_first N_second N_isCut N_knots N_wires N_power x1 x2 x3 x4 x5 = some y) (hE : ∀ z : Int32, y = .inl z → ∀ (H : Heap) (locs : List Loc), va_P (dC, dI) vwCl (wX4 oN aN cI cJ cZ N_first N_second N_isCut N_wireClaim N_knotClaim N_turnSize N_turns N_knots N_wires N_power) H → va_D A (wX4 oN aN cI cJ cZ N_first N_second N_isCut N_wireClaim N_knotClaim N_turnSize N_turns N_knots N_wires N_power) → va_S A s.heap H locs → ∀ ls : Array Slot, lv_has ls 6 [(0, .ref oN), (1, .int x1), (2, .int z), (3, .int x3)] → W p l e rX4_hangsTogether s m args below meth c H locs 0 0 (MQ below (dk_Qi (dC, dI) (dk_ty cI cJ cZ) (wX4 oN aN cI cJ cZ N_first N_second N_isCut N_wireClaim N_knotClaim N_turnSize N_turns N_knots N_wires N_power) out A) args s 0 0 A) (F0 m 76 ls [])) (hC : ∀ z : Int32 × Int32, y = .inr z → ∀ (H : Heap) (locs : List Loc), va_P (dC, dI) vwCl (wX4 oN aN cI cJ cZ N_first N_second N_isCut N_wireClaim N_knotClaim N_turnSize N_turns N_knots N_wires N_power) H → va_D A (wX4 oN aN cI cJ cZ N_first N_second N_isCut N_wireClaim N_knotClaim N_turnSize N_turns N_knots N_wires N_power) → va_S A s.heap H locs → ∀ ls : Array Slot, lv_has ls 6 [(0, .ref oN), (1, .int x1), (2, .int z.1), (3, .int x3), (4, .int z.2)] → W p l e rX4_hangsTogether s m args below meth c H locs 0 0 (MQ below (dk_Qi (dC, dI) (dk_ty cI cJ cZ) (wX4 oN aN cI cJ cZ N_first N_second N_isCut N_wireClaim N_knotClaim N_turnSize N_turns N_knots N_wires N_power) out A) args s 0 0 A) (F0 m 15 ls [])) : ∀ (H : Heap) (locs : List Loc), va_P (dC, dI) vwCl (wX4 oN aN cI cJ cZ N_first N_second N_isCut N_wireClaim N_knotClaim N_turnSize N_turns N_knots N_wires N_power) H → va_D A (wX4 oN aN cI cJ cZ N_first N_second N_isCut N_wireClaim N_knotClaim N_turnSize N_turns N_knots N_wires N_power) → va_S A s.heap H locs → ∀ ls : Array Slot, lv_has ls 6 [(0, .ref oN), (1, .int x1), (2, .int x2), (3, .int x3), (4, .int x4), (5, .int x5)] → W p l e rX4_hangsTogether s m args below meth c H locs 0 0 (MQ below (dk_Qi (dC, dI) (dk_ty cI cJ cZ) (wX4 oN aN cI cJ cZ N_first N_second N_isCut N_wireClaim N_knotClaim N_turnSize N_turns N_knots N_wires N_power) out A) args s 0 0 A) (F0 m 65 ls []) := by
  obtain ⟨hx, hb, hr, hml, hown, hts, hlocks⟩ := id C
  intro H locs hP hD hS ls hl
  unfold jX4_hangsTogether_65 at h
  refine lv_iload_n hx hb dX4_hangsTogether_65 rfl (lv_at hl 2 rfl) ?_
  refine lv_iload hx hb dX4_hangsTogether_66 (lv_at hl 5 rfl) ?_
  refine lv_ior hx hb dX4_hangsTogether_68 ?_
  refine lv_topi (fun x2_14 ex2_14 => ?_)
  replace h := dk_let_to ex2_14 h
  refine lv_istore_n (lv' := [(2, .int x2_14), (0, .ref oN), (1, .int x1), (3, .int x3), (4, .int x4), (5, .int x5)]) hx hb dX4_hangsTogether_69 rfl hl (by decide) rfl (fun ls hl => ?_)
  exact kX4_hangsTogether_70 C hK hA h hE hC _ _ hP hD hS ls (lv_sub hl [1, 2, 0, 3, 4] rfl)
set_option maxHeartbeats 4000000 in
set_option maxRecDepth 100000 in
theorem tX4_hangsTogether_15 (C : dk_C p s m meth c args cX4_hangsTogether (some .boolean) 6 RX4 vsX4_hangsTogether) (hK : va_K (dC, dI) vwCl (dk_ty cI cJ cZ) s) (hA : ∀ q : Nat, s.heap.size ≤ q → A q) {out : Int32} {x1 x3 : Int32} {st : Int32 × Int32} {y : (Int32) ⊕ (Int32 × Int32)} (h : bX4_hangsTogether_15 N_first N_second N_isCut N_knots N_wires N_power x1 x3 st = some y) (hE : ∀ z : Int32, y = .inl z → ∀ (H : Heap) (locs : List Loc), va_P (dC, dI) vwCl (wX4 oN aN cI cJ cZ N_first N_second N_isCut N_wireClaim N_knotClaim N_turnSize N_turns N_knots N_wires N_power) H → va_D A (wX4 oN aN cI cJ cZ N_first N_second N_isCut N_wireClaim N_knotClaim N_turnSize N_turns N_knots N_wires N_power) → va_S A s.heap H locs → ∀ ls : Array Slot, lv_has ls 6 [(0, .ref oN), (1, .int x1), (2, .int z), (3, .int x3)] → W p l e rX4_hangsTogether s m args below meth c H locs 0 0 (MQ below (dk_Qi (dC, dI) (dk_ty cI cJ cZ) (wX4 oN aN cI cJ cZ N_first N_second N_isCut N_wireClaim N_knotClaim N_turnSize N_turns N_knots N_wires N_power) out A) args s 0 0 A) (F0 m 76 ls [])) (hC : ∀ z : Int32 × Int32, y = .inr z → ∀ (H : Heap) (locs : List Loc), va_P (dC, dI) vwCl (wX4 oN aN cI cJ cZ N_first N_second N_isCut N_wireClaim N_knotClaim N_turnSize N_turns N_knots N_wires N_power) H → va_D A (wX4 oN aN cI cJ cZ N_first N_second N_isCut N_wireClaim N_knotClaim N_turnSize N_turns N_knots N_wires N_power) → va_S A s.heap H locs → ∀ ls : Array Slot, lv_has ls 6 [(0, .ref oN), (1, .int x1), (2, .int z.1), (3, .int x3), (4, .int z.2)] → W p l e rX4_hangsTogether s m args below meth c H locs 0 0 (MQ below (dk_Qi (dC, dI) (dk_ty cI cJ cZ) (wX4 oN aN cI cJ cZ N_first N_second N_isCut N_wireClaim N_knotClaim N_turnSize N_turns N_knots N_wires N_power) out A) args s 0 0 A) (F0 m 15 ls [])) : ∀ (H : Heap) (locs : List Loc), va_P (dC, dI) vwCl (wX4 oN aN cI cJ cZ N_first N_second N_isCut N_wireClaim N_knotClaim N_turnSize N_turns N_knots N_wires N_power) H → va_D A (wX4 oN aN cI cJ cZ N_first N_second N_isCut N_wireClaim N_knotClaim N_turnSize N_turns N_knots N_wires N_power) → va_S A s.heap H locs → ∀ ls : Array Slot, lv_has ls 6 [(0, .ref oN), (1, .int x1), (2, .int st.1), (3, .int x3), (4, .int st.2)] → W p l e rX4_hangsTogether s m args below meth c H locs 0 0 (MQ below (dk_Qi (dC, dI) (dk_ty cI cJ cZ) (wX4 oN aN cI cJ cZ N_first N_second N_isCut N_wireClaim N_knotClaim N_turnSize N_turns N_knots N_wires N_power) out A) args s 0 0 A) (F0 m 15 ls []) := by
  obtain ⟨hx, hb, hr, hml, hown, hts, hlocks⟩ := id C
  intro H locs hP hD hS ls hl
  unfold bX4_hangsTogether_15 at h
  refine lv_iload hx hb dX4_hangsTogether_15 (lv_at hl 4 rfl) ?_
  refine lv_aload_n hx hb dX4_hangsTogether_17 rfl (lv_at hl 0 rfl) ?_
  refine va_get (D := (dC, dI)) (ci := 4) (v := .int N_wires) (C := RX4) (T := TX4) (N := 10) hx hb hts qX4_hangsTogether_X4 hown hK hP 0 rfl rfl 8 (by decide) (hts _ qX4_hangsTogether_f38) (fun _ h9 => h9) rfl dX4_hangsTogether_18 ?_
  refine lv_icmp_ge (tgt := 76) hx hb dX4_hangsTogether_21 (by decide) (fun c_6 => ?_) (fun c_6 => ?_)
  · replace h := dk_it c_6 h
    exact hE _ (Option.some.inj h).symm _ _ hP hD hS ls (lv_sub hl [0, 1, 2, 3] rfl)
  · replace h := dk_ie c_6 h
    refine lv_iconst (v := 1) hx hb dX4_hangsTogether_24 (by decide) ?_
    refine lv_aload_n hx hb dX4_hangsTogether_25 rfl (lv_at hl 0 rfl) ?_
    refine va_get (D := (dC, dI)) (ci := 4) (v := .ref (aN 0)) (C := RX4) (T := TX4) (N := 10) hx hb hts qX4_hangsTogether_X4 hown hK hP 0 rfl rfl 0 (by decide) (hts _ qX4_hangsTogether_f9) (fun _ h9 => h9) rfl dX4_hangsTogether_26 ?_
    refine lv_iload hx hb dX4_hangsTogether_29 (lv_at hl 4 rfl) ?_
    obtain ⟨g_7, h⟩ := dk_gd_to h
    have g_7 := dk_in_to g_7
    refine va_iald hx hb hK hP 1 0 rfl rfl g_7 dX4_hangsTogether_31 ?_
    refine lv_ishl hx hb dX4_hangsTogether_32 ?_
    refine lv_iconst (v := 1) hx hb dX4_hangsTogether_33 (by decide) ?_
    refine lv_aload_n hx hb dX4_hangsTogether_34 rfl (lv_at hl 0 rfl) ?_
    refine va_get (D := (dC, dI)) (ci := 4) (v := .ref (aN 1)) (C := RX4) (T := TX4) (N := 10) hx hb hts qX4_hangsTogether_X4 hown hK hP 0 rfl rfl 1 (by decide) (hts _ qX4_hangsTogether_f15) (fun _ h9 => h9) rfl dX4_hangsTogether_35 ?_
    refine lv_iload hx hb dX4_hangsTogether_38 (lv_at hl 4 rfl) ?_
    refine va_iald hx hb hK hP 2 0 rfl rfl g_7 dX4_hangsTogether_40 ?_
    refine lv_ishl hx hb dX4_hangsTogether_41 ?_
    refine lv_ior hx hb dX4_hangsTogether_42 ?_
    refine lv_topi (fun x5_8 ex5_8 => ?_)
    replace h := dk_let_to ex5_8 h
    refine lv_istore (lv' := [(5, .int x5_8), (0, .ref oN), (1, .int x1), (2, .int st.1), (3, .int x3), (4, .int st.2)]) hx hb dX4_hangsTogether_43 hl (by decide) rfl (fun ls hl => ?_)
    refine lv_iload_n hx hb dX4_hangsTogether_45 rfl (lv_at hl 3 rfl) ?_
    refine lv_iload hx hb dX4_hangsTogether_46 (lv_at hl 0 rfl) ?_
    refine lv_iand hx hb dX4_hangsTogether_48 ?_
    refine lv_if_eq (tgt := 70) hx hb dX4_hangsTogether_49 (by decide) (fun c_9 => ?_) (fun c_9 => ?_)
    · replace h := dk_it c_9 h
      exact kX4_hangsTogether_70 C hK hA h hE hC _ _ hP hD hS ls (lv_sub hl [1, 2, 3, 4, 5] rfl)
    · replace h := dk_ie c_9 h
      refine lv_aload_n hx hb dX4_hangsTogether_52 rfl (lv_at hl 1 rfl) ?_
      refine lv_iload hx hb dX4_hangsTogether_53 (lv_at hl 5 rfl) ?_
      obtain ⟨r_10, hcr_10, h⟩ := dk_bnd_to h
      refine dk_rVi (b := oN) (As := [.int st.2]) (rest := []) (wc := (wX4 oN aN cI cJ cZ N_first N_second N_isCut N_wireClaim N_knotClaim N_turnSize N_turns N_knots N_wires N_power)) C hK hP hD hS hA (mX4_isPlain l dC dI cI cJ cZ hcr_10 _) (cwV 1 hts gvX4_hangsTogether_X4_isPlain rfl rfl rfl (by decide +kernel) ⟨Nat.le_of_ble_eq_true rfl, Nat.le_of_ble_eq_true rfl⟩) [0, 1, 2, 3, 4, 5, 6, 7] rfl (by decide) 0 4 rfl rfl rfl hl.1 rfl (Nat.le_of_ble_eq_true rfl) ⟨Nat.le_of_ble_eq_true rfl, Nat.le_of_ble_eq_true rfl⟩ dX4_hangsTogether_55 (fun H locs hP hD hS => ?_)
      refine lv_if_ne (tgt := 65) hx hb dX4_hangsTogether_58 (by decide) (fun c_11 => ?_) (fun c_11 => ?_)
      · replace h := dk_ie c_11 h
        exact kX4_hangsTogether_65 C hK hA h hE hC _ _ hP hD hS ls (lv_sub hl [1, 2, 3, 4, 5, 0] rfl)
      · replace h := dk_it c_11 h
        refine lv_iload_n hx hb dX4_hangsTogether_61 rfl (lv_at hl 2 rfl) ?_
        refine lv_if_ne (tgt := 70) hx hb dX4_hangsTogether_62 (by decide) (fun c_12 => ?_) (fun c_12 => ?_)
        · replace h := dk_ie c_12 h
          exact kX4_hangsTogether_70 C hK hA h hE hC _ _ hP hD hS ls (lv_sub hl [1, 2, 3, 4, 5] rfl)
        · replace h := dk_it c_12 h
          exact kX4_hangsTogether_65 C hK hA h hE hC _ _ hP hD hS ls (lv_sub hl [1, 2, 3, 4, 5, 0] rfl)
set_option maxHeartbeats 4000000 in
set_option maxRecDepth 100000 in
theorem lX4_hangsTogether_15 (C : dk_C p s m meth c args cX4_hangsTogether (some .boolean) 6 RX4 vsX4_hangsTogether) (hK : va_K (dC, dI) vwCl (dk_ty cI cJ cZ) s) (hA : ∀ q : Nat, s.heap.size ≤ q → A q) {out : Int32} {x1 x3 : Int32} {n : Nat} {st : Int32 × Int32} {r : Int32} (h : dk_loop (bX4_hangsTogether_15 N_first N_second N_isCut N_knots N_wires N_power x1 x3) n st = some r) (hE : ∀ (H : Heap) (locs : List Loc), va_P (dC, dI) vwCl (wX4 oN aN cI cJ cZ N_first N_second N_isCut N_wireClaim N_knotClaim N_turnSize N_turns N_knots N_wires N_power) H → va_D A (wX4 oN aN cI cJ cZ N_first N_second N_isCut N_wireClaim N_knotClaim N_turnSize N_turns N_knots N_wires N_power) → va_S A s.heap H locs → ∀ ls : Array Slot, lv_has ls 6 [(0, .ref oN), (1, .int x1), (2, .int r), (3, .int x3)] → W p l e rX4_hangsTogether s m args below meth c H locs 0 0 (MQ below (dk_Qi (dC, dI) (dk_ty cI cJ cZ) (wX4 oN aN cI cJ cZ N_first N_second N_isCut N_wireClaim N_knotClaim N_turnSize N_turns N_knots N_wires N_power) out A) args s 0 0 A) (F0 m 76 ls [])) : ∀ (H : Heap) (locs : List Loc), va_P (dC, dI) vwCl (wX4 oN aN cI cJ cZ N_first N_second N_isCut N_wireClaim N_knotClaim N_turnSize N_turns N_knots N_wires N_power) H → va_D A (wX4 oN aN cI cJ cZ N_first N_second N_isCut N_wireClaim N_knotClaim N_turnSize N_turns N_knots N_wires N_power) → va_S A s.heap H locs → ∀ ls : Array Slot, lv_has ls 6 [(0, .ref oN), (1, .int x1), (2, .int st.1), (3, .int x3), (4, .int st.2)] → W p l e rX4_hangsTogether s m args below meth c H locs 0 0 (MQ below (dk_Qi (dC, dI) (dk_ty cI cJ cZ) (wX4 oN aN cI cJ cZ N_first N_second N_isCut N_wireClaim N_knotClaim N_turnSize N_turns N_knots N_wires N_power) out A) args s 0 0 A) (F0 m 15 ls []) :=
  dk_loopW (P := fun st => ∀ (H : Heap) (locs : List Loc), va_P (dC, dI) vwCl (wX4 oN aN cI cJ cZ N_first N_second N_isCut N_wireClaim N_knotClaim N_turnSize N_turns N_knots N_wires N_power) H → va_D A (wX4 oN aN cI cJ cZ N_first N_second N_isCut N_wireClaim N_knotClaim N_turnSize N_turns N_knots N_wires N_power) → va_S A s.heap H locs → ∀ ls : Array Slot, lv_has ls 6 [(0, .ref oN), (1, .int x1), (2, .int st.1), (3, .int x3), (4, .int st.2)] → W p l e rX4_hangsTogether s m args below meth c H locs 0 0 (MQ below (dk_Qi (dC, dI) (dk_ty cI cJ cZ) (wX4 oN aN cI cJ cZ N_first N_second N_isCut N_wireClaim N_knotClaim N_turnSize N_turns N_knots N_wires N_power) out A) args s 0 0 A) (F0 m 15 ls [])) (K := fun r => ∀ (H : Heap) (locs : List Loc), va_P (dC, dI) vwCl (wX4 oN aN cI cJ cZ N_first N_second N_isCut N_wireClaim N_knotClaim N_turnSize N_turns N_knots N_wires N_power) H → va_D A (wX4 oN aN cI cJ cZ N_first N_second N_isCut N_wireClaim N_knotClaim N_turnSize N_turns N_knots N_wires N_power) → va_S A s.heap H locs → ∀ ls : Array Slot, lv_has ls 6 [(0, .ref oN), (1, .int x1), (2, .int r), (3, .int x3)] → W p l e rX4_hangsTogether s m args below meth c H locs 0 0 (MQ below (dk_Qi (dC, dI) (dk_ty cI cJ cZ) (wX4 oN aN cI cJ cZ N_first N_second N_isCut N_wireClaim N_knotClaim N_turnSize N_turns N_knots N_wires N_power) out A) args s 0 0 A) (F0 m 76 ls [])) (fun st y hy k1 k2 => tX4_hangsTogether_15 C hK hA hy k1 k2) n st r h hE
set_option maxHeartbeats 4000000 in
set_option maxRecDepth 100000 in
theorem tX4_hangsTogether_4 (C : dk_C p s m meth c args cX4_hangsTogether (some .boolean) 6 RX4 vsX4_hangsTogether) (hK : va_K (dC, dI) vwCl (dk_ty cI cJ cZ) s) (hA : ∀ q : Nat, s.heap.size ≤ q → A q) {out : Int32} {x1 : Int32} {st : Int32 × Int32} {y : (Int32) ⊕ (Int32 × Int32)} (h : bX4_hangsTogether_4 N_first N_second N_isCut N_knots N_wires N_power x1 st = some y) (hE : ∀ z : Int32, y = .inl z → ∀ (H : Heap) (locs : List Loc), va_P (dC, dI) vwCl (wX4 oN aN cI cJ cZ N_first N_second N_isCut N_wireClaim N_knotClaim N_turnSize N_turns N_knots N_wires N_power) H → va_D A (wX4 oN aN cI cJ cZ N_first N_second N_isCut N_wireClaim N_knotClaim N_turnSize N_turns N_knots N_wires N_power) → va_S A s.heap H locs → ∀ ls : Array Slot, lv_has ls 6 [(0, .ref oN), (2, .int z)] → W p l e rX4_hangsTogether s m args below meth c H locs 0 0 (MQ below (dk_Qi (dC, dI) (dk_ty cI cJ cZ) (wX4 oN aN cI cJ cZ N_first N_second N_isCut N_wireClaim N_knotClaim N_turnSize N_turns N_knots N_wires N_power) out A) args s 0 0 A) (F0 m 82 ls [])) (hC : ∀ z : Int32 × Int32, y = .inr z → ∀ (H : Heap) (locs : List Loc), va_P (dC, dI) vwCl (wX4 oN aN cI cJ cZ N_first N_second N_isCut N_wireClaim N_knotClaim N_turnSize N_turns N_knots N_wires N_power) H → va_D A (wX4 oN aN cI cJ cZ N_first N_second N_isCut N_wireClaim N_knotClaim N_turnSize N_turns N_knots N_wires N_power) → va_S A s.heap H locs → ∀ ls : Array Slot, lv_has ls 6 [(0, .ref oN), (1, .int x1), (2, .int z.1), (3, .int z.2)] → W p l e rX4_hangsTogether s m args below meth c H locs 0 0 (MQ below (dk_Qi (dC, dI) (dk_ty cI cJ cZ) (wX4 oN aN cI cJ cZ N_first N_second N_isCut N_wireClaim N_knotClaim N_turnSize N_turns N_knots N_wires N_power) out A) args s 0 0 A) (F0 m 4 ls [])) : ∀ (H : Heap) (locs : List Loc), va_P (dC, dI) vwCl (wX4 oN aN cI cJ cZ N_first N_second N_isCut N_wireClaim N_knotClaim N_turnSize N_turns N_knots N_wires N_power) H → va_D A (wX4 oN aN cI cJ cZ N_first N_second N_isCut N_wireClaim N_knotClaim N_turnSize N_turns N_knots N_wires N_power) → va_S A s.heap H locs → ∀ ls : Array Slot, lv_has ls 6 [(0, .ref oN), (1, .int x1), (2, .int st.1), (3, .int st.2)] → W p l e rX4_hangsTogether s m args below meth c H locs 0 0 (MQ below (dk_Qi (dC, dI) (dk_ty cI cJ cZ) (wX4 oN aN cI cJ cZ N_first N_second N_isCut N_wireClaim N_knotClaim N_turnSize N_turns N_knots N_wires N_power) out A) args s 0 0 A) (F0 m 4 ls []) := by
  obtain ⟨hx, hb, hr, hml, hown, hts, hlocks⟩ := id C
  intro H locs hP hD hS ls hl
  unfold bX4_hangsTogether_4 at h
  refine lv_iload_n hx hb dX4_hangsTogether_4 rfl (lv_at hl 3 rfl) ?_
  refine lv_aload_n hx hb dX4_hangsTogether_5 rfl (lv_at hl 0 rfl) ?_
  refine va_get (D := (dC, dI)) (ci := 4) (v := .int N_knots) (C := RX4) (T := TX4) (N := 10) hx hb hts qX4_hangsTogether_X4 hown hK hP 0 rfl rfl 7 (by decide) (hts _ qX4_hangsTogether_f34) (fun _ h9 => h9) rfl dX4_hangsTogether_6 ?_
  refine lv_icmp_ge (tgt := 82) hx hb dX4_hangsTogether_9 (by decide) (fun c_3 => ?_) (fun c_3 => ?_)
  · replace h := dk_it c_3 h
    exact hE _ (Option.some.inj h).symm _ _ hP hD hS ls (lv_sub hl [0, 2] rfl)
  · replace h := dk_ie c_3 h
    refine lv_iconst (v := 0) hx hb dX4_hangsTogether_12 (by decide) ?_
    refine lv_istore (lv' := [(4, .int 0), (0, .ref oN), (1, .int x1), (2, .int st.1), (3, .int st.2)]) hx hb dX4_hangsTogether_13 hl (by decide) rfl (fun ls hl => ?_)
    obtain ⟨r_4, hLr_4, h⟩ := dk_bnd_to h
    refine lX4_hangsTogether_15 C hK hA hLr_4 (fun H locs hP hD hS ls hl => ?_) _ _ hP hD hS ls (lv_sub hl [1, 2, 3, 4, 0] rfl)
    obtain ⟨x3_5, ex3_5⟩ : ∃ z : Int32, z = st.2 + 1 := ⟨_, rfl⟩
    replace h := dk_let_to ex3_5 h
    refine lv_iinc (v := x3_5) (lv' := [(3, .int x3_5), (0, .ref oN), (1, .int x1), (2, .int r_4)]) hx hb dX4_hangsTogether_76 hl (k := 3) rfl (by rw [ex3_5]; rfl) (by decide) rfl (fun ls hl => ?_)
    refine lv_goto (tgt := 4) hx hb dX4_hangsTogether_79 (by decide) ?_
    exact hC _ (Option.some.inj h).symm _ _ hP hD hS ls (lv_sub hl [1, 2, 3, 0] rfl)
set_option maxHeartbeats 4000000 in
set_option maxRecDepth 100000 in
theorem lX4_hangsTogether_4 (C : dk_C p s m meth c args cX4_hangsTogether (some .boolean) 6 RX4 vsX4_hangsTogether) (hK : va_K (dC, dI) vwCl (dk_ty cI cJ cZ) s) (hA : ∀ q : Nat, s.heap.size ≤ q → A q) {out : Int32} {x1 : Int32} {n : Nat} {st : Int32 × Int32} {r : Int32} (h : dk_loop (bX4_hangsTogether_4 N_first N_second N_isCut N_knots N_wires N_power x1) n st = some r) (hE : ∀ (H : Heap) (locs : List Loc), va_P (dC, dI) vwCl (wX4 oN aN cI cJ cZ N_first N_second N_isCut N_wireClaim N_knotClaim N_turnSize N_turns N_knots N_wires N_power) H → va_D A (wX4 oN aN cI cJ cZ N_first N_second N_isCut N_wireClaim N_knotClaim N_turnSize N_turns N_knots N_wires N_power) → va_S A s.heap H locs → ∀ ls : Array Slot, lv_has ls 6 [(0, .ref oN), (2, .int r)] → W p l e rX4_hangsTogether s m args below meth c H locs 0 0 (MQ below (dk_Qi (dC, dI) (dk_ty cI cJ cZ) (wX4 oN aN cI cJ cZ N_first N_second N_isCut N_wireClaim N_knotClaim N_turnSize N_turns N_knots N_wires N_power) out A) args s 0 0 A) (F0 m 82 ls [])) : ∀ (H : Heap) (locs : List Loc), va_P (dC, dI) vwCl (wX4 oN aN cI cJ cZ N_first N_second N_isCut N_wireClaim N_knotClaim N_turnSize N_turns N_knots N_wires N_power) H → va_D A (wX4 oN aN cI cJ cZ N_first N_second N_isCut N_wireClaim N_knotClaim N_turnSize N_turns N_knots N_wires N_power) → va_S A s.heap H locs → ∀ ls : Array Slot, lv_has ls 6 [(0, .ref oN), (1, .int x1), (2, .int st.1), (3, .int st.2)] → W p l e rX4_hangsTogether s m args below meth c H locs 0 0 (MQ below (dk_Qi (dC, dI) (dk_ty cI cJ cZ) (wX4 oN aN cI cJ cZ N_first N_second N_isCut N_wireClaim N_knotClaim N_turnSize N_turns N_knots N_wires N_power) out A) args s 0 0 A) (F0 m 4 ls []) :=
  dk_loopW (P := fun st => ∀ (H : Heap) (locs : List Loc), va_P (dC, dI) vwCl (wX4 oN aN cI cJ cZ N_first N_second N_isCut N_wireClaim N_knotClaim N_turnSize N_turns N_knots N_wires N_power) H → va_D A (wX4 oN aN cI cJ cZ N_first N_second N_isCut N_wireClaim N_knotClaim N_turnSize N_turns N_knots N_wires N_power) → va_S A s.heap H locs → ∀ ls : Array Slot, lv_has ls 6 [(0, .ref oN), (1, .int x1), (2, .int st.1), (3, .int st.2)] → W p l e rX4_hangsTogether s m args below meth c H locs 0 0 (MQ below (dk_Qi (dC, dI) (dk_ty cI cJ cZ) (wX4 oN aN cI cJ cZ N_first N_second N_isCut N_wireClaim N_knotClaim N_turnSize N_turns N_knots N_wires N_power) out A) args s 0 0 A) (F0 m 4 ls [])) (K := fun r => ∀ (H : Heap) (locs : List Loc), va_P (dC, dI) vwCl (wX4 oN aN cI cJ cZ N_first N_second N_isCut N_wireClaim N_knotClaim N_turnSize N_turns N_knots N_wires N_power) H → va_D A (wX4 oN aN cI cJ cZ N_first N_second N_isCut N_wireClaim N_knotClaim N_turnSize N_turns N_knots N_wires N_power) → va_S A s.heap H locs → ∀ ls : Array Slot, lv_has ls 6 [(0, .ref oN), (2, .int r)] → W p l e rX4_hangsTogether s m args below meth c H locs 0 0 (MQ below (dk_Qi (dC, dI) (dk_ty cI cJ cZ) (wX4 oN aN cI cJ cZ N_first N_second N_isCut N_wireClaim N_knotClaim N_turnSize N_turns N_knots N_wires N_power) out A) args s 0 0 A) (F0 m 82 ls [])) (fun st y hy k1 k2 => tX4_hangsTogether_4 C hK hA hy k1 k2) n st r h hE
end
set_option maxHeartbeats 4000000 in
set_option maxRecDepth 100000 in
theorem mX4_hangsTogether (l : Launch) (dC : Nat → ClassId) (dI : Nat → Nat → Nat) (cI cJ cZ : ClassId) {oN : Nat} {aN : Nat → Nat} {N_first N_second N_isCut N_wireClaim N_knotClaim N_turnSize N_turns : Nat → Int32} {N_knots N_wires N_power : Int32} {x1 : Int32} {out : Int32} (h : fX4_hangsTogether N_first N_second N_isCut N_knots N_wires N_power x1 = some out) (sz : Nat) : Met l yX4_hangsTogether vsX4_hangsTogether rX4_hangsTogether (va_Pc [.ref oN, .int x1] (dk_Pre (dC, dI) (dk_ty cI cJ cZ) (wX4 oN aN cI cJ cZ N_first N_second N_isCut N_wireClaim N_knotClaim N_turnSize N_turns N_knots N_wires N_power) sz)) (dk_Qi (dC, dI) (dk_ty cI cJ cZ) (wX4 oN aN cI cJ cZ N_first N_second N_isCut N_wireClaim N_knotClaim N_turnSize N_turns N_knots N_wires N_power) out (va_A (wX4 oN aN cI cJ cZ N_first N_second N_isCut N_wireClaim N_knotClaim N_turnSize N_turns N_knots N_wires N_power) sz)) 0 0 (va_A (wX4 oN aN cI cJ cZ N_first N_second N_isCut N_wireClaim N_knotClaim N_turnSize N_turns N_knots N_wires N_power) sz) := by
  refine dk_met (cc := cX4_hangsTogether) (maxL := 6) (ret := (some .boolean)) (Qc := fun A => dk_Qi (dC, dI) (dk_ty cI cJ cZ) (wX4 oN aN cI cJ cZ N_first N_second N_isCut N_wireClaim N_knotClaim N_turnSize N_turns N_knots N_wires N_power) out A) (by decide) rfl (Nat.le_of_ble_eq_true rfl) ?_
  intro p e s m below meth c A C hnm hA hK hP hD hS ls hl
  have C : dk_C p s m meth c _ cX4_hangsTogether (some .boolean) 6 RX4 vsX4_hangsTogether := C
  obtain ⟨hx, hb, hr, hml, hown, hts, hlocks⟩ := id C
  have hl : lv_has ls 6 [(0, .ref oN), (1, .int x1)] := hl
  unfold fX4_hangsTogether at h
  refine lv_iconst (v := 1) hx hb dX4_hangsTogether_0 (by decide) ?_
  refine lv_istore_n (lv' := [(2, .int 1), (0, .ref oN), (1, .int x1)]) hx hb dX4_hangsTogether_1 rfl hl (by decide) rfl (fun ls hl => ?_)
  refine lv_iconst (v := 0) hx hb dX4_hangsTogether_2 (by decide) ?_
  refine lv_istore_n (lv' := [(3, .int 0), (2, .int 1), (0, .ref oN), (1, .int x1)]) hx hb dX4_hangsTogether_3 rfl hl (by decide) rfl (fun ls hl => ?_)
  obtain ⟨r_1, hLr_1, h⟩ := dk_bnd_to h
  refine lX4_hangsTogether_4 C hK hA hLr_1 (fun H locs hP hD hS ls hl => ?_) _ _ hP hD hS ls (lv_sub hl [2, 3, 1, 0] rfl)
  refine lv_iload_n hx hb dX4_hangsTogether_82 rfl (lv_at hl 1 rfl) ?_
  refine lv_iconst (v := 1) hx hb dX4_hangsTogether_83 (by decide) ?_
  refine lv_aload_n hx hb dX4_hangsTogether_84 rfl (lv_at hl 0 rfl) ?_
  refine va_get (D := (dC, dI)) (ci := 4) (v := .int N_knots) (C := RX4) (T := TX4) (N := 10) hx hb hts qX4_hangsTogether_X4 hown hK hP 0 rfl rfl 7 (by decide) (hts _ qX4_hangsTogether_f34) (fun _ h9 => h9) rfl dX4_hangsTogether_85 ?_
  refine lv_ishl hx hb dX4_hangsTogether_88 ?_
  refine lv_iconst (v := 1) hx hb dX4_hangsTogether_89 (by decide) ?_
  refine lv_isub hx hb dX4_hangsTogether_90 ?_
  refine lv_icmp_ne (tgt := 98) hx hb dX4_hangsTogether_91 (by decide) (fun c_2 => ?_) (fun c_2 => ?_)
  · replace h := dk_ie c_2 h
    refine lv_iconst (v := 0) hx hb dX4_hangsTogether_98 (by decide) ?_
    have e9 := Option.some.inj h
    subst e9
    exact dk_zret C hK hP hD hS (by decide +kernel) rfl dX4_hangsTogether_99
  · replace h := dk_it c_2 h
    refine lv_iconst (v := 1) hx hb dX4_hangsTogether_94 (by decide) ?_
    refine lv_goto (tgt := 99) hx hb dX4_hangsTogether_95 (by decide) ?_
    have e9 := Option.some.inj h
    subst e9
    exact dk_zret C hK hP hD hS (by decide +kernel) rfl dX4_hangsTogether_99
/-! ===== SquareTiler$Net.wireClaimedWrong ===== -/
abbrev rX4_wireClaimedWrong : Room := { frames := 1, cells := 0, slots := 0, locals := 21 }
def ovX4_wireClaimedWrong : List Cond := [Cond.fieldLink RX4 38 "SquareTiler$Net" "wires" "I", Cond.fieldLink RX4 25 "SquareTiler$Net" "knotClaim" "[I", Cond.fieldLink RX4 9 "SquareTiler$Net" "first" "[I", Cond.fieldLink RX4 15 "SquareTiler$Net" "second" "[I", Cond.fieldLink RX4 22 "SquareTiler$Net" "wireClaim" "[I", Cond.methodLink RX4 54 yX4_isPlain, Cond.instanceMethod yX4_isPlain, Cond.selects RX4 yX4_isPlain yX4_isPlain, Cond.initialized RX4]
def vsX4_wireClaimedWrong : List Cond := .code yX4_wireClaimedWrong cX4_wireClaimedWrong 4 (some .int) :: (ovX4_wireClaimedWrong ++ (wsX40 ++ (vsX4_isPlain ++ [])))
theorem qX4_wireClaimedWrong_f38 : Cond.fieldLink RX4 38 "SquareTiler$Net" "wires" "I" ∈ vsX4_wireClaimedWrong := List.mem_cons_of_mem _ (List.mem_append_left _ (List.mem_of_getElem? (i := 0) rfl))
theorem qX4_wireClaimedWrong_f25 : Cond.fieldLink RX4 25 "SquareTiler$Net" "knotClaim" "[I" ∈ vsX4_wireClaimedWrong := List.mem_cons_of_mem _ (List.mem_append_left _ (List.mem_of_getElem? (i := 1) rfl))
theorem qX4_wireClaimedWrong_f9 : Cond.fieldLink RX4 9 "SquareTiler$Net" "first" "[I" ∈ vsX4_wireClaimedWrong := List.mem_cons_of_mem _ (List.mem_append_left _ (List.mem_of_getElem? (i := 2) rfl))
theorem qX4_wireClaimedWrong_f15 : Cond.fieldLink RX4 15 "SquareTiler$Net" "second" "[I" ∈ vsX4_wireClaimedWrong := List.mem_cons_of_mem _ (List.mem_append_left _ (List.mem_of_getElem? (i := 3) rfl))
theorem qX4_wireClaimedWrong_f22 : Cond.fieldLink RX4 22 "SquareTiler$Net" "wireClaim" "[I" ∈ vsX4_wireClaimedWrong := List.mem_cons_of_mem _ (List.mem_append_left _ (List.mem_of_getElem? (i := 4) rfl))
theorem qX4_wireClaimedWrong_w5 : Cond.methodLink RX4 54 yX4_isPlain ∈ vsX4_wireClaimedWrong := List.mem_cons_of_mem _ (List.mem_append_left _ (List.mem_of_getElem? (i := 5) rfl))
theorem qX4_wireClaimedWrong_w6 : Cond.instanceMethod yX4_isPlain ∈ vsX4_wireClaimedWrong := List.mem_cons_of_mem _ (List.mem_append_left _ (List.mem_of_getElem? (i := 6) rfl))
theorem qX4_wireClaimedWrong_w7 : Cond.selects RX4 yX4_isPlain yX4_isPlain ∈ vsX4_wireClaimedWrong := List.mem_cons_of_mem _ (List.mem_append_left _ (List.mem_of_getElem? (i := 7) rfl))
theorem qX4_wireClaimedWrong_w8 : Cond.initialized RX4 ∈ vsX4_wireClaimedWrong := List.mem_cons_of_mem _ (List.mem_append_left _ (List.mem_of_getElem? (i := 8) rfl))
theorem qX4_wireClaimedWrong_X4 : ∀ w ∈ u_ws RX4 TX4 10, w ∈ vsX4_wireClaimedWrong := fun w h => List.mem_cons_of_mem _ (List.mem_append_right _ (List.mem_append_left _ h))
theorem gd_vsX4_wireClaimedWrong : ∀ w ∈ vsX4_wireClaimedWrong, goodWord w = true := dk_cons rfl (dk_app (dk_all (by decide +kernel)) (dk_app gd_wsX40 (dk_app gd_vsX4_isPlain dk_nil)))
theorem gvX4_wireClaimedWrong_X4_isPlain : GoodIn vsX4_wireClaimedWrong (wsV RX4 54 RX4 yX4_isPlain vsX4_isPlain) := goodIn_app (dk_g4 qX4_wireClaimedWrong_w5 qX4_wireClaimedWrong_w6 qX4_wireClaimedWrong_w7 qX4_wireClaimedWrong_w8 rfl) (dk_gIn (fun w h => List.mem_cons_of_mem _ (List.mem_append_right _ (List.mem_append_right _ (List.mem_append_left _ h)))) gd_vsX4_isPlain)
def jX4_wireClaimedWrong_47 (N_first N_second N_isCut N_wireClaim N_knotClaim : Nat → Int32) (N_wires N_power x1 : Int32) (s0 : Int64) : Option (((Int32) ⊕ (Unit)) ⊕ (Int32)) := dk_gd (dk_in x1 22) (if (lg_cmp ((N_wireClaim x1.toNatClampNeg).toInt64) s0) = 0 then dk_let (x1 + 1) (fun x1_11 => some (.inr x1_11)) else some (.inl (.inl x1)))
def bX4_wireClaimedWrong_2 (N_first N_second N_isCut N_wireClaim N_knotClaim : Nat → Int32) (N_wires N_power : Int32) (st : Int32) : Option (((Int32) ⊕ (Unit)) ⊕ (Int32)) := if N_wires ≤ st then some (.inl (.inr ())) else dk_bnd (fX4_isPlain N_isCut N_power st) (fun r_4 => if r_4 = 0 then jX4_wireClaimedWrong_47 N_first N_second N_isCut N_wireClaim N_knotClaim N_wires N_power st 0 else dk_gd (dk_in st 22) (dk_gd (dk_in (N_first st.toNatClampNeg) 12) (dk_gd (dk_in (N_second st.toNatClampNeg) 12) (jX4_wireClaimedWrong_47 N_first N_second N_isCut N_wireClaim N_knotClaim N_wires N_power st (((N_knotClaim (N_first st.toNatClampNeg).toNatClampNeg).toInt64) - ((N_knotClaim (N_second st.toNatClampNeg).toNatClampNeg).toInt64))))))
def fX4_wireClaimedWrong (N_first N_second N_isCut N_wireClaim N_knotClaim : Nat → Int32) (N_wires N_power : Int32) : Option (Int32) := dk_bnd (dk_loop (bX4_wireClaimedWrong_2 N_first N_second N_isCut N_wireClaim N_knotClaim N_wires N_power) 1000 0) (fun r_1 => dk_sum r_1 (fun zz => some zz) (fun z_2 => some (-1)))
section
variable {p : Program} {l : Launch} {e : Env} {s : State} {m : MethodId} {args : Array Value} {below : List Frame} {meth : Method} {c : Code} {dC : Nat → ClassId} {dI : Nat → Nat → Nat} {cI cJ cZ : ClassId} {A : Nat → Prop} {oN : Nat} {aN : Nat → Nat} {N_first N_second N_isCut N_wireClaim N_knotClaim N_turnSize N_turns : Nat → Int32} {N_knots N_wires N_power : Int32}
set_option maxHeartbeats 4000000 in
set_option maxRecDepth 100000 in
theorem kX4_wireClaimedWrong_47 (C : dk_C p s m meth c args cX4_wireClaimedWrong (some .int) 4 RX4 vsX4_wireClaimedWrong) (hK : va_K (dC, dI) vwCl (dk_ty cI cJ cZ) s) (hA : ∀ q : Nat, s.heap.size ≤ q → A q) {out : Int32} {x1 : Int32} {s0 : Int64} {y : ((Int32) ⊕ (Unit)) ⊕ (Int32)} (h : jX4_wireClaimedWrong_47 N_first N_second N_isCut N_wireClaim N_knotClaim N_wires N_power x1 s0 = some y) (hR : ∀ z : Int32, y = .inl (.inl z) → z = out) (hE : ∀ z : Unit, y = .inl (.inr z) → ∀ (H : Heap) (locs : List Loc), va_P (dC, dI) vwCl (wX4 oN aN cI cJ cZ N_first N_second N_isCut N_wireClaim N_knotClaim N_turnSize N_turns N_knots N_wires N_power) H → va_D A (wX4 oN aN cI cJ cZ N_first N_second N_isCut N_wireClaim N_knotClaim N_turnSize N_turns N_knots N_wires N_power) → va_S A s.heap H locs → ∀ ls : Array Slot, lv_has ls 4 [(0, .ref oN)] → W p l e rX4_wireClaimedWrong s m args below meth c H locs 0 0 (MQ below (dk_Qi (dC, dI) (dk_ty cI cJ cZ) (wX4 oN aN cI cJ cZ N_first N_second N_isCut N_wireClaim N_knotClaim N_turnSize N_turns N_knots N_wires N_power) out A) args s 0 0 A) (F0 m 68 ls [])) (hC : ∀ z : Int32, y = .inr z → ∀ (H : Heap) (locs : List Loc), va_P (dC, dI) vwCl (wX4 oN aN cI cJ cZ N_first N_second N_isCut N_wireClaim N_knotClaim N_turnSize N_turns N_knots N_wires N_power) H → va_D A (wX4 oN aN cI cJ cZ N_first N_second N_isCut N_wireClaim N_knotClaim N_turnSize N_turns N_knots N_wires N_power) → va_S A s.heap H locs → ∀ ls : Array Slot, lv_has ls 4 [(0, .ref oN), (1, .int z)] → W p l e rX4_wireClaimedWrong s m args below meth c H locs 0 0 (MQ below (dk_Qi (dC, dI) (dk_ty cI cJ cZ) (wX4 oN aN cI cJ cZ N_first N_second N_isCut N_wireClaim N_knotClaim N_turnSize N_turns N_knots N_wires N_power) out A) args s 0 0 A) (F0 m 2 ls [])) : ∀ (H : Heap) (locs : List Loc), va_P (dC, dI) vwCl (wX4 oN aN cI cJ cZ N_first N_second N_isCut N_wireClaim N_knotClaim N_turnSize N_turns N_knots N_wires N_power) H → va_D A (wX4 oN aN cI cJ cZ N_first N_second N_isCut N_wireClaim N_knotClaim N_turnSize N_turns N_knots N_wires N_power) → va_S A s.heap H locs → ∀ ls : Array Slot, lv_has ls 4 [(0, .ref oN), (1, .int x1)] → W p l e rX4_wireClaimedWrong s m args below meth c H locs 0 0 (MQ below (dk_Qi (dC, dI) (dk_ty cI cJ cZ) (wX4 oN aN cI cJ cZ N_first N_second N_isCut N_wireClaim N_knotClaim N_turnSize N_turns N_knots N_wires N_power) out A) args s 0 0 A) (F0 m 47 ls [.long s0]) := by
  obtain ⟨hx, hb, hr, hml, hown, hts, hlocks⟩ := id C
  intro H locs hP hD hS ls hl
  unfold jX4_wireClaimedWrong_47 at h
  refine lv_lstore_n (lv' := [(2, .long s0), (0, .ref oN), (1, .int x1)]) hx hb dX4_wireClaimedWrong_47 rfl hl (by decide) rfl (fun ls hl => ?_)
  refine lv_aload_n hx hb dX4_wireClaimedWrong_48 rfl (lv_at hl 1 rfl) ?_
  refine va_get (D := (dC, dI)) (ci := 4) (v := .ref (aN 3)) (C := RX4) (T := TX4) (N := 10) hx hb hts qX4_wireClaimedWrong_X4 hown hK hP 0 rfl rfl 3 (by decide) (hts _ qX4_wireClaimedWrong_f22) (fun _ h9 => h9) rfl dX4_wireClaimedWrong_49 ?_
  refine lv_iload_n hx hb dX4_wireClaimedWrong_52 rfl (lv_at hl 2 rfl) ?_
  obtain ⟨g_9, h⟩ := dk_gd_to h
  have g_9 := dk_in_to g_9
  refine va_iald hx hb hK hP 4 0 rfl rfl g_9 dX4_wireClaimedWrong_53 ?_
  refine lv_i2l hx hb dX4_wireClaimedWrong_54 rfl ?_
  refine lv_lload_n hx hb dX4_wireClaimedWrong_55 rfl (lv_at hl 0 rfl) ?_
  refine W.lcmp hx hb dX4_wireClaimedWrong_56 ?_
  refine lv_if_eq (tgt := 62) hx hb dX4_wireClaimedWrong_57 (by decide) (fun c_10 => ?_) (fun c_10 => ?_)
  · replace h := dk_it c_10 h
    obtain ⟨x1_11, ex1_11⟩ : ∃ z : Int32, z = x1 + 1 := ⟨_, rfl⟩
    replace h := dk_let_to ex1_11 h
    refine lv_iinc (v := x1_11) (lv' := [(1, .int x1_11), (2, .long s0), (0, .ref oN)]) hx hb dX4_wireClaimedWrong_62 hl (k := 2) rfl (by rw [ex1_11]; rfl) (by decide) rfl (fun ls hl => ?_)
    refine lv_goto (tgt := 2) hx hb dX4_wireClaimedWrong_65 (by decide) ?_
    exact hC _ (Option.some.inj h).symm _ _ hP hD hS ls (lv_sub hl [2, 0] rfl)
  · replace h := dk_ie c_10 h
    refine lv_iload_n hx hb dX4_wireClaimedWrong_60 rfl (lv_at hl 2 rfl) ?_
    have e9 := hR _ (Option.some.inj h).symm
    subst e9
    exact dk_iret C hK hP hD hS rfl dX4_wireClaimedWrong_61
set_option maxHeartbeats 4000000 in
set_option maxRecDepth 100000 in
theorem tX4_wireClaimedWrong_2 (C : dk_C p s m meth c args cX4_wireClaimedWrong (some .int) 4 RX4 vsX4_wireClaimedWrong) (hK : va_K (dC, dI) vwCl (dk_ty cI cJ cZ) s) (hA : ∀ q : Nat, s.heap.size ≤ q → A q) {out : Int32} {st : Int32} {y : ((Int32) ⊕ (Unit)) ⊕ (Int32)} (h : bX4_wireClaimedWrong_2 N_first N_second N_isCut N_wireClaim N_knotClaim N_wires N_power st = some y) (hR : ∀ z : Int32, y = .inl (.inl z) → z = out) (hE : ∀ z : Unit, y = .inl (.inr z) → ∀ (H : Heap) (locs : List Loc), va_P (dC, dI) vwCl (wX4 oN aN cI cJ cZ N_first N_second N_isCut N_wireClaim N_knotClaim N_turnSize N_turns N_knots N_wires N_power) H → va_D A (wX4 oN aN cI cJ cZ N_first N_second N_isCut N_wireClaim N_knotClaim N_turnSize N_turns N_knots N_wires N_power) → va_S A s.heap H locs → ∀ ls : Array Slot, lv_has ls 4 [(0, .ref oN)] → W p l e rX4_wireClaimedWrong s m args below meth c H locs 0 0 (MQ below (dk_Qi (dC, dI) (dk_ty cI cJ cZ) (wX4 oN aN cI cJ cZ N_first N_second N_isCut N_wireClaim N_knotClaim N_turnSize N_turns N_knots N_wires N_power) out A) args s 0 0 A) (F0 m 68 ls [])) (hC : ∀ z : Int32, y = .inr z → ∀ (H : Heap) (locs : List Loc), va_P (dC, dI) vwCl (wX4 oN aN cI cJ cZ N_first N_second N_isCut N_wireClaim N_knotClaim N_turnSize N_turns N_knots N_wires N_power) H → va_D A (wX4 oN aN cI cJ cZ N_first N_second N_isCut N_wireClaim N_knotClaim N_turnSize N_turns N_knots N_wires N_power) → va_S A s.heap H locs → ∀ ls : Array Slot, lv_has ls 4 [(0, .ref oN), (1, .int z)] → W p l e rX4_wireClaimedWrong s m args below meth c H locs 0 0 (MQ below (dk_Qi (dC, dI) (dk_ty cI cJ cZ) (wX4 oN aN cI cJ cZ N_first N_second N_isCut N_wireClaim N_knotClaim N_turnSize N_turns N_knots N_wires N_power) out A) args s 0 0 A) (F0 m 2 ls [])) : ∀ (H : Heap) (locs : List Loc), va_P (dC, dI) vwCl (wX4 oN aN cI cJ cZ N_first N_second N_isCut N_wireClaim N_knotClaim N_turnSize N_turns N_knots N_wires N_power) H → va_D A (wX4 oN aN cI cJ cZ N_first N_second N_isCut N_wireClaim N_knotClaim N_turnSize N_turns N_knots N_wires N_power) → va_S A s.heap H locs → ∀ ls : Array Slot, lv_has ls 4 [(0, .ref oN), (1, .int st)] → W p l e rX4_wireClaimedWrong s m args below meth c H locs 0 0 (MQ below (dk_Qi (dC, dI) (dk_ty cI cJ cZ) (wX4 oN aN cI cJ cZ N_first N_second N_isCut N_wireClaim N_knotClaim N_turnSize N_turns N_knots N_wires N_power) out A) args s 0 0 A) (F0 m 2 ls []) := by
  obtain ⟨hx, hb, hr, hml, hown, hts, hlocks⟩ := id C
  intro H locs hP hD hS ls hl
  unfold bX4_wireClaimedWrong_2 at h
  refine lv_iload_n hx hb dX4_wireClaimedWrong_2 rfl (lv_at hl 1 rfl) ?_
  refine lv_aload_n hx hb dX4_wireClaimedWrong_3 rfl (lv_at hl 0 rfl) ?_
  refine va_get (D := (dC, dI)) (ci := 4) (v := .int N_wires) (C := RX4) (T := TX4) (N := 10) hx hb hts qX4_wireClaimedWrong_X4 hown hK hP 0 rfl rfl 8 (by decide) (hts _ qX4_wireClaimedWrong_f38) (fun _ h9 => h9) rfl dX4_wireClaimedWrong_4 ?_
  refine lv_icmp_ge (tgt := 68) hx hb dX4_wireClaimedWrong_7 (by decide) (fun c_3 => ?_) (fun c_3 => ?_)
  · replace h := dk_it c_3 h
    exact hE _ (Option.some.inj h).symm _ _ hP hD hS ls (lv_sub hl [0] rfl)
  · replace h := dk_ie c_3 h
    refine lv_aload_n hx hb dX4_wireClaimedWrong_10 rfl (lv_at hl 0 rfl) ?_
    refine lv_iload_n hx hb dX4_wireClaimedWrong_11 rfl (lv_at hl 1 rfl) ?_
    obtain ⟨r_4, hcr_4, h⟩ := dk_bnd_to h
    refine dk_rVi (b := oN) (As := [.int st]) (rest := []) (wc := (wX4 oN aN cI cJ cZ N_first N_second N_isCut N_wireClaim N_knotClaim N_turnSize N_turns N_knots N_wires N_power)) C hK hP hD hS hA (mX4_isPlain l dC dI cI cJ cZ hcr_4 _) (cwV 1 hts gvX4_wireClaimedWrong_X4_isPlain rfl rfl rfl (by decide +kernel) ⟨Nat.le_of_ble_eq_true rfl, Nat.le_of_ble_eq_true rfl⟩) [0, 1, 2, 3, 4, 5, 6, 7] rfl (by decide) 0 4 rfl rfl rfl hl.1 rfl (Nat.le_of_ble_eq_true rfl) ⟨Nat.le_of_ble_eq_true rfl, Nat.le_of_ble_eq_true rfl⟩ dX4_wireClaimedWrong_12 (fun H locs hP hD hS => ?_)
    refine lv_if_eq (tgt := 46) hx hb dX4_wireClaimedWrong_15 (by decide) (fun c_5 => ?_) (fun c_5 => ?_)
    · replace h := dk_it c_5 h
      refine lv_lconst (v := 0) hx hb dX4_wireClaimedWrong_46 (by decide) ?_
      exact kX4_wireClaimedWrong_47 C hK hA h hR hE hC _ _ hP hD hS ls (lv_sub hl [0, 1] rfl)
    · replace h := dk_ie c_5 h
      refine lv_aload_n hx hb dX4_wireClaimedWrong_18 rfl (lv_at hl 0 rfl) ?_
      refine va_get (D := (dC, dI)) (ci := 4) (v := .ref (aN 4)) (C := RX4) (T := TX4) (N := 10) hx hb hts qX4_wireClaimedWrong_X4 hown hK hP 0 rfl rfl 4 (by decide) (hts _ qX4_wireClaimedWrong_f25) (fun _ h9 => h9) rfl dX4_wireClaimedWrong_19 ?_
      refine lv_aload_n hx hb dX4_wireClaimedWrong_22 rfl (lv_at hl 0 rfl) ?_
      refine va_get (D := (dC, dI)) (ci := 4) (v := .ref (aN 0)) (C := RX4) (T := TX4) (N := 10) hx hb hts qX4_wireClaimedWrong_X4 hown hK hP 0 rfl rfl 0 (by decide) (hts _ qX4_wireClaimedWrong_f9) (fun _ h9 => h9) rfl dX4_wireClaimedWrong_23 ?_
      refine lv_iload_n hx hb dX4_wireClaimedWrong_26 rfl (lv_at hl 1 rfl) ?_
      obtain ⟨g_6, h⟩ := dk_gd_to h
      have g_6 := dk_in_to g_6
      refine va_iald hx hb hK hP 1 0 rfl rfl g_6 dX4_wireClaimedWrong_27 ?_
      obtain ⟨g_7, h⟩ := dk_gd_to h
      have g_7 := dk_in_to g_7
      refine va_iald hx hb hK hP 5 0 rfl rfl g_7 dX4_wireClaimedWrong_28 ?_
      refine lv_i2l hx hb dX4_wireClaimedWrong_29 rfl ?_
      refine lv_aload_n hx hb dX4_wireClaimedWrong_30 rfl (lv_at hl 0 rfl) ?_
      refine va_get (D := (dC, dI)) (ci := 4) (v := .ref (aN 4)) (C := RX4) (T := TX4) (N := 10) hx hb hts qX4_wireClaimedWrong_X4 hown hK hP 0 rfl rfl 4 (by decide) (hts _ qX4_wireClaimedWrong_f25) (fun _ h9 => h9) rfl dX4_wireClaimedWrong_31 ?_
      refine lv_aload_n hx hb dX4_wireClaimedWrong_34 rfl (lv_at hl 0 rfl) ?_
      refine va_get (D := (dC, dI)) (ci := 4) (v := .ref (aN 1)) (C := RX4) (T := TX4) (N := 10) hx hb hts qX4_wireClaimedWrong_X4 hown hK hP 0 rfl rfl 1 (by decide) (hts _ qX4_wireClaimedWrong_f15) (fun _ h9 => h9) rfl dX4_wireClaimedWrong_35 ?_
      refine lv_iload_n hx hb dX4_wireClaimedWrong_38 rfl (lv_at hl 1 rfl) ?_
      refine va_iald hx hb hK hP 2 0 rfl rfl g_6 dX4_wireClaimedWrong_39 ?_
      obtain ⟨g_8, h⟩ := dk_gd_to h
      have g_8 := dk_in_to g_8
      refine va_iald hx hb hK hP 5 0 rfl rfl g_8 dX4_wireClaimedWrong_40 ?_
      refine lv_i2l hx hb dX4_wireClaimedWrong_41 rfl ?_
      refine lv_lsub hx hb dX4_wireClaimedWrong_42 ?_
      refine lv_goto (tgt := 47) hx hb dX4_wireClaimedWrong_43 (by decide) ?_
      exact kX4_wireClaimedWrong_47 C hK hA h hR hE hC _ _ hP hD hS ls (lv_sub hl [0, 1] rfl)
set_option maxHeartbeats 4000000 in
set_option maxRecDepth 100000 in
theorem lX4_wireClaimedWrong_2 (C : dk_C p s m meth c args cX4_wireClaimedWrong (some .int) 4 RX4 vsX4_wireClaimedWrong) (hK : va_K (dC, dI) vwCl (dk_ty cI cJ cZ) s) (hA : ∀ q : Nat, s.heap.size ≤ q → A q) {out : Int32} {n : Nat} {st : Int32} {r : (Int32) ⊕ (Unit)} (h : dk_loop (bX4_wireClaimedWrong_2 N_first N_second N_isCut N_wireClaim N_knotClaim N_wires N_power) n st = some r) (hR : ∀ z : Int32, r = .inl z → z = out) (hE : ∀ z : Unit, r = .inr z → ∀ (H : Heap) (locs : List Loc), va_P (dC, dI) vwCl (wX4 oN aN cI cJ cZ N_first N_second N_isCut N_wireClaim N_knotClaim N_turnSize N_turns N_knots N_wires N_power) H → va_D A (wX4 oN aN cI cJ cZ N_first N_second N_isCut N_wireClaim N_knotClaim N_turnSize N_turns N_knots N_wires N_power) → va_S A s.heap H locs → ∀ ls : Array Slot, lv_has ls 4 [(0, .ref oN)] → W p l e rX4_wireClaimedWrong s m args below meth c H locs 0 0 (MQ below (dk_Qi (dC, dI) (dk_ty cI cJ cZ) (wX4 oN aN cI cJ cZ N_first N_second N_isCut N_wireClaim N_knotClaim N_turnSize N_turns N_knots N_wires N_power) out A) args s 0 0 A) (F0 m 68 ls [])) : ∀ (H : Heap) (locs : List Loc), va_P (dC, dI) vwCl (wX4 oN aN cI cJ cZ N_first N_second N_isCut N_wireClaim N_knotClaim N_turnSize N_turns N_knots N_wires N_power) H → va_D A (wX4 oN aN cI cJ cZ N_first N_second N_isCut N_wireClaim N_knotClaim N_turnSize N_turns N_knots N_wires N_power) → va_S A s.heap H locs → ∀ ls : Array Slot, lv_has ls 4 [(0, .ref oN), (1, .int st)] → W p l e rX4_wireClaimedWrong s m args below meth c H locs 0 0 (MQ below (dk_Qi (dC, dI) (dk_ty cI cJ cZ) (wX4 oN aN cI cJ cZ N_first N_second N_isCut N_wireClaim N_knotClaim N_turnSize N_turns N_knots N_wires N_power) out A) args s 0 0 A) (F0 m 2 ls []) :=
  dk_loopW (P := fun st => ∀ (H : Heap) (locs : List Loc), va_P (dC, dI) vwCl (wX4 oN aN cI cJ cZ N_first N_second N_isCut N_wireClaim N_knotClaim N_turnSize N_turns N_knots N_wires N_power) H → va_D A (wX4 oN aN cI cJ cZ N_first N_second N_isCut N_wireClaim N_knotClaim N_turnSize N_turns N_knots N_wires N_power) → va_S A s.heap H locs → ∀ ls : Array Slot, lv_has ls 4 [(0, .ref oN), (1, .int st)] → W p l e rX4_wireClaimedWrong s m args below meth c H locs 0 0 (MQ below (dk_Qi (dC, dI) (dk_ty cI cJ cZ) (wX4 oN aN cI cJ cZ N_first N_second N_isCut N_wireClaim N_knotClaim N_turnSize N_turns N_knots N_wires N_power) out A) args s 0 0 A) (F0 m 2 ls [])) (K := fun r => (∀ z : Int32, r = .inl z → z = out) ∧ (∀ z : Unit, r = .inr z → ∀ (H : Heap) (locs : List Loc), va_P (dC, dI) vwCl (wX4 oN aN cI cJ cZ N_first N_second N_isCut N_wireClaim N_knotClaim N_turnSize N_turns N_knots N_wires N_power) H → va_D A (wX4 oN aN cI cJ cZ N_first N_second N_isCut N_wireClaim N_knotClaim N_turnSize N_turns N_knots N_wires N_power) → va_S A s.heap H locs → ∀ ls : Array Slot, lv_has ls 4 [(0, .ref oN)] → W p l e rX4_wireClaimedWrong s m args below meth c H locs 0 0 (MQ below (dk_Qi (dC, dI) (dk_ty cI cJ cZ) (wX4 oN aN cI cJ cZ N_first N_second N_isCut N_wireClaim N_knotClaim N_turnSize N_turns N_knots N_wires N_power) out A) args s 0 0 A) (F0 m 68 ls []))) (fun st y hy k1 k2 => tX4_wireClaimedWrong_2 C hK hA hy (fun z e1 => (k1 _ e1).1 z rfl) (fun z e1 => (k1 _ e1).2 z rfl) k2) n st r h ⟨hR, hE⟩
end
set_option maxHeartbeats 4000000 in
set_option maxRecDepth 100000 in
theorem mX4_wireClaimedWrong (l : Launch) (dC : Nat → ClassId) (dI : Nat → Nat → Nat) (cI cJ cZ : ClassId) {oN : Nat} {aN : Nat → Nat} {N_first N_second N_isCut N_wireClaim N_knotClaim N_turnSize N_turns : Nat → Int32} {N_knots N_wires N_power : Int32} {out : Int32} (h : fX4_wireClaimedWrong N_first N_second N_isCut N_wireClaim N_knotClaim N_wires N_power = some out) (sz : Nat) : Met l yX4_wireClaimedWrong vsX4_wireClaimedWrong rX4_wireClaimedWrong (va_Pc [.ref oN] (dk_Pre (dC, dI) (dk_ty cI cJ cZ) (wX4 oN aN cI cJ cZ N_first N_second N_isCut N_wireClaim N_knotClaim N_turnSize N_turns N_knots N_wires N_power) sz)) (dk_Qi (dC, dI) (dk_ty cI cJ cZ) (wX4 oN aN cI cJ cZ N_first N_second N_isCut N_wireClaim N_knotClaim N_turnSize N_turns N_knots N_wires N_power) out (va_A (wX4 oN aN cI cJ cZ N_first N_second N_isCut N_wireClaim N_knotClaim N_turnSize N_turns N_knots N_wires N_power) sz)) 0 0 (va_A (wX4 oN aN cI cJ cZ N_first N_second N_isCut N_wireClaim N_knotClaim N_turnSize N_turns N_knots N_wires N_power) sz) := by
  refine dk_met (cc := cX4_wireClaimedWrong) (maxL := 4) (ret := (some .int)) (Qc := fun A => dk_Qi (dC, dI) (dk_ty cI cJ cZ) (wX4 oN aN cI cJ cZ N_first N_second N_isCut N_wireClaim N_knotClaim N_turnSize N_turns N_knots N_wires N_power) out A) (by decide) rfl (Nat.le_of_ble_eq_true rfl) ?_
  intro p e s m below meth c A C hnm hA hK hP hD hS ls hl
  have C : dk_C p s m meth c _ cX4_wireClaimedWrong (some .int) 4 RX4 vsX4_wireClaimedWrong := C
  obtain ⟨hx, hb, hr, hml, hown, hts, hlocks⟩ := id C
  have hl : lv_has ls 4 [(0, .ref oN)] := hl
  unfold fX4_wireClaimedWrong at h
  refine lv_iconst (v := 0) hx hb dX4_wireClaimedWrong_0 (by decide) ?_
  refine lv_istore_n (lv' := [(1, .int 0), (0, .ref oN)]) hx hb dX4_wireClaimedWrong_1 rfl hl (by decide) rfl (fun ls hl => ?_)
  obtain ⟨r_1, hLr_1, h⟩ := dk_bnd_to h
  cases r_1 with
  | inl zz =>
    replace h := dk_sum_l h
    have hz := Option.some.inj h
    exact lX4_wireClaimedWrong_2 C hK hA hLr_1 (fun z1 e1 => by cases e1; exact hz) (fun z1 e1 => by cases e1) _ _ hP hD hS ls (lv_sub hl [1, 0] rfl)
  | inr z_2 =>
    replace h := dk_sum_r h
    refine lX4_wireClaimedWrong_2 C hK hA hLr_1 (fun z1 e1 => by cases e1) (fun z1 e1 => ?_) _ _ hP hD hS ls (lv_sub hl [1, 0] rfl)
    have e2 := Sum.inr.inj e1
    subst e2
    intro H locs hP hD hS ls hl
    refine lv_iconst (v := (-1)) hx hb dX4_wireClaimedWrong_68 (by decide) ?_
    have e9 := Option.some.inj h
    subst e9
    exact dk_iret C hK hP hD hS rfl dX4_wireClaimedWrong_69
/-! ===== SquareTiler$Net.claimedOutflow ===== -/
abbrev rX4_claimedOutflow : Room := { frames := 0, cells := 0, slots := 0, locals := 0 }
def ovX4_claimedOutflow : List Cond := [Cond.fieldLink RX4 38 "SquareTiler$Net" "wires" "I", Cond.fieldLink RX4 9 "SquareTiler$Net" "first" "[I", Cond.fieldLink RX4 15 "SquareTiler$Net" "second" "[I", Cond.fieldLink RX4 22 "SquareTiler$Net" "wireClaim" "[I"]
def vsX4_claimedOutflow : List Cond := .code yX4_claimedOutflow cX4_claimedOutflow 5 (some .long) :: (ovX4_claimedOutflow ++ (wsX40 ++ []))
theorem qX4_claimedOutflow_f38 : Cond.fieldLink RX4 38 "SquareTiler$Net" "wires" "I" ∈ vsX4_claimedOutflow := List.mem_cons_of_mem _ (List.mem_append_left _ (List.mem_of_getElem? (i := 0) rfl))
theorem qX4_claimedOutflow_f9 : Cond.fieldLink RX4 9 "SquareTiler$Net" "first" "[I" ∈ vsX4_claimedOutflow := List.mem_cons_of_mem _ (List.mem_append_left _ (List.mem_of_getElem? (i := 1) rfl))
theorem qX4_claimedOutflow_f15 : Cond.fieldLink RX4 15 "SquareTiler$Net" "second" "[I" ∈ vsX4_claimedOutflow := List.mem_cons_of_mem _ (List.mem_append_left _ (List.mem_of_getElem? (i := 2) rfl))
theorem qX4_claimedOutflow_f22 : Cond.fieldLink RX4 22 "SquareTiler$Net" "wireClaim" "[I" ∈ vsX4_claimedOutflow := List.mem_cons_of_mem _ (List.mem_append_left _ (List.mem_of_getElem? (i := 3) rfl))
theorem qX4_claimedOutflow_X4 : ∀ w ∈ u_ws RX4 TX4 10, w ∈ vsX4_claimedOutflow := fun w h => List.mem_cons_of_mem _ (List.mem_append_right _ (List.mem_append_left _ h))
theorem gd_vsX4_claimedOutflow : ∀ w ∈ vsX4_claimedOutflow, goodWord w = true := dk_cons rfl (dk_app (dk_all (by decide +kernel)) (dk_app gd_wsX40 dk_nil))
def jX4_claimedOutflow_61 (N_first N_second N_wireClaim : Nat → Int32) (N_wires x1 : Int32) (x2 : Int64) (x4 : Int32) : Option ((Int64) ⊕ (Int64 × Int32)) := dk_let (x4 + 1) (fun x4_8 => some (.inr (x2, x4_8)))
def bX4_claimedOutflow_5 (N_first N_second N_wireClaim : Nat → Int32) (N_wires x1 : Int32) (st : Int64 × Int32) : Option ((Int64) ⊕ (Int64 × Int32)) := if N_wires ≤ st.2 then some (.inl st.1) else dk_gd (dk_in st.2 22) (if (N_first st.2.toNatClampNeg) = x1 then dk_let ((st.1 + ((N_wireClaim st.2.toNatClampNeg).toInt64))) (fun x2_7 => jX4_claimedOutflow_61 N_first N_second N_wireClaim N_wires x1 x2_7 st.2) else if (N_second st.2.toNatClampNeg) = x1 then dk_let ((st.1 - ((N_wireClaim st.2.toNatClampNeg).toInt64))) (fun x2_6 => jX4_claimedOutflow_61 N_first N_second N_wireClaim N_wires x1 x2_6 st.2) else jX4_claimedOutflow_61 N_first N_second N_wireClaim N_wires x1 st.1 st.2)
def fX4_claimedOutflow (N_first N_second N_wireClaim : Nat → Int32) (N_wires x1 : Int32) : Option (Int64) := dk_bnd (dk_loop (bX4_claimedOutflow_5 N_first N_second N_wireClaim N_wires x1) 1000 (0, 0)) (fun r_1 => some r_1)
section
variable {p : Program} {l : Launch} {e : Env} {s : State} {m : MethodId} {args : Array Value} {below : List Frame} {meth : Method} {c : Code} {dC : Nat → ClassId} {dI : Nat → Nat → Nat} {cI cJ cZ : ClassId} {A : Nat → Prop} {oN : Nat} {aN : Nat → Nat} {N_first N_second N_isCut N_wireClaim N_knotClaim N_turnSize N_turns : Nat → Int32} {N_knots N_wires N_power : Int32}
set_option maxHeartbeats 4000000 in
set_option maxRecDepth 100000 in
theorem kX4_claimedOutflow_61 (C : dk_C p s m meth c args cX4_claimedOutflow (some .long) 5 RX4 vsX4_claimedOutflow) (hK : va_K (dC, dI) vwCl (dk_ty cI cJ cZ) s) (hA : ∀ q : Nat, s.heap.size ≤ q → A q) {out : Int64} {x1 : Int32} {x2 : Int64} {x4 : Int32} {y : (Int64) ⊕ (Int64 × Int32)} (h : jX4_claimedOutflow_61 N_first N_second N_wireClaim N_wires x1 x2 x4 = some y) (hE : ∀ z : Int64, y = .inl z → ∀ (H : Heap) (locs : List Loc), va_P (dC, dI) vwCl (wX4 oN aN cI cJ cZ N_first N_second N_isCut N_wireClaim N_knotClaim N_turnSize N_turns N_knots N_wires N_power) H → va_D A (wX4 oN aN cI cJ cZ N_first N_second N_isCut N_wireClaim N_knotClaim N_turnSize N_turns N_knots N_wires N_power) → va_S A s.heap H locs → ∀ ls : Array Slot, lv_has ls 5 [(0, .ref oN), (2, .long z)] → W p l e rX4_claimedOutflow s m args below meth c H locs 0 0 (MQ below (dk_Ql (dC, dI) (dk_ty cI cJ cZ) (wX4 oN aN cI cJ cZ N_first N_second N_isCut N_wireClaim N_knotClaim N_turnSize N_turns N_knots N_wires N_power) out A) args s 0 0 A) (F0 m 67 ls [])) (hC : ∀ z : Int64 × Int32, y = .inr z → ∀ (H : Heap) (locs : List Loc), va_P (dC, dI) vwCl (wX4 oN aN cI cJ cZ N_first N_second N_isCut N_wireClaim N_knotClaim N_turnSize N_turns N_knots N_wires N_power) H → va_D A (wX4 oN aN cI cJ cZ N_first N_second N_isCut N_wireClaim N_knotClaim N_turnSize N_turns N_knots N_wires N_power) → va_S A s.heap H locs → ∀ ls : Array Slot, lv_has ls 5 [(0, .ref oN), (1, .int x1), (2, .long z.1), (4, .int z.2)] → W p l e rX4_claimedOutflow s m args below meth c H locs 0 0 (MQ below (dk_Ql (dC, dI) (dk_ty cI cJ cZ) (wX4 oN aN cI cJ cZ N_first N_second N_isCut N_wireClaim N_knotClaim N_turnSize N_turns N_knots N_wires N_power) out A) args s 0 0 A) (F0 m 5 ls [])) : ∀ (H : Heap) (locs : List Loc), va_P (dC, dI) vwCl (wX4 oN aN cI cJ cZ N_first N_second N_isCut N_wireClaim N_knotClaim N_turnSize N_turns N_knots N_wires N_power) H → va_D A (wX4 oN aN cI cJ cZ N_first N_second N_isCut N_wireClaim N_knotClaim N_turnSize N_turns N_knots N_wires N_power) → va_S A s.heap H locs → ∀ ls : Array Slot, lv_has ls 5 [(0, .ref oN), (1, .int x1), (2, .long x2), (4, .int x4)] → W p l e rX4_claimedOutflow s m args below meth c H locs 0 0 (MQ below (dk_Ql (dC, dI) (dk_ty cI cJ cZ) (wX4 oN aN cI cJ cZ N_first N_second N_isCut N_wireClaim N_knotClaim N_turnSize N_turns N_knots N_wires N_power) out A) args s 0 0 A) (F0 m 61 ls []) := by
  obtain ⟨hx, hb, hr, hml, hown, hts, hlocks⟩ := id C
  intro H locs hP hD hS ls hl
  unfold jX4_claimedOutflow_61 at h
  obtain ⟨x4_8, ex4_8⟩ : ∃ z : Int32, z = x4 + 1 := ⟨_, rfl⟩
  replace h := dk_let_to ex4_8 h
  refine lv_iinc (v := x4_8) (lv' := [(4, .int x4_8), (0, .ref oN), (1, .int x1), (2, .long x2)]) hx hb dX4_claimedOutflow_61 hl (k := 3) rfl (by rw [ex4_8]; rfl) (by decide) rfl (fun ls hl => ?_)
  refine lv_goto (tgt := 5) hx hb dX4_claimedOutflow_64 (by decide) ?_
  exact hC _ (Option.some.inj h).symm _ _ hP hD hS ls (lv_sub hl [1, 2, 3, 0] rfl)
set_option maxHeartbeats 4000000 in
set_option maxRecDepth 100000 in
theorem tX4_claimedOutflow_5 (C : dk_C p s m meth c args cX4_claimedOutflow (some .long) 5 RX4 vsX4_claimedOutflow) (hK : va_K (dC, dI) vwCl (dk_ty cI cJ cZ) s) (hA : ∀ q : Nat, s.heap.size ≤ q → A q) {out : Int64} {x1 : Int32} {st : Int64 × Int32} {y : (Int64) ⊕ (Int64 × Int32)} (h : bX4_claimedOutflow_5 N_first N_second N_wireClaim N_wires x1 st = some y) (hE : ∀ z : Int64, y = .inl z → ∀ (H : Heap) (locs : List Loc), va_P (dC, dI) vwCl (wX4 oN aN cI cJ cZ N_first N_second N_isCut N_wireClaim N_knotClaim N_turnSize N_turns N_knots N_wires N_power) H → va_D A (wX4 oN aN cI cJ cZ N_first N_second N_isCut N_wireClaim N_knotClaim N_turnSize N_turns N_knots N_wires N_power) → va_S A s.heap H locs → ∀ ls : Array Slot, lv_has ls 5 [(0, .ref oN), (2, .long z)] → W p l e rX4_claimedOutflow s m args below meth c H locs 0 0 (MQ below (dk_Ql (dC, dI) (dk_ty cI cJ cZ) (wX4 oN aN cI cJ cZ N_first N_second N_isCut N_wireClaim N_knotClaim N_turnSize N_turns N_knots N_wires N_power) out A) args s 0 0 A) (F0 m 67 ls [])) (hC : ∀ z : Int64 × Int32, y = .inr z → ∀ (H : Heap) (locs : List Loc), va_P (dC, dI) vwCl (wX4 oN aN cI cJ cZ N_first N_second N_isCut N_wireClaim N_knotClaim N_turnSize N_turns N_knots N_wires N_power) H → va_D A (wX4 oN aN cI cJ cZ N_first N_second N_isCut N_wireClaim N_knotClaim N_turnSize N_turns N_knots N_wires N_power) → va_S A s.heap H locs → ∀ ls : Array Slot, lv_has ls 5 [(0, .ref oN), (1, .int x1), (2, .long z.1), (4, .int z.2)] → W p l e rX4_claimedOutflow s m args below meth c H locs 0 0 (MQ below (dk_Ql (dC, dI) (dk_ty cI cJ cZ) (wX4 oN aN cI cJ cZ N_first N_second N_isCut N_wireClaim N_knotClaim N_turnSize N_turns N_knots N_wires N_power) out A) args s 0 0 A) (F0 m 5 ls [])) : ∀ (H : Heap) (locs : List Loc), va_P (dC, dI) vwCl (wX4 oN aN cI cJ cZ N_first N_second N_isCut N_wireClaim N_knotClaim N_turnSize N_turns N_knots N_wires N_power) H → va_D A (wX4 oN aN cI cJ cZ N_first N_second N_isCut N_wireClaim N_knotClaim N_turnSize N_turns N_knots N_wires N_power) → va_S A s.heap H locs → ∀ ls : Array Slot, lv_has ls 5 [(0, .ref oN), (1, .int x1), (2, .long st.1), (4, .int st.2)] → W p l e rX4_claimedOutflow s m args below meth c H locs 0 0 (MQ below (dk_Ql (dC, dI) (dk_ty cI cJ cZ) (wX4 oN aN cI cJ cZ N_first N_second N_isCut N_wireClaim N_knotClaim N_turnSize N_turns N_knots N_wires N_power) out A) args s 0 0 A) (F0 m 5 ls []) := by
  obtain ⟨hx, hb, hr, hml, hown, hts, hlocks⟩ := id C
  intro H locs hP hD hS ls hl
  unfold bX4_claimedOutflow_5 at h
  refine lv_iload hx hb dX4_claimedOutflow_5 (lv_at hl 3 rfl) ?_
  refine lv_aload_n hx hb dX4_claimedOutflow_7 rfl (lv_at hl 0 rfl) ?_
  refine va_get (D := (dC, dI)) (ci := 4) (v := .int N_wires) (C := RX4) (T := TX4) (N := 10) hx hb hts qX4_claimedOutflow_X4 hown hK hP 0 rfl rfl 8 (by decide) (hts _ qX4_claimedOutflow_f38) (fun _ h9 => h9) rfl dX4_claimedOutflow_8 ?_
  refine lv_icmp_ge (tgt := 67) hx hb dX4_claimedOutflow_11 (by decide) (fun c_2 => ?_) (fun c_2 => ?_)
  · replace h := dk_it c_2 h
    exact hE _ (Option.some.inj h).symm _ _ hP hD hS ls (lv_sub hl [0, 2] rfl)
  · replace h := dk_ie c_2 h
    refine lv_aload_n hx hb dX4_claimedOutflow_14 rfl (lv_at hl 0 rfl) ?_
    refine va_get (D := (dC, dI)) (ci := 4) (v := .ref (aN 0)) (C := RX4) (T := TX4) (N := 10) hx hb hts qX4_claimedOutflow_X4 hown hK hP 0 rfl rfl 0 (by decide) (hts _ qX4_claimedOutflow_f9) (fun _ h9 => h9) rfl dX4_claimedOutflow_15 ?_
    refine lv_iload hx hb dX4_claimedOutflow_18 (lv_at hl 3 rfl) ?_
    obtain ⟨g_3, h⟩ := dk_gd_to h
    have g_3 := dk_in_to g_3
    refine va_iald hx hb hK hP 1 0 rfl rfl g_3 dX4_claimedOutflow_20 ?_
    refine lv_iload_n hx hb dX4_claimedOutflow_21 rfl (lv_at hl 1 rfl) ?_
    refine lv_icmp_ne (tgt := 39) hx hb dX4_claimedOutflow_22 (by decide) (fun c_4 => ?_) (fun c_4 => ?_)
    · replace h := dk_ie c_4 h
      refine lv_aload_n hx hb dX4_claimedOutflow_39 rfl (lv_at hl 0 rfl) ?_
      refine va_get (D := (dC, dI)) (ci := 4) (v := .ref (aN 1)) (C := RX4) (T := TX4) (N := 10) hx hb hts qX4_claimedOutflow_X4 hown hK hP 0 rfl rfl 1 (by decide) (hts _ qX4_claimedOutflow_f15) (fun _ h9 => h9) rfl dX4_claimedOutflow_40 ?_
      refine lv_iload hx hb dX4_claimedOutflow_43 (lv_at hl 3 rfl) ?_
      refine va_iald hx hb hK hP 2 0 rfl rfl g_3 dX4_claimedOutflow_45 ?_
      refine lv_iload_n hx hb dX4_claimedOutflow_46 rfl (lv_at hl 1 rfl) ?_
      refine lv_icmp_ne (tgt := 61) hx hb dX4_claimedOutflow_47 (by decide) (fun c_5 => ?_) (fun c_5 => ?_)
      · replace h := dk_ie c_5 h
        exact kX4_claimedOutflow_61 C hK hA h hE hC _ _ hP hD hS ls (lv_sub hl [0, 1, 2, 3] rfl)
      · replace h := dk_it c_5 h
        refine lv_lload_n hx hb dX4_claimedOutflow_50 rfl (lv_at hl 2 rfl) ?_
        refine lv_aload_n hx hb dX4_claimedOutflow_51 rfl (lv_at hl 0 rfl) ?_
        refine va_get (D := (dC, dI)) (ci := 4) (v := .ref (aN 3)) (C := RX4) (T := TX4) (N := 10) hx hb hts qX4_claimedOutflow_X4 hown hK hP 0 rfl rfl 3 (by decide) (hts _ qX4_claimedOutflow_f22) (fun _ h9 => h9) rfl dX4_claimedOutflow_52 ?_
        refine lv_iload hx hb dX4_claimedOutflow_55 (lv_at hl 3 rfl) ?_
        refine va_iald hx hb hK hP 4 0 rfl rfl g_3 dX4_claimedOutflow_57 ?_
        refine lv_i2l hx hb dX4_claimedOutflow_58 rfl ?_
        refine lv_lsub hx hb dX4_claimedOutflow_59 ?_
        refine lv_topl (fun x2_6 ex2_6 => ?_)
        replace h := dk_let_to ex2_6 h
        refine lv_lstore_n (lv' := [(2, .long x2_6), (0, .ref oN), (1, .int x1), (4, .int st.2)]) hx hb dX4_claimedOutflow_60 rfl hl (by decide) rfl (fun ls hl => ?_)
        exact kX4_claimedOutflow_61 C hK hA h hE hC _ _ hP hD hS ls (lv_sub hl [1, 2, 0, 3] rfl)
    · replace h := dk_it c_4 h
      refine lv_lload_n hx hb dX4_claimedOutflow_25 rfl (lv_at hl 2 rfl) ?_
      refine lv_aload_n hx hb dX4_claimedOutflow_26 rfl (lv_at hl 0 rfl) ?_
      refine va_get (D := (dC, dI)) (ci := 4) (v := .ref (aN 3)) (C := RX4) (T := TX4) (N := 10) hx hb hts qX4_claimedOutflow_X4 hown hK hP 0 rfl rfl 3 (by decide) (hts _ qX4_claimedOutflow_f22) (fun _ h9 => h9) rfl dX4_claimedOutflow_27 ?_
      refine lv_iload hx hb dX4_claimedOutflow_30 (lv_at hl 3 rfl) ?_
      refine va_iald hx hb hK hP 4 0 rfl rfl g_3 dX4_claimedOutflow_32 ?_
      refine lv_i2l hx hb dX4_claimedOutflow_33 rfl ?_
      refine lv_ladd hx hb dX4_claimedOutflow_34 ?_
      refine lv_topl (fun x2_7 ex2_7 => ?_)
      replace h := dk_let_to ex2_7 h
      refine lv_lstore_n (lv' := [(2, .long x2_7), (0, .ref oN), (1, .int x1), (4, .int st.2)]) hx hb dX4_claimedOutflow_35 rfl hl (by decide) rfl (fun ls hl => ?_)
      refine lv_goto (tgt := 61) hx hb dX4_claimedOutflow_36 (by decide) ?_
      exact kX4_claimedOutflow_61 C hK hA h hE hC _ _ hP hD hS ls (lv_sub hl [1, 2, 0, 3] rfl)
set_option maxHeartbeats 4000000 in
set_option maxRecDepth 100000 in
theorem lX4_claimedOutflow_5 (C : dk_C p s m meth c args cX4_claimedOutflow (some .long) 5 RX4 vsX4_claimedOutflow) (hK : va_K (dC, dI) vwCl (dk_ty cI cJ cZ) s) (hA : ∀ q : Nat, s.heap.size ≤ q → A q) {out : Int64} {x1 : Int32} {n : Nat} {st : Int64 × Int32} {r : Int64} (h : dk_loop (bX4_claimedOutflow_5 N_first N_second N_wireClaim N_wires x1) n st = some r) (hE : ∀ (H : Heap) (locs : List Loc), va_P (dC, dI) vwCl (wX4 oN aN cI cJ cZ N_first N_second N_isCut N_wireClaim N_knotClaim N_turnSize N_turns N_knots N_wires N_power) H → va_D A (wX4 oN aN cI cJ cZ N_first N_second N_isCut N_wireClaim N_knotClaim N_turnSize N_turns N_knots N_wires N_power) → va_S A s.heap H locs → ∀ ls : Array Slot, lv_has ls 5 [(0, .ref oN), (2, .long r)] → W p l e rX4_claimedOutflow s m args below meth c H locs 0 0 (MQ below (dk_Ql (dC, dI) (dk_ty cI cJ cZ) (wX4 oN aN cI cJ cZ N_first N_second N_isCut N_wireClaim N_knotClaim N_turnSize N_turns N_knots N_wires N_power) out A) args s 0 0 A) (F0 m 67 ls [])) : ∀ (H : Heap) (locs : List Loc), va_P (dC, dI) vwCl (wX4 oN aN cI cJ cZ N_first N_second N_isCut N_wireClaim N_knotClaim N_turnSize N_turns N_knots N_wires N_power) H → va_D A (wX4 oN aN cI cJ cZ N_first N_second N_isCut N_wireClaim N_knotClaim N_turnSize N_turns N_knots N_wires N_power) → va_S A s.heap H locs → ∀ ls : Array Slot, lv_has ls 5 [(0, .ref oN), (1, .int x1), (2, .long st.1), (4, .int st.2)] → W p l e rX4_claimedOutflow s m args below meth c H locs 0 0 (MQ below (dk_Ql (dC, dI) (dk_ty cI cJ cZ) (wX4 oN aN cI cJ cZ N_first N_second N_isCut N_wireClaim N_knotClaim N_turnSize N_turns N_knots N_wires N_power) out A) args s 0 0 A) (F0 m 5 ls []) :=
  dk_loopW (P := fun st => ∀ (H : Heap) (locs : List Loc), va_P (dC, dI) vwCl (wX4 oN aN cI cJ cZ N_first N_second N_isCut N_wireClaim N_knotClaim N_turnSize N_turns N_knots N_wires N_power) H → va_D A (wX4 oN aN cI cJ cZ N_first N_second N_isCut N_wireClaim N_knotClaim N_turnSize N_turns N_knots N_wires N_power) → va_S A s.heap H locs → ∀ ls : Array Slot, lv_has ls 5 [(0, .ref oN), (1, .int x1), (2, .long st.1), (4, .int st.2)] → W p l e rX4_claimedOutflow s m args below meth c H locs 0 0 (MQ below (dk_Ql (dC, dI) (dk_ty cI cJ cZ) (wX4 oN aN cI cJ cZ N_first N_second N_isCut N_wireClaim N_knotClaim N_turnSize N_turns N_knots N_wires N_power) out A) args s 0 0 A) (F0 m 5 ls [])) (K := fun r => ∀ (H : Heap) (locs : List Loc), va_P (dC, dI) vwCl (wX4 oN aN cI cJ cZ N_first N_second N_isCut N_wireClaim N_knotClaim N_turnSize N_turns N_knots N_wires N_power) H → va_D A (wX4 oN aN cI cJ cZ N_first N_second N_isCut N_wireClaim N_knotClaim N_turnSize N_turns N_knots N_wires N_power) → va_S A s.heap H locs → ∀ ls : Array Slot, lv_has ls 5 [(0, .ref oN), (2, .long r)] → W p l e rX4_claimedOutflow s m args below meth c H locs 0 0 (MQ below (dk_Ql (dC, dI) (dk_ty cI cJ cZ) (wX4 oN aN cI cJ cZ N_first N_second N_isCut N_wireClaim N_knotClaim N_turnSize N_turns N_knots N_wires N_power) out A) args s 0 0 A) (F0 m 67 ls [])) (fun st y hy k1 k2 => tX4_claimedOutflow_5 C hK hA hy k1 k2) n st r h hE
end
set_option maxHeartbeats 4000000 in
set_option maxRecDepth 100000 in
theorem mX4_claimedOutflow (l : Launch) (dC : Nat → ClassId) (dI : Nat → Nat → Nat) (cI cJ cZ : ClassId) {oN : Nat} {aN : Nat → Nat} {N_first N_second N_isCut N_wireClaim N_knotClaim N_turnSize N_turns : Nat → Int32} {N_knots N_wires N_power : Int32} {x1 : Int32} {out : Int64} (h : fX4_claimedOutflow N_first N_second N_wireClaim N_wires x1 = some out) (sz : Nat) : Met l yX4_claimedOutflow vsX4_claimedOutflow rX4_claimedOutflow (va_Pc [.ref oN, .int x1] (dk_Pre (dC, dI) (dk_ty cI cJ cZ) (wX4 oN aN cI cJ cZ N_first N_second N_isCut N_wireClaim N_knotClaim N_turnSize N_turns N_knots N_wires N_power) sz)) (dk_Ql (dC, dI) (dk_ty cI cJ cZ) (wX4 oN aN cI cJ cZ N_first N_second N_isCut N_wireClaim N_knotClaim N_turnSize N_turns N_knots N_wires N_power) out (va_A (wX4 oN aN cI cJ cZ N_first N_second N_isCut N_wireClaim N_knotClaim N_turnSize N_turns N_knots N_wires N_power) sz)) 0 0 (va_A (wX4 oN aN cI cJ cZ N_first N_second N_isCut N_wireClaim N_knotClaim N_turnSize N_turns N_knots N_wires N_power) sz) := by
  refine dk_met (cc := cX4_claimedOutflow) (maxL := 5) (ret := (some .long)) (Qc := fun A => dk_Ql (dC, dI) (dk_ty cI cJ cZ) (wX4 oN aN cI cJ cZ N_first N_second N_isCut N_wireClaim N_knotClaim N_turnSize N_turns N_knots N_wires N_power) out A) (by decide) rfl (Nat.le_of_ble_eq_true rfl) ?_
  intro p e s m below meth c A C hnm hA hK hP hD hS ls hl
  have C : dk_C p s m meth c _ cX4_claimedOutflow (some .long) 5 RX4 vsX4_claimedOutflow := C
  obtain ⟨hx, hb, hr, hml, hown, hts, hlocks⟩ := id C
  have hl : lv_has ls 5 [(0, .ref oN), (1, .int x1)] := hl
  unfold fX4_claimedOutflow at h
  refine lv_lconst (v := 0) hx hb dX4_claimedOutflow_0 (by decide) ?_
  refine lv_lstore_n (lv' := [(2, .long 0), (0, .ref oN), (1, .int x1)]) hx hb dX4_claimedOutflow_1 rfl hl (by decide) rfl (fun ls hl => ?_)
  refine lv_iconst (v := 0) hx hb dX4_claimedOutflow_2 (by decide) ?_
  refine lv_istore (lv' := [(4, .int 0), (2, .long 0), (0, .ref oN), (1, .int x1)]) hx hb dX4_claimedOutflow_3 hl (by decide) rfl (fun ls hl => ?_)
  obtain ⟨r_1, hLr_1, h⟩ := dk_bnd_to h
  refine lX4_claimedOutflow_5 C hK hA hLr_1 (fun H locs hP hD hS ls hl => ?_) _ _ hP hD hS ls (lv_sub hl [2, 3, 1, 0] rfl)
  refine lv_lload_n hx hb dX4_claimedOutflow_67 rfl (lv_at hl 1 rfl) ?_
  have e9 := Option.some.inj h
  subst e9
  exact dk_lret C hK hP hD hS rfl dX4_claimedOutflow_68
/-! ===== SquareTiler$Net.knotClaimedUneven ===== -/
abbrev rX4_knotClaimedUneven : Room := { frames := 1, cells := 0, slots := 0, locals := 24 }
def ovX4_knotClaimedUneven : List Cond := [Cond.fieldLink RX4 34 "SquareTiler$Net" "knots" "I", Cond.fieldLink RX4 41 "SquareTiler$Net" "power" "I", Cond.methodLink RX4 50 yX4_endsAt, Cond.instanceMethod yX4_endsAt, Cond.selects RX4 yX4_endsAt yX4_endsAt, Cond.initialized RX4, Cond.methodLink RX4 65 yX4_claimedOutflow, Cond.instanceMethod yX4_claimedOutflow, Cond.selects RX4 yX4_claimedOutflow yX4_claimedOutflow]
def vsX4_knotClaimedUneven : List Cond := .code yX4_knotClaimedUneven cX4_knotClaimedUneven 2 (some .int) :: (ovX4_knotClaimedUneven ++ (wsX40 ++ (vsX4_endsAt ++ (vsX4_claimedOutflow ++ []))))
theorem qX4_knotClaimedUneven_f34 : Cond.fieldLink RX4 34 "SquareTiler$Net" "knots" "I" ∈ vsX4_knotClaimedUneven := List.mem_cons_of_mem _ (List.mem_append_left _ (List.mem_of_getElem? (i := 0) rfl))
theorem qX4_knotClaimedUneven_f41 : Cond.fieldLink RX4 41 "SquareTiler$Net" "power" "I" ∈ vsX4_knotClaimedUneven := List.mem_cons_of_mem _ (List.mem_append_left _ (List.mem_of_getElem? (i := 1) rfl))
theorem qX4_knotClaimedUneven_w2 : Cond.methodLink RX4 50 yX4_endsAt ∈ vsX4_knotClaimedUneven := List.mem_cons_of_mem _ (List.mem_append_left _ (List.mem_of_getElem? (i := 2) rfl))
theorem qX4_knotClaimedUneven_w3 : Cond.instanceMethod yX4_endsAt ∈ vsX4_knotClaimedUneven := List.mem_cons_of_mem _ (List.mem_append_left _ (List.mem_of_getElem? (i := 3) rfl))
theorem qX4_knotClaimedUneven_w4 : Cond.selects RX4 yX4_endsAt yX4_endsAt ∈ vsX4_knotClaimedUneven := List.mem_cons_of_mem _ (List.mem_append_left _ (List.mem_of_getElem? (i := 4) rfl))
theorem qX4_knotClaimedUneven_w5 : Cond.initialized RX4 ∈ vsX4_knotClaimedUneven := List.mem_cons_of_mem _ (List.mem_append_left _ (List.mem_of_getElem? (i := 5) rfl))
theorem qX4_knotClaimedUneven_w6 : Cond.methodLink RX4 65 yX4_claimedOutflow ∈ vsX4_knotClaimedUneven := List.mem_cons_of_mem _ (List.mem_append_left _ (List.mem_of_getElem? (i := 6) rfl))
theorem qX4_knotClaimedUneven_w7 : Cond.instanceMethod yX4_claimedOutflow ∈ vsX4_knotClaimedUneven := List.mem_cons_of_mem _ (List.mem_append_left _ (List.mem_of_getElem? (i := 7) rfl))
theorem qX4_knotClaimedUneven_w8 : Cond.selects RX4 yX4_claimedOutflow yX4_claimedOutflow ∈ vsX4_knotClaimedUneven := List.mem_cons_of_mem _ (List.mem_append_left _ (List.mem_of_getElem? (i := 8) rfl))
theorem qX4_knotClaimedUneven_X4 : ∀ w ∈ u_ws RX4 TX4 10, w ∈ vsX4_knotClaimedUneven := fun w h => List.mem_cons_of_mem _ (List.mem_append_right _ (List.mem_append_left _ h))
theorem gd_vsX4_knotClaimedUneven : ∀ w ∈ vsX4_knotClaimedUneven, goodWord w = true := dk_cons rfl (dk_app (dk_all (by decide +kernel)) (dk_app gd_wsX40 (dk_app gd_vsX4_endsAt (dk_app gd_vsX4_claimedOutflow dk_nil))))
theorem gvX4_knotClaimedUneven_X4_endsAt : GoodIn vsX4_knotClaimedUneven (wsV RX4 50 RX4 yX4_endsAt vsX4_endsAt) := goodIn_app (dk_g4 qX4_knotClaimedUneven_w2 qX4_knotClaimedUneven_w3 qX4_knotClaimedUneven_w4 qX4_knotClaimedUneven_w5 rfl) (dk_gIn (fun w h => List.mem_cons_of_mem _ (List.mem_append_right _ (List.mem_append_right _ (List.mem_append_left _ h)))) gd_vsX4_endsAt)
theorem gvX4_knotClaimedUneven_X4_claimedOutflow : GoodIn vsX4_knotClaimedUneven (wsV RX4 65 RX4 yX4_claimedOutflow vsX4_claimedOutflow) := goodIn_app (dk_g4 qX4_knotClaimedUneven_w6 qX4_knotClaimedUneven_w7 qX4_knotClaimedUneven_w8 qX4_knotClaimedUneven_w5 rfl) (dk_gIn (fun w h => List.mem_cons_of_mem _ (List.mem_append_right _ (List.mem_append_right _ (List.mem_append_right _ (List.mem_append_left _ h))))) gd_vsX4_claimedOutflow)
def jX4_knotClaimedUneven_42 (N_first N_second N_wireClaim : Nat → Int32) (N_knots N_wires N_power x1 : Int32) : Option (((Int32) ⊕ (Unit)) ⊕ (Int32)) := dk_let (x1 + 1) (fun x1_9 => some (.inr x1_9))
def bX4_knotClaimedUneven_2 (N_first N_second N_wireClaim : Nat → Int32) (N_knots N_wires N_power : Int32) (st : Int32) : Option (((Int32) ⊕ (Unit)) ⊕ (Int32)) := if N_knots ≤ st then some (.inl (.inr ())) else if N_power = (-1) then jX4_knotClaimedUneven_42 N_first N_second N_wireClaim N_knots N_wires N_power st else dk_bnd (fX4_endsAt N_first N_second N_power st) (fun r_5 => if r_5 = 0 then dk_bnd (fX4_claimedOutflow N_first N_second N_wireClaim N_wires st) (fun r_7 => if (lg_cmp r_7 0) = 0 then jX4_knotClaimedUneven_42 N_first N_second N_wireClaim N_knots N_wires N_power st else some (.inl (.inl st))) else jX4_knotClaimedUneven_42 N_first N_second N_wireClaim N_knots N_wires N_power st)
def fX4_knotClaimedUneven (N_first N_second N_wireClaim : Nat → Int32) (N_knots N_wires N_power : Int32) : Option (Int32) := dk_bnd (dk_loop (bX4_knotClaimedUneven_2 N_first N_second N_wireClaim N_knots N_wires N_power) 1000 0) (fun r_1 => dk_sum r_1 (fun zz => some zz) (fun z_2 => some (-1)))
section
variable {p : Program} {l : Launch} {e : Env} {s : State} {m : MethodId} {args : Array Value} {below : List Frame} {meth : Method} {c : Code} {dC : Nat → ClassId} {dI : Nat → Nat → Nat} {cI cJ cZ : ClassId} {A : Nat → Prop} {oN : Nat} {aN : Nat → Nat} {N_first N_second N_isCut N_wireClaim N_knotClaim N_turnSize N_turns : Nat → Int32} {N_knots N_wires N_power : Int32}
set_option maxHeartbeats 4000000 in
set_option maxRecDepth 100000 in
theorem kX4_knotClaimedUneven_42 (C : dk_C p s m meth c args cX4_knotClaimedUneven (some .int) 2 RX4 vsX4_knotClaimedUneven) (hK : va_K (dC, dI) vwCl (dk_ty cI cJ cZ) s) (hA : ∀ q : Nat, s.heap.size ≤ q → A q) {out : Int32} {x1 : Int32} {y : ((Int32) ⊕ (Unit)) ⊕ (Int32)} (h : jX4_knotClaimedUneven_42 N_first N_second N_wireClaim N_knots N_wires N_power x1 = some y) (hR : ∀ z : Int32, y = .inl (.inl z) → z = out) (hE : ∀ z : Unit, y = .inl (.inr z) → ∀ (H : Heap) (locs : List Loc), va_P (dC, dI) vwCl (wX4 oN aN cI cJ cZ N_first N_second N_isCut N_wireClaim N_knotClaim N_turnSize N_turns N_knots N_wires N_power) H → va_D A (wX4 oN aN cI cJ cZ N_first N_second N_isCut N_wireClaim N_knotClaim N_turnSize N_turns N_knots N_wires N_power) → va_S A s.heap H locs → ∀ ls : Array Slot, lv_has ls 2 [(0, .ref oN)] → W p l e rX4_knotClaimedUneven s m args below meth c H locs 0 0 (MQ below (dk_Qi (dC, dI) (dk_ty cI cJ cZ) (wX4 oN aN cI cJ cZ N_first N_second N_isCut N_wireClaim N_knotClaim N_turnSize N_turns N_knots N_wires N_power) out A) args s 0 0 A) (F0 m 48 ls [])) (hC : ∀ z : Int32, y = .inr z → ∀ (H : Heap) (locs : List Loc), va_P (dC, dI) vwCl (wX4 oN aN cI cJ cZ N_first N_second N_isCut N_wireClaim N_knotClaim N_turnSize N_turns N_knots N_wires N_power) H → va_D A (wX4 oN aN cI cJ cZ N_first N_second N_isCut N_wireClaim N_knotClaim N_turnSize N_turns N_knots N_wires N_power) → va_S A s.heap H locs → ∀ ls : Array Slot, lv_has ls 2 [(0, .ref oN), (1, .int z)] → W p l e rX4_knotClaimedUneven s m args below meth c H locs 0 0 (MQ below (dk_Qi (dC, dI) (dk_ty cI cJ cZ) (wX4 oN aN cI cJ cZ N_first N_second N_isCut N_wireClaim N_knotClaim N_turnSize N_turns N_knots N_wires N_power) out A) args s 0 0 A) (F0 m 2 ls [])) : ∀ (H : Heap) (locs : List Loc), va_P (dC, dI) vwCl (wX4 oN aN cI cJ cZ N_first N_second N_isCut N_wireClaim N_knotClaim N_turnSize N_turns N_knots N_wires N_power) H → va_D A (wX4 oN aN cI cJ cZ N_first N_second N_isCut N_wireClaim N_knotClaim N_turnSize N_turns N_knots N_wires N_power) → va_S A s.heap H locs → ∀ ls : Array Slot, lv_has ls 2 [(0, .ref oN), (1, .int x1)] → W p l e rX4_knotClaimedUneven s m args below meth c H locs 0 0 (MQ below (dk_Qi (dC, dI) (dk_ty cI cJ cZ) (wX4 oN aN cI cJ cZ N_first N_second N_isCut N_wireClaim N_knotClaim N_turnSize N_turns N_knots N_wires N_power) out A) args s 0 0 A) (F0 m 42 ls []) := by
  obtain ⟨hx, hb, hr, hml, hown, hts, hlocks⟩ := id C
  intro H locs hP hD hS ls hl
  unfold jX4_knotClaimedUneven_42 at h
  obtain ⟨x1_9, ex1_9⟩ : ∃ z : Int32, z = x1 + 1 := ⟨_, rfl⟩
  replace h := dk_let_to ex1_9 h
  refine lv_iinc (v := x1_9) (lv' := [(1, .int x1_9), (0, .ref oN)]) hx hb dX4_knotClaimedUneven_42 hl (k := 1) rfl (by rw [ex1_9]; rfl) (by decide) rfl (fun ls hl => ?_)
  refine lv_goto (tgt := 2) hx hb dX4_knotClaimedUneven_45 (by decide) ?_
  exact hC _ (Option.some.inj h).symm _ _ hP hD hS ls (lv_sub hl [1, 0] rfl)
set_option maxHeartbeats 4000000 in
set_option maxRecDepth 100000 in
theorem tX4_knotClaimedUneven_2 (C : dk_C p s m meth c args cX4_knotClaimedUneven (some .int) 2 RX4 vsX4_knotClaimedUneven) (hK : va_K (dC, dI) vwCl (dk_ty cI cJ cZ) s) (hA : ∀ q : Nat, s.heap.size ≤ q → A q) {out : Int32} {st : Int32} {y : ((Int32) ⊕ (Unit)) ⊕ (Int32)} (h : bX4_knotClaimedUneven_2 N_first N_second N_wireClaim N_knots N_wires N_power st = some y) (hR : ∀ z : Int32, y = .inl (.inl z) → z = out) (hE : ∀ z : Unit, y = .inl (.inr z) → ∀ (H : Heap) (locs : List Loc), va_P (dC, dI) vwCl (wX4 oN aN cI cJ cZ N_first N_second N_isCut N_wireClaim N_knotClaim N_turnSize N_turns N_knots N_wires N_power) H → va_D A (wX4 oN aN cI cJ cZ N_first N_second N_isCut N_wireClaim N_knotClaim N_turnSize N_turns N_knots N_wires N_power) → va_S A s.heap H locs → ∀ ls : Array Slot, lv_has ls 2 [(0, .ref oN)] → W p l e rX4_knotClaimedUneven s m args below meth c H locs 0 0 (MQ below (dk_Qi (dC, dI) (dk_ty cI cJ cZ) (wX4 oN aN cI cJ cZ N_first N_second N_isCut N_wireClaim N_knotClaim N_turnSize N_turns N_knots N_wires N_power) out A) args s 0 0 A) (F0 m 48 ls [])) (hC : ∀ z : Int32, y = .inr z → ∀ (H : Heap) (locs : List Loc), va_P (dC, dI) vwCl (wX4 oN aN cI cJ cZ N_first N_second N_isCut N_wireClaim N_knotClaim N_turnSize N_turns N_knots N_wires N_power) H → va_D A (wX4 oN aN cI cJ cZ N_first N_second N_isCut N_wireClaim N_knotClaim N_turnSize N_turns N_knots N_wires N_power) → va_S A s.heap H locs → ∀ ls : Array Slot, lv_has ls 2 [(0, .ref oN), (1, .int z)] → W p l e rX4_knotClaimedUneven s m args below meth c H locs 0 0 (MQ below (dk_Qi (dC, dI) (dk_ty cI cJ cZ) (wX4 oN aN cI cJ cZ N_first N_second N_isCut N_wireClaim N_knotClaim N_turnSize N_turns N_knots N_wires N_power) out A) args s 0 0 A) (F0 m 2 ls [])) : ∀ (H : Heap) (locs : List Loc), va_P (dC, dI) vwCl (wX4 oN aN cI cJ cZ N_first N_second N_isCut N_wireClaim N_knotClaim N_turnSize N_turns N_knots N_wires N_power) H → va_D A (wX4 oN aN cI cJ cZ N_first N_second N_isCut N_wireClaim N_knotClaim N_turnSize N_turns N_knots N_wires N_power) → va_S A s.heap H locs → ∀ ls : Array Slot, lv_has ls 2 [(0, .ref oN), (1, .int st)] → W p l e rX4_knotClaimedUneven s m args below meth c H locs 0 0 (MQ below (dk_Qi (dC, dI) (dk_ty cI cJ cZ) (wX4 oN aN cI cJ cZ N_first N_second N_isCut N_wireClaim N_knotClaim N_turnSize N_turns N_knots N_wires N_power) out A) args s 0 0 A) (F0 m 2 ls []) := by
  obtain ⟨hx, hb, hr, hml, hown, hts, hlocks⟩ := id C
  intro H locs hP hD hS ls hl
  unfold bX4_knotClaimedUneven_2 at h
  refine lv_iload_n hx hb dX4_knotClaimedUneven_2 rfl (lv_at hl 1 rfl) ?_
  refine lv_aload_n hx hb dX4_knotClaimedUneven_3 rfl (lv_at hl 0 rfl) ?_
  refine va_get (D := (dC, dI)) (ci := 4) (v := .int N_knots) (C := RX4) (T := TX4) (N := 10) hx hb hts qX4_knotClaimedUneven_X4 hown hK hP 0 rfl rfl 7 (by decide) (hts _ qX4_knotClaimedUneven_f34) (fun _ h9 => h9) rfl dX4_knotClaimedUneven_4 ?_
  refine lv_icmp_ge (tgt := 48) hx hb dX4_knotClaimedUneven_7 (by decide) (fun c_3 => ?_) (fun c_3 => ?_)
  · replace h := dk_it c_3 h
    exact hE _ (Option.some.inj h).symm _ _ hP hD hS ls (lv_sub hl [0] rfl)
  · replace h := dk_ie c_3 h
    refine lv_aload_n hx hb dX4_knotClaimedUneven_10 rfl (lv_at hl 0 rfl) ?_
    refine va_get (D := (dC, dI)) (ci := 4) (v := .int N_power) (C := RX4) (T := TX4) (N := 10) hx hb hts qX4_knotClaimedUneven_X4 hown hK hP 0 rfl rfl 9 (by decide) (hts _ qX4_knotClaimedUneven_f41) (fun _ h9 => h9) rfl dX4_knotClaimedUneven_11 ?_
    refine lv_iconst (v := (-1)) hx hb dX4_knotClaimedUneven_14 (by decide) ?_
    refine lv_icmp_eq (tgt := 42) hx hb dX4_knotClaimedUneven_15 (by decide) (fun c_4 => ?_) (fun c_4 => ?_)
    · replace h := dk_it c_4 h
      exact kX4_knotClaimedUneven_42 C hK hA h hR hE hC _ _ hP hD hS ls (lv_sub hl [0, 1] rfl)
    · replace h := dk_ie c_4 h
      refine lv_aload_n hx hb dX4_knotClaimedUneven_18 rfl (lv_at hl 0 rfl) ?_
      refine lv_aload_n hx hb dX4_knotClaimedUneven_19 rfl (lv_at hl 0 rfl) ?_
      refine va_get (D := (dC, dI)) (ci := 4) (v := .int N_power) (C := RX4) (T := TX4) (N := 10) hx hb hts qX4_knotClaimedUneven_X4 hown hK hP 0 rfl rfl 9 (by decide) (hts _ qX4_knotClaimedUneven_f41) (fun _ h9 => h9) rfl dX4_knotClaimedUneven_20 ?_
      refine lv_iload_n hx hb dX4_knotClaimedUneven_23 rfl (lv_at hl 1 rfl) ?_
      obtain ⟨r_5, hcr_5, h⟩ := dk_bnd_to h
      refine dk_rVi (b := oN) (As := [.int N_power, .int st]) (rest := []) (wc := (wX4 oN aN cI cJ cZ N_first N_second N_isCut N_wireClaim N_knotClaim N_turnSize N_turns N_knots N_wires N_power)) C hK hP hD hS hA (mX4_endsAt l dC dI cI cJ cZ hcr_5 _) (cwV 2 hts gvX4_knotClaimedUneven_X4_endsAt rfl rfl rfl (by decide +kernel) ⟨Nat.le_of_ble_eq_true rfl, Nat.le_of_ble_eq_true rfl⟩) [0, 1, 2, 3, 4, 5, 6, 7] rfl (by decide) 0 4 rfl rfl rfl hl.1 rfl (Nat.le_of_ble_eq_true rfl) ⟨Nat.le_of_ble_eq_true rfl, Nat.le_of_ble_eq_true rfl⟩ dX4_knotClaimedUneven_24 (fun H locs hP hD hS => ?_)
      refine lv_if_ne (tgt := 42) hx hb dX4_knotClaimedUneven_27 (by decide) (fun c_6 => ?_) (fun c_6 => ?_)
      · replace h := dk_ie c_6 h
        exact kX4_knotClaimedUneven_42 C hK hA h hR hE hC _ _ hP hD hS ls (lv_sub hl [0, 1] rfl)
      · replace h := dk_it c_6 h
        refine lv_aload_n hx hb dX4_knotClaimedUneven_30 rfl (lv_at hl 0 rfl) ?_
        refine lv_iload_n hx hb dX4_knotClaimedUneven_31 rfl (lv_at hl 1 rfl) ?_
        obtain ⟨r_7, hcr_7, h⟩ := dk_bnd_to h
        refine dk_rVl (b := oN) (As := [.int st]) (rest := []) (wc := (wX4 oN aN cI cJ cZ N_first N_second N_isCut N_wireClaim N_knotClaim N_turnSize N_turns N_knots N_wires N_power)) C hK hP hD hS hA (mX4_claimedOutflow l dC dI cI cJ cZ hcr_7 _) (cwV 1 hts gvX4_knotClaimedUneven_X4_claimedOutflow rfl rfl rfl (by decide +kernel) ⟨Nat.le_of_ble_eq_true rfl, Nat.le_of_ble_eq_true rfl⟩) [0, 1, 2, 3, 4, 5, 6, 7] rfl (by decide) 0 4 rfl rfl rfl hl.1 rfl (Nat.le_of_ble_eq_true rfl) ⟨Nat.le_of_ble_eq_true rfl, Nat.le_of_ble_eq_true rfl⟩ dX4_knotClaimedUneven_32 (fun H locs hP hD hS => ?_)
        refine lv_lconst (v := 0) hx hb dX4_knotClaimedUneven_35 (by decide) ?_
        refine W.lcmp hx hb dX4_knotClaimedUneven_36 ?_
        refine lv_if_eq (tgt := 42) hx hb dX4_knotClaimedUneven_37 (by decide) (fun c_8 => ?_) (fun c_8 => ?_)
        · replace h := dk_it c_8 h
          exact kX4_knotClaimedUneven_42 C hK hA h hR hE hC _ _ hP hD hS ls (lv_sub hl [0, 1] rfl)
        · replace h := dk_ie c_8 h
          refine lv_iload_n hx hb dX4_knotClaimedUneven_40 rfl (lv_at hl 1 rfl) ?_
          have e9 := hR _ (Option.some.inj h).symm
          subst e9
          exact dk_iret C hK hP hD hS rfl dX4_knotClaimedUneven_41
set_option maxHeartbeats 4000000 in
set_option maxRecDepth 100000 in
theorem lX4_knotClaimedUneven_2 (C : dk_C p s m meth c args cX4_knotClaimedUneven (some .int) 2 RX4 vsX4_knotClaimedUneven) (hK : va_K (dC, dI) vwCl (dk_ty cI cJ cZ) s) (hA : ∀ q : Nat, s.heap.size ≤ q → A q) {out : Int32} {n : Nat} {st : Int32} {r : (Int32) ⊕ (Unit)} (h : dk_loop (bX4_knotClaimedUneven_2 N_first N_second N_wireClaim N_knots N_wires N_power) n st = some r) (hR : ∀ z : Int32, r = .inl z → z = out) (hE : ∀ z : Unit, r = .inr z → ∀ (H : Heap) (locs : List Loc), va_P (dC, dI) vwCl (wX4 oN aN cI cJ cZ N_first N_second N_isCut N_wireClaim N_knotClaim N_turnSize N_turns N_knots N_wires N_power) H → va_D A (wX4 oN aN cI cJ cZ N_first N_second N_isCut N_wireClaim N_knotClaim N_turnSize N_turns N_knots N_wires N_power) → va_S A s.heap H locs → ∀ ls : Array Slot, lv_has ls 2 [(0, .ref oN)] → W p l e rX4_knotClaimedUneven s m args below meth c H locs 0 0 (MQ below (dk_Qi (dC, dI) (dk_ty cI cJ cZ) (wX4 oN aN cI cJ cZ N_first N_second N_isCut N_wireClaim N_knotClaim N_turnSize N_turns N_knots N_wires N_power) out A) args s 0 0 A) (F0 m 48 ls [])) : ∀ (H : Heap) (locs : List Loc), va_P (dC, dI) vwCl (wX4 oN aN cI cJ cZ N_first N_second N_isCut N_wireClaim N_knotClaim N_turnSize N_turns N_knots N_wires N_power) H → va_D A (wX4 oN aN cI cJ cZ N_first N_second N_isCut N_wireClaim N_knotClaim N_turnSize N_turns N_knots N_wires N_power) → va_S A s.heap H locs → ∀ ls : Array Slot, lv_has ls 2 [(0, .ref oN), (1, .int st)] → W p l e rX4_knotClaimedUneven s m args below meth c H locs 0 0 (MQ below (dk_Qi (dC, dI) (dk_ty cI cJ cZ) (wX4 oN aN cI cJ cZ N_first N_second N_isCut N_wireClaim N_knotClaim N_turnSize N_turns N_knots N_wires N_power) out A) args s 0 0 A) (F0 m 2 ls []) :=
  dk_loopW (P := fun st => ∀ (H : Heap) (locs : List Loc), va_P (dC, dI) vwCl (wX4 oN aN cI cJ cZ N_first N_second N_isCut N_wireClaim N_knotClaim N_turnSize N_turns N_knots N_wires N_power) H → va_D A (wX4 oN aN cI cJ cZ N_first N_second N_isCut N_wireClaim N_knotClaim N_turnSize N_turns N_knots N_wires N_power) → va_S A s.heap H locs → ∀ ls : Array Slot, lv_has ls 2 [(0, .ref oN), (1, .int st)] → W p l e rX4_knotClaimedUneven s m args below meth c H locs 0 0 (MQ below (dk_Qi (dC, dI) (dk_ty cI cJ cZ) (wX4 oN aN cI cJ cZ N_first N_second N_isCut N_wireClaim N_knotClaim N_turnSize N_turns N_knots N_wires N_power) out A) args s 0 0 A) (F0 m 2 ls [])) (K := fun r => (∀ z : Int32, r = .inl z → z = out) ∧ (∀ z : Unit, r = .inr z → ∀ (H : Heap) (locs : List Loc), va_P (dC, dI) vwCl (wX4 oN aN cI cJ cZ N_first N_second N_isCut N_wireClaim N_knotClaim N_turnSize N_turns N_knots N_wires N_power) H → va_D A (wX4 oN aN cI cJ cZ N_first N_second N_isCut N_wireClaim N_knotClaim N_turnSize N_turns N_knots N_wires N_power) → va_S A s.heap H locs → ∀ ls : Array Slot, lv_has ls 2 [(0, .ref oN)] → W p l e rX4_knotClaimedUneven s m args below meth c H locs 0 0 (MQ below (dk_Qi (dC, dI) (dk_ty cI cJ cZ) (wX4 oN aN cI cJ cZ N_first N_second N_isCut N_wireClaim N_knotClaim N_turnSize N_turns N_knots N_wires N_power) out A) args s 0 0 A) (F0 m 48 ls []))) (fun st y hy k1 k2 => tX4_knotClaimedUneven_2 C hK hA hy (fun z e1 => (k1 _ e1).1 z rfl) (fun z e1 => (k1 _ e1).2 z rfl) k2) n st r h ⟨hR, hE⟩
end
set_option maxHeartbeats 4000000 in
set_option maxRecDepth 100000 in
theorem mX4_knotClaimedUneven (l : Launch) (dC : Nat → ClassId) (dI : Nat → Nat → Nat) (cI cJ cZ : ClassId) {oN : Nat} {aN : Nat → Nat} {N_first N_second N_isCut N_wireClaim N_knotClaim N_turnSize N_turns : Nat → Int32} {N_knots N_wires N_power : Int32} {out : Int32} (h : fX4_knotClaimedUneven N_first N_second N_wireClaim N_knots N_wires N_power = some out) (sz : Nat) : Met l yX4_knotClaimedUneven vsX4_knotClaimedUneven rX4_knotClaimedUneven (va_Pc [.ref oN] (dk_Pre (dC, dI) (dk_ty cI cJ cZ) (wX4 oN aN cI cJ cZ N_first N_second N_isCut N_wireClaim N_knotClaim N_turnSize N_turns N_knots N_wires N_power) sz)) (dk_Qi (dC, dI) (dk_ty cI cJ cZ) (wX4 oN aN cI cJ cZ N_first N_second N_isCut N_wireClaim N_knotClaim N_turnSize N_turns N_knots N_wires N_power) out (va_A (wX4 oN aN cI cJ cZ N_first N_second N_isCut N_wireClaim N_knotClaim N_turnSize N_turns N_knots N_wires N_power) sz)) 0 0 (va_A (wX4 oN aN cI cJ cZ N_first N_second N_isCut N_wireClaim N_knotClaim N_turnSize N_turns N_knots N_wires N_power) sz) := by
  refine dk_met (cc := cX4_knotClaimedUneven) (maxL := 2) (ret := (some .int)) (Qc := fun A => dk_Qi (dC, dI) (dk_ty cI cJ cZ) (wX4 oN aN cI cJ cZ N_first N_second N_isCut N_wireClaim N_knotClaim N_turnSize N_turns N_knots N_wires N_power) out A) (by decide) rfl (Nat.le_of_ble_eq_true rfl) ?_
  intro p e s m below meth c A C hnm hA hK hP hD hS ls hl
  have C : dk_C p s m meth c _ cX4_knotClaimedUneven (some .int) 2 RX4 vsX4_knotClaimedUneven := C
  obtain ⟨hx, hb, hr, hml, hown, hts, hlocks⟩ := id C
  have hl : lv_has ls 2 [(0, .ref oN)] := hl
  unfold fX4_knotClaimedUneven at h
  refine lv_iconst (v := 0) hx hb dX4_knotClaimedUneven_0 (by decide) ?_
  refine lv_istore_n (lv' := [(1, .int 0), (0, .ref oN)]) hx hb dX4_knotClaimedUneven_1 rfl hl (by decide) rfl (fun ls hl => ?_)
  obtain ⟨r_1, hLr_1, h⟩ := dk_bnd_to h
  cases r_1 with
  | inl zz =>
    replace h := dk_sum_l h
    have hz := Option.some.inj h
    exact lX4_knotClaimedUneven_2 C hK hA hLr_1 (fun z1 e1 => by cases e1; exact hz) (fun z1 e1 => by cases e1) _ _ hP hD hS ls (lv_sub hl [1, 0] rfl)
  | inr z_2 =>
    replace h := dk_sum_r h
    refine lX4_knotClaimedUneven_2 C hK hA hLr_1 (fun z1 e1 => by cases e1) (fun z1 e1 => ?_) _ _ hP hD hS ls (lv_sub hl [1, 0] rfl)
    have e2 := Sum.inr.inj e1
    subst e2
    intro H locs hP hD hS ls hl
    refine lv_iconst (v := (-1)) hx hb dX4_knotClaimedUneven_48 (by decide) ?_
    have e9 := Option.some.inj h
    subst e9
    exact dk_iret C hK hP hD hS rfl dX4_knotClaimedUneven_49

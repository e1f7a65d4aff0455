/-! ===== BASE 2: a callee's world in the middle, makings, constructors ===== -/
/-- the private constructors of the classes inside: who calls them -/
def dk_nest : List (String × Nat × MethodName) := [(RX6, 11, yX4_init), (RX6, 21, yX0_init), (RX6, 28, yX1_init), (RX6, 35, yX2_init), (RX6, 42, yX5_init), (RX6, 49, yX3_init), (RX2, 11, yX5_init)]
def dk_Nk (U : State) : Prop := ∀ q ∈ dk_nest, va_Nw (.methodLinkNest q.1 q.2.1 q.2.2 "SquareTiler") U
theorem dk_Nk_same {u U : State} (h : u.vm = U.vm) (hN : dk_Nk u) : dk_Nk U := fun q hq => va_Nw.same rfl h (hN q hq)
theorem dk_Nk_warm {s U : State} (hW : s.WarmedH U.vm) (hN : dk_Nk s) : dk_Nk U := fun q hq => va_Nw.warmM hW (hN q hq)
def dk_PreN (D : va_G) (tys : List (ClassId × FieldType)) (w : va_W) (sz : Nat) (U : State) : Prop := dk_Pre D tys w sz U ∧ dk_Nk U
theorem dk_blindN {D : va_G} {tys : List (ClassId × FieldType)} {w : va_W} {sz : Nat} {av : List Value} : FrameBlind (va_Pc av (dk_PreN D tys w sz)) := fun a U g mk q => by
  obtain ⟨q0, ⟨q1, qP, qK, qD⟩, qN⟩ := q
  exact ⟨q0, ⟨q1, qP, va_K.moved (u := U) (U := U.calling g mk a) (Vm.Alike.refl U.vm) qK, qD⟩, dk_Nk_same (u := U) (U := U.calling g mk a) rfl qN⟩
theorem dk_metN {l : Launch} {y : MethodName} {ws ws' : List Cond} {rm : Room} {cc : ByteArray} {maxL : Nat} {ret : Option FieldType} {D : va_G} {tys : List (ClassId × FieldType)} {w : va_W} {sz : Nat} {av : List Value} {Qc : (Nat → Prop) → Array Value → State → Outcome → State → Prop} {mc ms : Nat}
    (hy : plainName y.cls = true) (hw : ws = Cond.code y cc maxL ret :: ws') (hn : (lg_sl av).length ≤ maxL)
    (body : ∀ p e s m below meth c, ∀ A : Nat → Prop, dk_C p s m meth c av.toArray cc ret maxL y.cls ws → meth.name = y.name → dk_Nk s → (∀ q : Nat, s.heap.size ≤ q → A q) → va_K D vwCl tys s → va_P D vwCl w s.heap → va_D A w → va_S A s.heap s.heap [] →
      ∀ ls : Array Slot, lv_has ls maxL (lv_args 0 av) → W p l e rm s m av.toArray below meth c s.heap [] 0 0 (MQ below (Qc A) av.toArray s mc ms A) (F0 m 0 ls [])) :
    Met l y ws rm (va_Pc av (dk_PreN D tys w sz)) (Qc (va_A w sz)) mc ms (va_A w sz) := by
  refine Met.ofW (cc := cc) (maxL := maxL) (ret := ret) hy hw ?_
  intro p e s m args below meth c s₁ B hml hv
  obtain ⟨rfl, ⟨hsz, hP, hK, hD0⟩, hN⟩ := hv
  subst hsz
  rw [lg_entry_eq]
  exact body p e s m below meth c (va_A w s.heap.size) ⟨B.exec, B.bytes, B.returns, hml, findClass_of_methodNamed B.named, atoms_spec (ws := ws) B.pre, B.notSynchronized⟩ (name_of_methodNamed B.named B.method).1 hN (fun q h => Or.inr h) hK hP hD0.self va_S.rf _ (lv_entry av hn)
def dk_Qu {S : Type} (D : va_G) (tys : List (ClassId × FieldType)) (w : S → va_W) (A : Nat → Prop) : Array Value → State → Outcome → State → Prop := va_Qv (S := S) (fun _ => True) (fun u => dk_Post D tys A (w u)) A
def dk_Qui {S : Type} (D : va_G) (tys : List (ClassId × FieldType)) (w : S → va_W) (out : Int32) (A : Nat → Prop) : Array Value → State → Outcome → State → Prop := va_Qi (S := S) (fun r _ => r = out) (fun u => dk_Post D tys A (w u)) A
def dk_ad (l : List Nat) : Nat → Nat := fun k => l.getD k 0
section DkMid
variable {D : va_G} {A : Nat → Prop} {H H1 : Heap} {wa wb wc wc' : va_W} {tys : List (ClassId × FieldType)}
theorem dk_Pl {a b : va_W} (h : va_P D vwCl (a ++ b) H) : va_P D vwCl a H := fun k q hk => h k q (by
  have hlt : k < a.length := (List.getElem?_eq_some_iff.mp hk).1
  rw [List.getElem?_append_left hlt]; exact hk)
theorem dk_Pr {a b : va_W} (h : va_P D vwCl (a ++ b) H) : va_P D vwCl b H := fun k q hk => h (a.length + k) q (by
  rw [List.getElem?_append_right (Nat.le_add_right _ _), Nat.add_sub_cancel_left]; exact hk)
theorem dk_Dl {a b : va_W} (h : va_D A (a ++ b)) : va_D A a := by
  have e : ∀ (k : Nat) (q : Nat × va_E), a[k]? = some q → (a ++ b)[k]? = some q := fun k q hk => by
    have hlt : k < a.length := (List.getElem?_eq_some_iff.mp hk).1
    rw [List.getElem?_append_left hlt]; exact hk
  exact ⟨fun i j p q hp hq hpq => h.1 i j p q (e i p hp) (e j q hq) hpq, fun k q hk => h.2 k q (e k q hk)⟩
theorem dk_Dr {a b : va_W} (h : va_D A (a ++ b)) : va_D A b := by
  have e : ∀ (k : Nat) (q : Nat × va_E), b[k]? = some q → (a ++ b)[a.length + k]? = some q := fun k q hk => by
    rw [List.getElem?_append_right (Nat.le_add_right _ _), Nat.add_sub_cancel_left]; exact hk
  refine ⟨fun i j p q hp hq hpq => ?_, fun k q hk => h.2 _ q (e k q hk)⟩
  have := h.1 _ _ p q (e i p hp) (e j q hq) hpq
  omega
theorem dk_Dx {a b : va_W} (h : va_D A (a ++ b)) : ∀ (i j : Nat) (p q : Nat × va_E), a[i]? = some p → b[j]? = some q → p.1 ≠ q.1 := by
  intro i j p q hp hq hpq
  have hlt : i < a.length := (List.getElem?_eq_some_iff.mp hp).1
  have := h.1 i (a.length + j) p q (by rw [List.getElem?_append_left hlt]; exact hp) (by rw [List.getElem?_append_right (Nat.le_add_right _ _), Nat.add_sub_cancel_left]; exact hq) hpq
  omega
theorem dk_mid {u : State} (hP : va_P D vwCl (wa ++ (wc ++ wb)) H) (hD : va_D A (wa ++ (wc ++ wb))) (hF : ∀ q, va_A wc H.size q → A q) (hk : ∀ q : Nat, q < H.size → ¬ va_A wc H.size q → H1[q]? = H[q]?) (hPo : dk_Post D tys (va_A wc H.size) wc' u) (hu : u.heap = H1) :
    va_P D vwCl (wa ++ (wc' ++ wb)) H1 ∧ va_D A (wa ++ (wc' ++ wb)) := by
  obtain ⟨hP1, -, hD1⟩ := hPo
  rw [hu] at hP1
  have hPa := dk_Pl hP
  have hPb := dk_Pr (dk_Pr hP)
  have hDa := dk_Dl hD
  have hDb := dk_Dr (dk_Dr hD)
  have nota : ∀ (k : Nat) (q : Nat × va_E), wa[k]? = some q → ¬ va_A wc H.size q.1 := by
    intro k q hq h
    rcases h with ⟨j, e, hj⟩ | h
    · have hlt : j < wc.length := (List.getElem?_eq_some_iff.mp hj).1
      exact dk_Dx hD k j q (q.1, e) hq (by rw [List.getElem?_append_left hlt]; exact hj) rfl
    · exact absurd (hPa k q hq).lt (Nat.not_lt.mpr h)
  have notb : ∀ (k : Nat) (q : Nat × va_E), wb[k]? = some q → ¬ va_A wc H.size q.1 := by
    intro k q hq h
    rcases h with ⟨j, e, hj⟩ | h
    · exact dk_Dx (dk_Dr hD) j k (q.1, e) q hj hq rfl
    · exact absurd (hPb k q hq).lt (Nat.not_lt.mpr h)
  have hPa1 : va_P D vwCl wa H1 := fun k q hq => (hPa k q hq).kept (hk q.1 (hPa k q hq).lt (nota k q hq))
  have hPb1 : va_P D vwCl wb H1 := fun k q hq => (hPb k q hq).kept (hk q.1 (hPb k q hq).lt (notb k q hq))
  have hDc' : va_D A wc' := hD1.weaken (fun k q hq h => hF q.1 h)
  have x1 : ∀ (i j : Nat) (p q : Nat × va_E), wc'[i]? = some p → wb[j]? = some q → p.1 ≠ q.1 := by
    intro i j p q hp hq e
    exact notb j q hq (by rw [← e]; exact hD1.2 i p hp)
  have hDcb : va_D A (wc' ++ wb) := va_D.app hDc' hDb x1
  have x2 : ∀ (i j : Nat) (p q : Nat × va_E), wa[i]? = some p → (wc' ++ wb)[j]? = some q → p.1 ≠ q.1 := by
    intro i j p q hp hq e
    rcases Nat.lt_or_ge j wc'.length with hj | hj
    · rw [List.getElem?_append_left hj] at hq
      exact nota i p hp (by rw [e]; exact hD1.2 j q hq)
    · rw [List.getElem?_append_right hj] at hq
      have hlt : j - wc'.length < wb.length := (List.getElem?_eq_some_iff.mp hq).1
      exact dk_Dx hD i (wc.length + (j - wc'.length)) p q hp (by rw [List.getElem?_append_right (Nat.le_add_right _ _), Nat.add_sub_cancel_left]; exact hq) e
  exact ⟨hPa1.app (hP1.app hPb1), va_D.app hDa hDcb x2⟩
theorem dk_midF {H0 : Heap} {locs : List Loc} (hP : va_P D vwCl (wa ++ (wc ++ wb)) H) (hD : va_D A (wa ++ (wc ++ wb))) (hS : va_S A H0 H locs) (hA : ∀ q, H0.size ≤ q → A q) : ∀ q, va_A wc H.size q → A q := by
  intro q h
  rcases h with ⟨k, e, h⟩ | h
  · exact (dk_Dl (dk_Dr hD)).2 k (q, e) h
  · exact hA q (Nat.le_trans hS.1 h)
end DkMid
section DkCallM
variable {p : Program} {l : Launch} {e : Env} {R : Room} {s : State} {m : MethodId} {args : Array Value} {below : List Frame} {meth : Method} {c : Code} {H : Heap} {locs : List Loc} {cells slots : Nat} {Q : State → Prop} {cc : ByteArray} {maxL : Nat} {ret : Option FieldType} {own : String} {Ts : List Cond} {D : va_G} {tys : List (ClassId × FieldType)} {A : Nat → Prop} {H0 : Heap} {pc : Nat} {ls : Array Slot}
  {y : MethodName} {wsc : List Cond} {rm : Room} {bytes : ByteArray} {maxL' : Nat} {ret' : Option FieldType} {index n : Nat} {C' : String} {wa wb wc wc' wr ws ws' : va_W} {As rest st0 : List Value} {b : Nat}
theorem dk_mVi {out : Int32} (C : dk_C p s m meth c args cc ret maxL own Ts) (hK : va_K D vwCl tys s) (hP : va_P D vwCl (wa ++ (wc ++ wb)) H) (hD : va_D A (wa ++ (wc ++ wb))) (hS : va_S A H0 H locs) (hA : ∀ q, H0.size ≤ q → A q)
    (hM : Met l y wsc rm (va_Pc (.ref b :: As) (dk_Pre D tys wc H.size)) (dk_Qi D tys wc' out (va_A wc H.size)) 0 0 (va_A wc H.size)) (cw : CallW R s args own C' index y bytes maxL' ret' wsc rm 0 0 n)
    (q0 ci : Nat) {fs : List Value} {T : u_T} {N : Nat} (he : wc[q0]? = some (b, .inr (ci, fs))) (hc : vwCl[ci]? = some (C', T, N)) (hn : As.length = n) (hl : ls.size = maxL) (hst : st0 = As.reverse ++ .ref b :: rest) (hro : (rest.map fun v => v.category).sum ≤ 8) (hcl : cells ≤ R.cells ∧ slots ≤ R.slots) (hdg : decode cc pc = .ok (.invokevirtual index, 3))
    (kk : ∀ (H1 : Heap) (locs1 : List Loc), va_P D vwCl (wa ++ (wc' ++ wb)) H1 → va_D A (wa ++ (wc' ++ wb)) → va_S A H0 H1 locs1 → W p l e R s m args below meth c H1 locs1 cells slots Q (F0 m (pc + 3) ls (.int out :: rest))) :
    W p l e R s m args below meth c H locs cells slots Q (F0 m pc ls st0) := by
  obtain ⟨hx, hb, hr, hml, hown, hts, hlocks⟩ := C
  have hFc := dk_midF hP hD hS hA
  have hPc := dk_Pl (dk_Pr hP)
  have hDc := dk_Dl (dk_Dr hD)
  refine va_calli (va_runV (As := As) (rest := rest) ⟨hx, hb, hml, hown, hts⟩ hM cw ⟨dk_blind, va_recv hK hPc hc he, fun U hU hW => ⟨rfl, by rw [hU], by rw [hU]; exact hPc, va_K.moved hW.alike hK, hDc.weaken (fun _ _ _ _ => trivial)⟩⟩ rfl hn hl hst (lv_room hro) hdg hcl) hS (fun q _ h => hFc q h) hFc (fun r u t H1 locs ht hvm hw hBo hz1 hk1 hS1 => ?_)
  have hw : r = out := hw
  subst hw
  obtain ⟨hP2, hD2⟩ := dk_mid hP hD hFc hk1 hBo ht
  exact kk H1 locs hP2 hD2 hS1
theorem dk_mVl {out : Int64} (C : dk_C p s m meth c args cc ret maxL own Ts) (hK : va_K D vwCl tys s) (hP : va_P D vwCl (wa ++ (wc ++ wb)) H) (hD : va_D A (wa ++ (wc ++ wb))) (hS : va_S A H0 H locs) (hA : ∀ q, H0.size ≤ q → A q)
    (hM : Met l y wsc rm (va_Pc (.ref b :: As) (dk_Pre D tys wc H.size)) (dk_Ql D tys wc' out (va_A wc H.size)) 0 0 (va_A wc H.size)) (cw : CallW R s args own C' index y bytes maxL' ret' wsc rm 0 0 n)
    (q0 ci : Nat) {fs : List Value} {T : u_T} {N : Nat} (he : wc[q0]? = some (b, .inr (ci, fs))) (hc : vwCl[ci]? = some (C', T, N)) (hn : As.length = n) (hl : ls.size = maxL) (hst : st0 = As.reverse ++ .ref b :: rest) (hro : (rest.map fun v => v.category).sum ≤ 8) (hcl : cells ≤ R.cells ∧ slots ≤ R.slots) (hdg : decode cc pc = .ok (.invokevirtual index, 3))
    (kk : ∀ (H1 : Heap) (locs1 : List Loc), va_P D vwCl (wa ++ (wc' ++ wb)) H1 → va_D A (wa ++ (wc' ++ wb)) → va_S A H0 H1 locs1 → W p l e R s m args below meth c H1 locs1 cells slots Q (F0 m (pc + 3) ls (.long out :: rest))) :
    W p l e R s m args below meth c H locs cells slots Q (F0 m pc ls st0) := by
  obtain ⟨hx, hb, hr, hml, hown, hts, hlocks⟩ := C
  have hFc := dk_midF hP hD hS hA
  have hPc := dk_Pl (dk_Pr hP)
  have hDc := dk_Dl (dk_Dr hD)
  refine va_calll (va_runV (As := As) (rest := rest) ⟨hx, hb, hml, hown, hts⟩ hM cw ⟨dk_blind, va_recv hK hPc hc he, fun U hU hW => ⟨rfl, by rw [hU], by rw [hU]; exact hPc, va_K.moved hW.alike hK, hDc.weaken (fun _ _ _ _ => trivial)⟩⟩ rfl hn hl hst (lv_room hro) hdg hcl) hS (fun q _ h => hFc q h) hFc (fun r u t H1 locs ht hvm hw hBo hz1 hk1 hS1 => ?_)
  have hw : r = out := hw
  subst hw
  obtain ⟨hP2, hD2⟩ := dk_mid hP hD hFc hk1 hBo ht
  exact kk H1 locs hP2 hD2 hS1
/-- a private constructor of a class inside -/
theorem dk_cIN {S : Type} {wn : S → va_W} {mc ms : Nat} (C : dk_C p s m meth c args cc ret maxL own Ts) (hN : dk_Nk s) (hK : va_K D vwCl tys s) (hP : va_P D vwCl (wa ++ (wc ++ wb)) H) (hD : va_D A (wa ++ (wc ++ wb))) (hS : va_S A H0 H locs) (hA : ∀ q, H0.size ≤ q → A q)
    (hM : Met l y wsc rm (va_Pc [.ref b] (dk_PreN D tys wc H.size)) (dk_Qu D tys wn (va_A wc H.size)) mc ms (va_A wc H.size)) (cw : va_CN R s args own index y "SquareTiler" bytes maxL' none wsc rm mc ms 0 ∧ y.name = "<init>" ∧ (Cond.instanceMethod y).before args s = true)
    (hl : ls.size = maxL) (hst : st0 = .ref b :: rest) (hro : (rest.map fun v => v.category).sum ≤ 8) (hcl : cells + mc ≤ R.cells ∧ slots + ms ≤ R.slots) (hdg : decode cc pc = .ok (.invokespecial index, 3))
    (kk : ∀ (u : S) (H1 : Heap) (locs1 : List Loc), va_P D vwCl (wa ++ (wn u ++ wb)) H1 → va_D A (wa ++ (wn u ++ wb)) → va_S A H0 H1 locs1 → W p l e R s m args below meth c H1 locs1 (cells + mc) (slots + ms) Q (F0 m (pc + 3) ls rest)) :
    W p l e R s m args below meth c H locs cells slots Q (F0 m pc ls st0) := by
  obtain ⟨hx, hb, hr, hml, hown, hts, hlocks⟩ := C
  have hFc := dk_midF hP hD hS hA
  have hPc := dk_Pl (dk_Pr hP)
  have hDc := dk_Dl (dk_Dr hD)
  refine va_callv (va_runIN (As := []) (rest := rest) ⟨hx, hb, hml, hown, hts⟩ hM cw ⟨dk_blindN, fun U hU hW => ⟨rfl, ⟨by rw [hU], by rw [hU]; exact hPc, va_K.moved hW.alike hK, hDc.weaken (fun _ _ _ _ => trivial)⟩, dk_Nk_warm hW hN⟩⟩ rfl rfl hl hst (lv_room hro) hdg hcl) hS (fun q _ h => hFc q h) hFc (fun u t H1 locs ht hvm hw hBo hz1 hk1 hS1 => ?_)
  obtain ⟨hP2, hD2⟩ := dk_mid hP hD hFc hk1 hBo ht
  exact kk u H1 locs hP2 hD2 hS1
/-- a public constructor -/
theorem dk_cI {S : Type} {wn : S → va_W} {mc ms : Nat} (C : dk_C p s m meth c args cc ret maxL own Ts) (hN : dk_Nk s) (hK : va_K D vwCl tys s) (hP : va_P D vwCl (wa ++ (wc ++ wb)) H) (hD : va_D A (wa ++ (wc ++ wb))) (hS : va_S A H0 H locs) (hA : ∀ q, H0.size ≤ q → A q)
    (hM : Met l y wsc rm (va_Pc [.ref b] (dk_PreN D tys wc H.size)) (dk_Qu D tys wn (va_A wc H.size)) mc ms (va_A wc H.size)) (cw : CallB R s args own index y bytes maxL' none wsc rm mc ms 0 ∧ y.name = "<init>" ∧ (Cond.instanceMethod y).before args s = true)
    (hl : ls.size = maxL) (hst : st0 = .ref b :: rest) (hro : (rest.map fun v => v.category).sum ≤ 8) (hcl : cells + mc ≤ R.cells ∧ slots + ms ≤ R.slots) (hdg : decode cc pc = .ok (.invokespecial index, 3))
    (kk : ∀ (u : S) (H1 : Heap) (locs1 : List Loc), va_P D vwCl (wa ++ (wn u ++ wb)) H1 → va_D A (wa ++ (wn u ++ wb)) → va_S A H0 H1 locs1 → W p l e R s m args below meth c H1 locs1 (cells + mc) (slots + ms) Q (F0 m (pc + 3) ls rest)) :
    W p l e R s m args below meth c H locs cells slots Q (F0 m pc ls st0) := by
  obtain ⟨hx, hb, hr, hml, hown, hts, hlocks⟩ := C
  have hFc := dk_midF hP hD hS hA
  have hPc := dk_Pl (dk_Pr hP)
  have hDc := dk_Dl (dk_Dr hD)
  refine va_callv (va_runI (As := []) (rest := rest) ⟨hx, hb, hml, hown, hts⟩ hM cw ⟨dk_blindN, fun U hU hW => ⟨rfl, ⟨by rw [hU], by rw [hU]; exact hPc, va_K.moved hW.alike hK, hDc.weaken (fun _ _ _ _ => trivial)⟩, dk_Nk_warm hW hN⟩⟩ rfl rfl hl hst (lv_room hro) hdg hcl) hS (fun q _ h => hFc q h) hFc (fun u t H1 locs ht hvm hw hBo hz1 hk1 hS1 => ?_)
  obtain ⟨hP2, hD2⟩ := dk_mid hP hD hFc hk1 hBo ht
  exact kk u H1 locs hP2 hD2 hS1
/-- keep() with nothing kept: cells come -/
theorem dk_mVui {S : Type} {wn : S → va_W} {mc ms : Nat} {out : Int32} (C : dk_C p s m meth c args cc ret maxL own Ts) (hN : dk_Nk s) (hK : va_K D vwCl tys s) (hP : va_P D vwCl (wa ++ (wc ++ wb)) H) (hD : va_D A (wa ++ (wc ++ wb))) (hS : va_S A H0 H locs) (hA : ∀ q, H0.size ≤ q → A q)
    (hM : Met l y wsc rm (va_Pc (.ref b :: As) (dk_PreN D tys wc H.size)) (dk_Qui D tys wn out (va_A wc H.size)) mc ms (va_A wc H.size)) (cw : CallW R s args own C' index y bytes maxL' ret' wsc rm mc ms n)
    (q0 ci : Nat) {fs : List Value} {T : u_T} {N : Nat} (he : wc[q0]? = some (b, .inr (ci, fs))) (hc : vwCl[ci]? = some (C', T, N)) (hn : As.length = n) (hl : ls.size = maxL) (hst : st0 = As.reverse ++ .ref b :: rest) (hro : (rest.map fun v => v.category).sum ≤ 8) (hcl : cells + mc ≤ R.cells ∧ slots + ms ≤ R.slots) (hdg : decode cc pc = .ok (.invokevirtual index, 3))
    (kk : ∀ (u : S) (H1 : Heap) (locs1 : List Loc), va_P D vwCl (wa ++ (wn u ++ wb)) H1 → va_D A (wa ++ (wn u ++ wb)) → va_S A H0 H1 locs1 → W p l e R s m args below meth c H1 locs1 (cells + mc) (slots + ms) Q (F0 m (pc + 3) ls (.int out :: rest))) :
    W p l e R s m args below meth c H locs cells slots Q (F0 m pc ls st0) := by
  obtain ⟨hx, hb, hr, hml, hown, hts, hlocks⟩ := C
  have hFc := dk_midF hP hD hS hA
  have hPc := dk_Pl (dk_Pr hP)
  have hDc := dk_Dl (dk_Dr hD)
  refine va_calli (va_runV (As := As) (rest := rest) ⟨hx, hb, hml, hown, hts⟩ hM cw ⟨dk_blindN, va_recv hK hPc hc he, fun U hU hW => ⟨rfl, ⟨by rw [hU], by rw [hU]; exact hPc, va_K.moved hW.alike hK, hDc.weaken (fun _ _ _ _ => trivial)⟩, dk_Nk_warm hW hN⟩⟩ rfl hn hl hst (lv_room hro) hdg hcl) hS (fun q _ h => hFc q h) hFc (fun r u t H1 locs ht hvm hw hBo hz1 hk1 hS1 => ?_)
  have hw : r = out := hw
  subst hw
  obtain ⟨hP2, hD2⟩ := dk_mid hP hD hFc hk1 hBo ht
  exact kk u H1 locs hP2 hD2 hS1
variable {cI cJ cZ : ClassId}
theorem dk_newI {v : Int32} {N' : Nat} (hx : p.tables.exec = Jvm.exec) (hb : c.code = cc) (harr : (Cond.arrayClass .int).before args s = true) (hK : va_K D vwCl (dk_ty cI cJ cZ) s) (hP : va_P D vwCl ws H) (hD : va_D A ws) (hS : va_S A H0 H locs) (hA : ∀ q, H0.size ≤ q → A q) (hn : ¬ v < 0) (hN : v.toNatClampNeg = N') (hbytes : N' * componentBytes .int ≤ 536870912) (hcells : cells + 1 ≤ R.cells) (hslots : slots + N' ≤ R.slots) (hdg : decode cc pc = .ok (.newarray .int, 2))
    (kk : ∀ (q : Nat) (H1 : Heap), va_P D vwCl (ws ++ [(q, .inl (cI, N', .inl (fun _ => 0)))]) H1 → va_D A (ws ++ [(q, .inl (cI, N', .inl (fun _ => 0)))]) → va_S A H0 H1 locs → W p l e R s m args below meth c H1 locs (cells + 1) (slots + N') Q (F0 m (pc + 2) ls (.ref q :: rest))) :
    W p l e R s m args below meth c H locs cells slots Q (F0 m pc ls (.int v :: rest)) := by
  refine va_newa (atype := .int) (ty := .int) hx hb harr rfl hK hP hD hS hA (a0 := (N', .inl (fun _ => 0))) (fun _ => rfl) hn hN hbytes hcells hslots hdg (fun q cA H1 hK' hP' hD' hS' => ?_)
  have e1 := va_nm_int (hK'.2 3 (cA, .int) rfl).2
  have e2 := va_nm_int (hK.2 0 (cI, .int) rfl).2
  have e3 : cA = cI := Option.some.inj (e1.symm.trans e2)
  subst e3
  exact kk q H1 hP' hD' hS'
theorem dk_newJ {v : Int32} {N' : Nat} (hx : p.tables.exec = Jvm.exec) (hb : c.code = cc) (harr : (Cond.arrayClass .long).before args s = true) (hK : va_K D vwCl (dk_ty cI cJ cZ) s) (hP : va_P D vwCl ws H) (hD : va_D A ws) (hS : va_S A H0 H locs) (hA : ∀ q, H0.size ≤ q → A q) (hn : ¬ v < 0) (hN : v.toNatClampNeg = N') (hbytes : N' * componentBytes .long ≤ 536870912) (hcells : cells + 1 ≤ R.cells) (hslots : slots + N' ≤ R.slots) (hdg : decode cc pc = .ok (.newarray .long, 2))
    (kk : ∀ (q : Nat) (H1 : Heap), va_P D vwCl (ws ++ [(q, .inl (cJ, N', .inr (.inl (fun _ => 0))))]) H1 → va_D A (ws ++ [(q, .inl (cJ, N', .inr (.inl (fun _ => 0))))]) → va_S A H0 H1 locs → W p l e R s m args below meth c H1 locs (cells + 1) (slots + N') Q (F0 m (pc + 2) ls (.ref q :: rest))) :
    W p l e R s m args below meth c H locs cells slots Q (F0 m pc ls (.int v :: rest)) := by
  refine va_newa (atype := .long) (ty := .long) hx hb harr rfl hK hP hD hS hA (a0 := (N', .inr (.inl (fun _ => 0)))) (fun _ => rfl) hn hN hbytes hcells hslots hdg (fun q cA H1 hK' hP' hD' hS' => ?_)
  have e1 := va_nm_long (hK'.2 3 (cA, .long) rfl).2
  have e2 := va_nm_long (hK.2 1 (cJ, .long) rfl).2
  have e3 : cA = cJ := Option.some.inj (e1.symm.trans e2)
  subst e3
  exact kk q H1 hP' hD' hS'
theorem dk_newZ {v : Int32} {N' : Nat} (hx : p.tables.exec = Jvm.exec) (hb : c.code = cc) (harr : (Cond.arrayClass .boolean).before args s = true) (hK : va_K D vwCl (dk_ty cI cJ cZ) s) (hP : va_P D vwCl ws H) (hD : va_D A ws) (hS : va_S A H0 H locs) (hA : ∀ q, H0.size ≤ q → A q) (hn : ¬ v < 0) (hN : v.toNatClampNeg = N') (hbytes : N' * componentBytes .boolean ≤ 536870912) (hcells : cells + 1 ≤ R.cells) (hslots : slots + N' ≤ R.slots) (hdg : decode cc pc = .ok (.newarray .boolean, 2))
    (kk : ∀ (q : Nat) (H1 : Heap), va_P D vwCl (ws ++ [(q, .inl (cZ, N', .inl (fun _ => 0)))]) H1 → va_D A (ws ++ [(q, .inl (cZ, N', .inl (fun _ => 0)))]) → va_S A H0 H1 locs → W p l e R s m args below meth c H1 locs (cells + 1) (slots + N') Q (F0 m (pc + 2) ls (.ref q :: rest))) :
    W p l e R s m args below meth c H locs cells slots Q (F0 m pc ls (.int v :: rest)) := by
  refine va_newa (atype := .boolean) (ty := .boolean) hx hb harr rfl hK hP hD hS hA (a0 := (N', .inl (fun _ => 0))) (fun _ => rfl) hn hN hbytes hcells hslots hdg (fun q cA H1 hK' hP' hD' hS' => ?_)
  have e1 := va_nm_boolean (hK'.2 3 (cA, .boolean) rfl).2
  have e2 := va_nm_boolean (hK.2 2 (cZ, .boolean) rfl).2
  have e3 : cA = cZ := Option.some.inj (e1.symm.trans e2)
  subst e3
  exact kk q H1 hP' hD' hS'
theorem dk_uret {S : Type} {wn : S → va_W} (u : S) (C : dk_C p s m meth c args cc none maxL own Ts) (hK : va_K D vwCl tys s) (hP : va_P D vwCl (wn u) H) (hD : va_D A (wn u)) (hS : va_S A s.heap H locs) (hdg : decode cc pc = .ok (.return_, 1)) :
    W p l e R s m args below meth c H locs cells slots (MQ below (dk_Qu D tys wn A) args s cells slots A) (F0 m pc ls []) := by
  obtain ⟨hx, hb, hr, hml, hown, hts, hlocks⟩ := C
  exact W.vret hx hb hr (fun t ht hW => ⟨⟨u, rfl, trivial, by rw [ht]; exact hP, va_K.moved hW.alike hK, hD⟩, hS.F ht⟩) hS.2.2 hdg
theorem dk_uiret {S : Type} {wn : S → va_W} {v out : Int32} (u : S) (C : dk_C p s m meth c args cc (some .int) maxL own Ts) (hK : va_K D vwCl tys s) (hP : va_P D vwCl (wn u) H) (hD : va_D A (wn u)) (hS : va_S A s.heap H locs) (hv : v = out) (hdg : decode cc pc = .ok (.ireturn, 1)) :
    W p l e R s m args below meth c H locs cells slots (MQ below (dk_Qui D tys wn out A) args s cells slots A) (F0 m pc ls [.int v]) := by
  obtain ⟨hx, hb, hr, hml, hown, hts, hlocks⟩ := C
  exact W.iret hx hb hr (fun t ht hW => ⟨⟨v, u, rfl, hv, by rw [ht]; exact hP, va_K.moved hW.alike hK, hD⟩, hS.F ht⟩) hS.2.2 hdg
end DkCallM

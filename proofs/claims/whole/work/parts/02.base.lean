abbrev vwCl : List vw_C := [(RX0, TX0, 3), (RX1, TX1, 8), (RX2, TX2, 8), (RX3, TX3, 3), (RX4, TX4, 10), (RX5, TX5, 4), (RX6, TX6, 7), (RX7, TX7, 40)]
/-! ===== words of a method: its own, its classes', its callees' ===== -/
theorem goodIn_app {big a b : List Cond} (ha : GoodIn big a) (hb : GoodIn big b) : GoodIn big (a ++ b) := fun w h => (List.mem_append.mp h).elim (ha w) (hb w)
theorem dk_gIn {big ws : List Cond} (hm : ∀ w ∈ ws, w ∈ big) (hg : ∀ w ∈ ws, goodWord w = true) : GoodIn big ws := fun w h => ⟨hm w h, good_of_word (hg w h)⟩
theorem dk_nil : ∀ w ∈ ([] : List Cond), goodWord w = true := fun _ h => absurd h List.not_mem_nil
theorem dk_cons {a : Cond} {l : List Cond} (h : goodWord a = true) (hl : ∀ w ∈ l, goodWord w = true) : ∀ w ∈ a :: l, goodWord w = true := List.forall_mem_cons.mpr ⟨h, hl⟩
theorem dk_app {a b : List Cond} (ha : ∀ w ∈ a, goodWord w = true) (hb : ∀ w ∈ b, goodWord w = true) : ∀ w ∈ a ++ b, goodWord w = true := List.forall_mem_append.mpr ⟨ha, hb⟩
theorem dk_all {l : List Cond} (h : l.all goodWord = true) : ∀ w ∈ l, goodWord w = true := List.all_eq_true.mp h
theorem dk_g4 {big : List Cond} {a b c d : Cond} (ha : a ∈ big) (hb : b ∈ big) (hc : c ∈ big) (hd : d ∈ big) (h : [a, b, c, d].all goodWord = true) : GoodIn big [a, b, c, d] := dk_gIn (List.forall_mem_cons.mpr ⟨ha, List.forall_mem_cons.mpr ⟨hb, List.forall_mem_cons.mpr ⟨hc, List.forall_mem_cons.mpr ⟨hd, fun _ h => absurd h List.not_mem_nil⟩⟩⟩⟩) (dk_all h)
theorem dk_g3 {big : List Cond} {a b c : Cond} (ha : a ∈ big) (hb : b ∈ big) (hc : c ∈ big) (h : [a, b, c].all goodWord = true) : GoodIn big [a, b, c] := dk_gIn (List.forall_mem_cons.mpr ⟨ha, List.forall_mem_cons.mpr ⟨hb, List.forall_mem_cons.mpr ⟨hc, fun _ h => absurd h List.not_mem_nil⟩⟩⟩) (dk_all h)
theorem gd_wsX00 : ∀ w ∈ wsX00, goodWord w = true := dk_all (by decide +kernel)
theorem gd_wsX10 : ∀ w ∈ wsX10, goodWord w = true := dk_all (by decide +kernel)
theorem gd_wsX20 : ∀ w ∈ wsX20, goodWord w = true := dk_all (by decide +kernel)
theorem gd_wsX30 : ∀ w ∈ wsX30, goodWord w = true := dk_all (by decide +kernel)
theorem gd_wsX40 : ∀ w ∈ wsX40, goodWord w = true := dk_all (by decide +kernel)
theorem gd_wsX50 : ∀ w ∈ wsX50, goodWord w = true := dk_all (by decide +kernel)
theorem gd_wsX60 : ∀ w ∈ wsX60, goodWord w = true := dk_all (by decide +kernel)
theorem gd_wsX70 : ∀ w ∈ wsX70, goodWord w = true := dk_all (by decide +kernel)
/-! ===== BASE: the pure words of the decompiled methods, and the rows that tie them to the machine ===== -/
def dk_let {α β : Type} (e : α) (k : α → β) : β := k e
def dk_gd {β : Type} (b : Bool) (k : Option β) : Option β := match b with
  | true => k
  | false => none
def dk_bnd {α β : Type} (x : Option α) (k : α → Option β) : Option β := match x with
  | none => none
  | some a => k a
def dk_in (i : Int32) (n : Nat) : Bool := decide (¬ (i < 0 ∨ n ≤ i.toNatClampNeg))
def dk_nz (y : Int64) : Bool := decide (¬ y = 0)
def dk_nzi (y : Int32) : Bool := decide (¬ y = 0)
def dk_bo (y : Int32) : Bool := decide (y = 0 ∨ y = 1)
def dk_bos (f : Nat → Int32) : Nat → Bool
  | 0 => true
  | n + 1 => dk_bo (f n) && dk_bos f n
def dk_loop {σ ρ : Type} (body : σ → Option (ρ ⊕ σ)) : Nat → σ → Option ρ
  | 0, _ => none
  | n + 1, s => match body s with
    | none => none
    | some (.inl r) => some r
    | some (.inr s') => dk_loop body n s'
theorem dk_let_to {α β : Type} {x e : α} {k : α → β} {o : β} (hx : x = e) (h : dk_let e k = o) : k x = o := by
  subst hx
  exact h
theorem dk_let_id {α β : Type} {e : α} {k : α → β} {o : β} (h : dk_let e k = o) : k e = o := h
theorem dk_gd_to {β : Type} {b : Bool} {k : Option β} {o : β} (h : dk_gd b k = some o) : b = true ∧ k = some o := by
  cases b with
  | true => exact ⟨rfl, h⟩
  | false => cases h
theorem dk_bnd_to {α β : Type} {x : Option α} {k : α → Option β} {o : β} (h : dk_bnd x k = some o) : ∃ a, x = some a ∧ k a = some o := by
  cases x with
  | none => cases h
  | some a => exact ⟨a, rfl, h⟩
theorem dk_in_to {i : Int32} {n : Nat} (h : dk_in i n = true) : vp_in i n := by
  have h2 : ¬ (i < 0 ∨ n ≤ i.toNatClampNeg) := of_decide_eq_true h
  exact h2
theorem dk_nz_to {y : Int64} (h : dk_nz y = true) : ¬ y = 0 := of_decide_eq_true h
theorem dk_nzi_to {y : Int32} (h : dk_nzi y = true) : ¬ y = 0 := of_decide_eq_true h
theorem dk_bo_to {y : Int32} (h : dk_bo y = true) : narrow .boolean (.int y) = .int y := by
  rcases (of_decide_eq_true h : y = 0 ∨ y = 1) with rfl | rfl <;> decide +kernel
theorem dk_bo_fits {y : Int32} (h : dk_bo y = true) : fits .boolean (.int y) = true := by
  rcases (of_decide_eq_true h : y = 0 ∨ y = 1) with rfl | rfl <;> decide +kernel
theorem dk_bos_to {f : Nat → Int32} : ∀ {n : Nat}, dk_bos f n = true → ∀ i, i < n → dk_bo (f i) = true
  | 0, _, i, hi => absurd hi (Nat.not_lt_zero i)
  | n + 1, h, i, hi => by
    rw [dk_bos, Bool.and_eq_true] at h
    rcases Nat.lt_or_ge i n with q | q
    · exact dk_bos_to h.2 i q
    · have e : i = n := by omega
      rw [e]
      exact h.1
theorem dk_it {α : Type} {c : Prop} [Decidable c] {a b o : α} (hc : c) (h : (if c then a else b) = o) : a = o := by rwa [if_pos hc] at h
theorem dk_ie {α : Type} {c : Prop} [Decidable c] {a b o : α} (hc : ¬ c) (h : (if c then a else b) = o) : b = o := by rwa [if_neg hc] at h
def dk_sum {α β γ : Type} (x : α ⊕ β) (f : α → γ) (g : β → γ) : γ := match x with
  | .inl a => f a
  | .inr b => g b
theorem dk_sum_l {α β γ : Type} {a : α} {f : α → γ} {g : β → γ} {o : γ} (h : dk_sum (.inl a) f g = o) : f a = o := h
theorem dk_sum_r {α β γ : Type} {b : β} {f : α → γ} {g : β → γ} {o : γ} (h : dk_sum (.inr b) f g = o) : g b = o := h
theorem dk_fit0 {f : Nat → Int32} {n : Nat} (h : ∀ i, i < n → dk_bo (f i) = true) (i : Nat) (hi : i < n) : fits .boolean (.int (f ((0 : Int32).toNatClampNeg + i))) = true := by
  have e : (0 : Int32).toNatClampNeg + i = i := by
    rw [show (0 : Int32).toNatClampNeg = 0 from by decide +kernel, Nat.zero_add]
  rw [e]
  exact dk_bo_fits (h i hi)
theorem dk_swn {x : Int32} (n : Nat) (hn : n < 2 ^ 31) (h : ∀ k : Nat, k ≤ n → ¬ x = nI k) : x.toInt < 0 ∨ (n : Int) < x.toInt := by
  by_cases h0 : x.toInt < 0
  · exact Or.inl h0
  · right
    by_cases h1 : (n : Int) < x.toInt
    · exact h1
    · exfalso
      have hx : ¬ x < 0 := fun hlt => h0 (by simpa [Int32.lt_iff_toInt_lt] using hlt)
      obtain ⟨j, hj, e⟩ := nI_of hx
      have ej : x.toInt = (j : Int) := by rw [e]; exact nI_toInt hj
      exact h j (by omega) e
theorem dk_inl {α β : Type} {x y : α} (h : some (Sum.inl x : α ⊕ β) = some (Sum.inl y)) : x = y := by cases h; rfl
theorem dk_loopW {σ ρ : Type} {body : σ → Option (ρ ⊕ σ)} {P : σ → Prop} {K : ρ → Prop} (hb : ∀ st y, body st = some y → (∀ r, y = .inl r → K r) → (∀ st', y = .inr st' → P st') → P st) :
    ∀ (n : Nat) (st : σ) (r : ρ), dk_loop body n st = some r → K r → P st := by
  intro n
  induction n with
  | zero => intro st r h; cases h
  | succ n ih =>
    intro st r h hK
    rw [dk_loop] at h
    cases hy : body st with
    | none => rw [hy] at h; cases h
    | some y =>
      rw [hy] at h
      cases y with
      | inl z =>
        have e : z = r := by cases h; rfl
        subst e
        exact hb st _ hy (fun r' h' => by cases h'; exact hK) (fun st' h' => by cases h')
      | inr z => exact hb st _ hy (fun r' h' => by cases h') (fun st' h' => by cases h'; exact ih _ r h hK)
/-- a method's frame: the machine, the code, the words -/
def dk_C (p : Program) (s : State) (m : MethodId) (meth : Method) (c : Code) (args : Array Value) (cc : ByteArray) (ret : Option FieldType) (maxL : Nat) (own : String) (Ts : List Cond) : Prop :=
  p.tables.exec = Jvm.exec ∧ c.code = cc ∧ meth.sig.returnType = ret ∧ c.maxLocals = maxL ∧ s.vm.findClass own = some m.cls ∧ (∀ w ∈ Ts, w.before args s = true) ∧ meth.locks = false
abbrev dk_D (dC : Nat → ClassId) (dI : Nat → Nat → Nat) : va_G := (dC, dI)
abbrev dk_ty (cI cJ cZ : ClassId) : List (ClassId × FieldType) := [(cI, .int), (cJ, .long), (cZ, .boolean)]
def dk_Pre (D : va_G) (tys : List (ClassId × FieldType)) (w : va_W) (sz : Nat) (U : State) : Prop := U.heap.size = sz ∧ va_P D vwCl w U.heap ∧ va_K D vwCl tys U ∧ va_D (fun _ => True) w
def dk_Post (D : va_G) (tys : List (ClassId × FieldType)) (A : Nat → Prop) (w : va_W) (t : State) : Prop := va_P D vwCl w t.heap ∧ va_K D vwCl tys t ∧ va_D A w
def dk_Qi (D : va_G) (tys : List (ClassId × FieldType)) (w : va_W) (out : Int32) (A : Nat → Prop) : Array Value → State → Outcome → State → Prop := va_Qi (S := Unit) (fun r _ => r = out) (fun _ => dk_Post D tys A w) A
def dk_Ql (D : va_G) (tys : List (ClassId × FieldType)) (w : va_W) (out : Int64) (A : Nat → Prop) : Array Value → State → Outcome → State → Prop := va_Ql (S := Unit) (fun r _ => r = out) (fun _ => dk_Post D tys A w) A
def dk_Qv (D : va_G) (tys : List (ClassId × FieldType)) (w : va_W) (A : Nat → Prop) : Array Value → State → Outcome → State → Prop := va_Qv (S := Unit) (fun _ => True) (fun _ => dk_Post D tys A w) A
theorem dk_blind {D : va_G} {tys : List (ClassId × FieldType)} {w : va_W} {sz : Nat} {av : List Value} : FrameBlind (va_Pc av (dk_Pre D tys w sz)) := fun a U g mk q => by
  obtain ⟨q0, q1, qP, qK, qD⟩ := q
  exact ⟨q0, q1, qP, va_K.moved (u := U) (U := U.calling g mk a) (Vm.Alike.refl U.vm) qK, qD⟩
/-- a contract out of the walk of its body -/
theorem dk_met {l : Launch} {y : MethodName} {ws ws' : List Cond} {rm : Room} {cc : ByteArray} {maxL : Nat} {ret : Option FieldType} {D : va_G} {tys : List (ClassId × FieldType)} {w : va_W} {sz : Nat} {av : List Value} {Qc : (Nat → Prop) → Array Value → State → Outcome → State → Prop} {mc ms : Nat}
    (hy : plainName y.cls = true) (hw : ws = Cond.code y cc maxL ret :: ws') (hn : (lg_sl av).length ≤ maxL)
    (body : ∀ p e s m below meth c, ∀ A : Nat → Prop, dk_C p s m meth c av.toArray cc ret maxL y.cls ws → meth.name = y.name → (∀ q : Nat, s.heap.size ≤ q → A q) → va_K D vwCl tys s → va_P D vwCl w s.heap → va_D A w → va_S A s.heap s.heap [] →
      ∀ ls : Array Slot, lv_has ls maxL (lv_args 0 av) → W p l e rm s m av.toArray below meth c s.heap [] 0 0 (MQ below (Qc A) av.toArray s mc ms A) (F0 m 0 ls [])) :
    Met l y ws rm (va_Pc av (dk_Pre D tys w sz)) (Qc (va_A w sz)) mc ms (va_A w sz) := by
  refine Met.ofW (cc := cc) (maxL := maxL) (ret := ret) hy hw ?_
  intro p e s m args below meth c s₁ B hml hv
  obtain ⟨rfl, hsz, hP, hK, hD0⟩ := hv
  subst hsz
  rw [lg_entry_eq]
  exact body p e s m below meth c (va_A w s.heap.size) ⟨B.exec, B.bytes, B.returns, hml, findClass_of_methodNamed B.named, atoms_spec (ws := ws) B.pre, B.notSynchronized⟩ (name_of_methodNamed B.named B.method).1 (fun q h => Or.inr h) hK hP hD0.self va_S.rf _ (lv_entry av hn)
section DkRet
variable {p : Program} {l : Launch} {e : Env} {R : Room} {s : State} {m : MethodId} {args : Array Value} {below : List Frame} {meth : Method} {c : Code} {H : Heap} {locs : List Loc} {cells slots : Nat} {cc : ByteArray} {maxL : Nat} {own : String} {Ts : List Cond} {D : va_G} {tys : List (ClassId × FieldType)} {w : va_W} {A : Nat → Prop} {pc : Nat} {ls : Array Slot}
theorem dk_iret {v out : Int32} (C : dk_C p s m meth c args cc (some .int) maxL own Ts) (hK : va_K D vwCl tys s) (hP : va_P D vwCl w H) (hD : va_D A w) (hS : va_S A s.heap H locs) (hv : v = out) (hdg : decode cc pc = .ok (.ireturn, 1)) :
    W p l e R s m args below meth c H locs cells slots (MQ below (dk_Qi D tys w out A) args s cells slots A) (F0 m pc ls [.int v]) := by
  obtain ⟨hx, hb, hr, hml, hown, hts, hlocks⟩ := C
  exact W.iret (v := v) hx hb hr (fun t ht hW => ⟨⟨v, (), rfl, hv, by rw [ht]; exact hP, va_K.moved hW.alike hK, hD⟩, hS.F ht⟩) hS.2.2 hdg
theorem dk_zret {v out : Int32} (C : dk_C p s m meth c args cc (some .boolean) maxL own Ts) (hK : va_K D vwCl tys s) (hP : va_P D vwCl w H) (hD : va_D A w) (hS : va_S A s.heap H locs) (hn : narrow .boolean (.int v) = .int v) (hv : v = out) (hdg : decode cc pc = .ok (.ireturn, 1)) :
    W p l e R s m args below meth c H locs cells slots (MQ below (dk_Qi D tys w out A) args s cells slots A) (F0 m pc ls [.int v]) := by
  obtain ⟨hx, hb, hr, hml, hown, hts, hlocks⟩ := C
  exact W.zret (v := v) hx hb hr hn (fun t ht hW => ⟨⟨v, (), rfl, hv, by rw [ht]; exact hP, va_K.moved hW.alike hK, hD⟩, hS.F ht⟩) hS.2.2 hdg
theorem dk_lret {v out : Int64} (C : dk_C p s m meth c args cc (some .long) maxL own Ts) (hK : va_K D vwCl tys s) (hP : va_P D vwCl w H) (hD : va_D A w) (hS : va_S A s.heap H locs) (hv : v = out) (hdg : decode cc pc = .ok (.lreturn, 1)) :
    W p l e R s m args below meth c H locs cells slots (MQ below (dk_Ql D tys w out A) args s cells slots A) (F0 m pc ls [.long v]) := by
  obtain ⟨hx, hb, hr, hml, hown, hts, hlocks⟩ := C
  exact W.lret (v := v) hx hb hr (fun t ht hW => ⟨⟨v, (), rfl, hv, by rw [ht]; exact hP, va_K.moved hW.alike hK, hD⟩, hS.F ht⟩) hS.2.2 hdg
theorem dk_vret (C : dk_C p s m meth c args cc none maxL own Ts) (hK : va_K D vwCl tys s) (hP : va_P D vwCl w H) (hD : va_D A w) (hS : va_S A s.heap H locs) (hdg : decode cc pc = .ok (.return_, 1)) :
    W p l e R s m args below meth c H locs cells slots (MQ below (dk_Qv D tys w A) args s cells slots A) (F0 m pc ls []) := by
  obtain ⟨hx, hb, hr, hml, hown, hts, hlocks⟩ := C
  exact W.vret hx hb hr (fun t ht hW => ⟨⟨(), rfl, trivial, by rw [ht]; exact hP, va_K.moved hW.alike hK, hD⟩, hS.F ht⟩) hS.2.2 hdg
end DkRet
section DkCall
variable {p : Program} {l : Launch} {e : Env} {R : Room} {s : State} {m : MethodId} {args : Array Value} {below : List Frame} {meth : Method} {c : Code} {H : Heap} {locs : List Loc} {cells slots : Nat} {Q : State → Prop} {cc : ByteArray} {maxL : Nat} {ret : Option FieldType} {own : String} {Ts : List Cond} {D : va_G} {tys : List (ClassId × FieldType)} {A : Nat → Prop} {H0 : Heap} {pc : Nat} {ls : Array Slot}
  {y : MethodName} {wsc : List Cond} {rm : Room} {bytes : ByteArray} {maxL' : Nat} {ret' : Option FieldType} {index n : Nat} {C' : String} {wc wc' wr ws ws' : va_W} {As rest st0 : List Value} {b : Nat}
/-- the callee's cells go out and come back; the others stay -/
theorem dk_back {H1 : Heap} {u : State} (hP : va_P D vwCl ws H) (hD : va_D A ws) (hF : ∀ q, va_A wc H.size q → A q) (isC isR isB : List Nat) (hC : isC.map (fun i => ws[i]?) = wc.map some) (hR : isR.map (fun i => ws[i]?) = wr.map some) (hn : va_nd isR = true) (hdis : ∀ i ∈ isR, i ∉ isC)
    (hB : isB.map (fun i => (wr ++ wc')[i]?) = ws'.map some) (hBn : va_nd isB = true) (hk : ∀ q : Nat, q < H.size → ¬ va_A wc H.size q → H1[q]? = H[q]?) (hPo : dk_Post D tys (va_A wc H.size) wc' u) (hu : u.heap = H1) : va_P D vwCl ws' H1 ∧ va_D A ws' := by
  obtain ⟨hP1, -, hD1⟩ := hPo
  rw [hu] at hP1
  obtain ⟨hP2, hD2⟩ := va_join (wr := wr) (w1 := wc') hP hD isC isR hC hR hn hdis hk hF hP1 hD1
  have hfm : ∀ (is : List Nat) (w : va_W), is.map (fun i => (wr ++ wc')[i]?) = w.map some → is.filterMap (fun i => (wr ++ wc')[i]?) = w := by
    intro is
    induction is with
    | nil => intro w h; cases w with
      | nil => rfl
      | cons a b => cases h
    | cons i is ih => intro w h; cases w with
      | nil => cases h
      | cons a b =>
        have h1 := (List.cons.inj h).1
        have h2 := (List.cons.inj h).2
        dsimp only at h1
        rw [List.filterMap_cons, h1]
        dsimp only
        rw [ih b h2]
  exact ⟨hP2.sub isB (hfm isB ws' hB), hD2.sub isB hBn hB⟩
theorem dk_sub {is : List Nat} (h : is.map (fun i => ws[i]?) = wc.map some) : is.filterMap (fun i => ws[i]?) = wc := by
  induction is generalizing wc with
  | nil => cases wc with
    | nil => rfl
    | cons a b => cases h
  | cons i is ih => cases wc with
    | nil => cases h
    | cons a b =>
      have h1 := (List.cons.inj h).1
      have h2 := (List.cons.inj h).2
      dsimp only at h1
      rw [List.filterMap_cons, h1]
      dsimp only
      rw [ih h2]
theorem dk_cVi {out : Int32} (C : dk_C p s m meth c args cc ret maxL own Ts) (hK : va_K D vwCl tys s) (hP : va_P D vwCl ws H) (hD : va_D A ws) (hS : va_S A H0 H locs) (hA : ∀ q, H0.size ≤ q → A q)
    (hM : Met l y wsc rm (va_Pc (.ref b :: As) (dk_Pre D tys wc H.size)) (dk_Qi D tys wc' out (va_A wc H.size)) 0 0 (va_A wc H.size)) (cw : CallW R s args own C' index y bytes maxL' ret' wsc rm 0 0 n)
    (isC isR isB : List Nat) (hC : isC.map (fun i => ws[i]?) = wc.map some) (hCn : va_nd isC = true) (hR : isR.map (fun i => ws[i]?) = wr.map some) (hRn : va_nd isR = true) (hdis : ∀ i ∈ isR, i ∉ isC) (hB : isB.map (fun i => (wr ++ wc')[i]?) = ws'.map some) (hBn : va_nd isB = true)
    (q0 ci : Nat) {fs : List Value} {T : u_T} {N : Nat} (he : wc[q0]? = some (b, .inr (ci, fs))) (hc : vwCl[ci]? = some (C', T, N)) (hn : As.length = n) (hl : ls.size = maxL) (hst : st0 = As.reverse ++ .ref b :: rest) (hro : (rest.map fun v => v.category).sum ≤ 8) (hcl : cells ≤ R.cells ∧ slots ≤ R.slots) (hdg : decode cc pc = .ok (.invokevirtual index, 3))
    (kk : ∀ (H1 : Heap) (locs1 : List Loc), va_P D vwCl ws' H1 → va_D A ws' → va_S A H0 H1 locs1 → W p l e R s m args below meth c H1 locs1 cells slots Q (F0 m (pc + 3) ls (.int out :: rest))) :
    W p l e R s m args below meth c H locs cells slots Q (F0 m pc ls st0) := by
  obtain ⟨hx, hb, hr, hml, hown, hts, hlocks⟩ := C
  have hFc := va_free (wc := wc) hD hS hA isC hC
  have hPc := hP.sub (ws' := wc) isC (dk_sub hC)
  have hDc := hD.sub (ws' := wc) isC hCn hC
  refine va_calli (va_runV (As := As) (rest := rest) ⟨hx, hb, hml, hown, hts⟩ hM cw ⟨dk_blind, va_recv hK hPc hc he, fun U hU hW => ⟨rfl, by rw [hU], by rw [hU]; exact hPc, va_K.moved hW.alike hK, hDc.weaken (fun _ _ _ _ => trivial)⟩⟩ rfl hn hl hst (lv_room hro) hdg hcl) hS (fun q _ h => hFc q h) hFc (fun r u t H1 locs ht hvm hw hBo hz1 hk1 hS1 => ?_)
  have hw : r = out := hw
  subst hw
  obtain ⟨hP2, hD2⟩ := dk_back (ws' := ws') hP hD hFc isC isR isB hC hR hRn hdis hB hBn hk1 hBo ht
  exact kk H1 locs hP2 hD2 hS1
theorem dk_cVl {out : Int64} (C : dk_C p s m meth c args cc ret maxL own Ts) (hK : va_K D vwCl tys s) (hP : va_P D vwCl ws H) (hD : va_D A ws) (hS : va_S A H0 H locs) (hA : ∀ q, H0.size ≤ q → A q)
    (hM : Met l y wsc rm (va_Pc (.ref b :: As) (dk_Pre D tys wc H.size)) (dk_Ql D tys wc' out (va_A wc H.size)) 0 0 (va_A wc H.size)) (cw : CallW R s args own C' index y bytes maxL' ret' wsc rm 0 0 n)
    (isC isR isB : List Nat) (hC : isC.map (fun i => ws[i]?) = wc.map some) (hCn : va_nd isC = true) (hR : isR.map (fun i => ws[i]?) = wr.map some) (hRn : va_nd isR = true) (hdis : ∀ i ∈ isR, i ∉ isC) (hB : isB.map (fun i => (wr ++ wc')[i]?) = ws'.map some) (hBn : va_nd isB = true)
    (q0 ci : Nat) {fs : List Value} {T : u_T} {N : Nat} (he : wc[q0]? = some (b, .inr (ci, fs))) (hc : vwCl[ci]? = some (C', T, N)) (hn : As.length = n) (hl : ls.size = maxL) (hst : st0 = As.reverse ++ .ref b :: rest) (hro : (rest.map fun v => v.category).sum ≤ 8) (hcl : cells ≤ R.cells ∧ slots ≤ R.slots) (hdg : decode cc pc = .ok (.invokevirtual index, 3))
    (kk : ∀ (H1 : Heap) (locs1 : List Loc), va_P D vwCl ws' H1 → va_D A ws' → va_S A H0 H1 locs1 → W p l e R s m args below meth c H1 locs1 cells slots Q (F0 m (pc + 3) ls (.long out :: rest))) :
    W p l e R s m args below meth c H locs cells slots Q (F0 m pc ls st0) := by
  obtain ⟨hx, hb, hr, hml, hown, hts, hlocks⟩ := C
  have hFc := va_free (wc := wc) hD hS hA isC hC
  have hPc := hP.sub (ws' := wc) isC (dk_sub hC)
  have hDc := hD.sub (ws' := wc) isC hCn hC
  refine va_calll (va_runV (As := As) (rest := rest) ⟨hx, hb, hml, hown, hts⟩ hM cw ⟨dk_blind, va_recv hK hPc hc he, fun U hU hW => ⟨rfl, by rw [hU], by rw [hU]; exact hPc, va_K.moved hW.alike hK, hDc.weaken (fun _ _ _ _ => trivial)⟩⟩ rfl hn hl hst (lv_room hro) hdg hcl) hS (fun q _ h => hFc q h) hFc (fun r u t H1 locs ht hvm hw hBo hz1 hk1 hS1 => ?_)
  have hw : r = out := hw
  subst hw
  obtain ⟨hP2, hD2⟩ := dk_back (ws' := ws') hP hD hFc isC isR isB hC hR hRn hdis hB hBn hk1 hBo ht
  exact kk H1 locs hP2 hD2 hS1
theorem dk_cVv (C : dk_C p s m meth c args cc ret maxL own Ts) (hK : va_K D vwCl tys s) (hP : va_P D vwCl ws H) (hD : va_D A ws) (hS : va_S A H0 H locs) (hA : ∀ q, H0.size ≤ q → A q)
    (hM : Met l y wsc rm (va_Pc (.ref b :: As) (dk_Pre D tys wc H.size)) (dk_Qv D tys wc' (va_A wc H.size)) 0 0 (va_A wc H.size)) (cw : CallW R s args own C' index y bytes maxL' ret' wsc rm 0 0 n)
    (isC isR isB : List Nat) (hC : isC.map (fun i => ws[i]?) = wc.map some) (hCn : va_nd isC = true) (hR : isR.map (fun i => ws[i]?) = wr.map some) (hRn : va_nd isR = true) (hdis : ∀ i ∈ isR, i ∉ isC) (hB : isB.map (fun i => (wr ++ wc')[i]?) = ws'.map some) (hBn : va_nd isB = true)
    (q0 ci : Nat) {fs : List Value} {T : u_T} {N : Nat} (he : wc[q0]? = some (b, .inr (ci, fs))) (hc : vwCl[ci]? = some (C', T, N)) (hn : As.length = n) (hl : ls.size = maxL) (hst : st0 = As.reverse ++ .ref b :: rest) (hro : (rest.map fun v => v.category).sum ≤ 8) (hcl : cells ≤ R.cells ∧ slots ≤ R.slots) (hdg : decode cc pc = .ok (.invokevirtual index, 3))
    (kk : ∀ (H1 : Heap) (locs1 : List Loc), va_P D vwCl ws' H1 → va_D A ws' → va_S A H0 H1 locs1 → W p l e R s m args below meth c H1 locs1 cells slots Q (F0 m (pc + 3) ls rest)) :
    W p l e R s m args below meth c H locs cells slots Q (F0 m pc ls st0) := by
  obtain ⟨hx, hb, hr, hml, hown, hts, hlocks⟩ := C
  have hFc := va_free (wc := wc) hD hS hA isC hC
  have hPc := hP.sub (ws' := wc) isC (dk_sub hC)
  have hDc := hD.sub (ws' := wc) isC hCn hC
  refine va_callv (va_runV (As := As) (rest := rest) ⟨hx, hb, hml, hown, hts⟩ hM cw ⟨dk_blind, va_recv hK hPc hc he, fun U hU hW => ⟨rfl, by rw [hU], by rw [hU]; exact hPc, va_K.moved hW.alike hK, hDc.weaken (fun _ _ _ _ => trivial)⟩⟩ rfl hn hl hst (lv_room hro) hdg hcl) hS (fun q _ h => hFc q h) hFc (fun u t H1 locs ht hvm hw hBo hz1 hk1 hS1 => ?_)
  obtain ⟨hP2, hD2⟩ := dk_back (ws' := ws') hP hD hFc isC isR isB hC hR hRn hdis hB hBn hk1 hBo ht
  exact kk H1 locs hP2 hD2 hS1
theorem dk_cSi {out : Int32} (C : dk_C p s m meth c args cc ret maxL own Ts) (hK : va_K D vwCl tys s) (hP : va_P D vwCl ws H) (hD : va_D A ws) (hS : va_S A H0 H locs) (hA : ∀ q, H0.size ≤ q → A q)
    (hM : Met l y wsc rm (va_Pc As (dk_Pre D tys wc H.size)) (dk_Qi D tys wc' out (va_A wc H.size)) 0 0 (va_A wc H.size)) (cw : CallB R s args own index y bytes maxL' ret' wsc rm 0 0 n ∧ (Cond.static y).before args s = true)
    (isC isR isB : List Nat) (hC : isC.map (fun i => ws[i]?) = wc.map some) (hCn : va_nd isC = true) (hR : isR.map (fun i => ws[i]?) = wr.map some) (hRn : va_nd isR = true) (hdis : ∀ i ∈ isR, i ∉ isC) (hB : isB.map (fun i => (wr ++ wc')[i]?) = ws'.map some) (hBn : va_nd isB = true)
    (hn : As.length = n) (hl : ls.size = maxL) (hst : st0 = As.reverse ++ rest) (hro : (rest.map fun v => v.category).sum ≤ 8) (hcl : cells ≤ R.cells ∧ slots ≤ R.slots) (hdg : decode cc pc = .ok (.invokestatic index, 3))
    (kk : ∀ (H1 : Heap) (locs1 : List Loc), va_P D vwCl ws' H1 → va_D A ws' → va_S A H0 H1 locs1 → W p l e R s m args below meth c H1 locs1 cells slots Q (F0 m (pc + 3) ls (.int out :: rest))) :
    W p l e R s m args below meth c H locs cells slots Q (F0 m pc ls st0) := by
  obtain ⟨hx, hb, hr, hml, hown, hts, hlocks⟩ := C
  have hFc := va_free (wc := wc) hD hS hA isC hC
  have hPc := hP.sub (ws' := wc) isC (dk_sub hC)
  have hDc := hD.sub (ws' := wc) isC hCn hC
  refine va_calli (va_runS (As := As) (rest := rest) ⟨hx, hb, hml, hown, hts⟩ hM cw ⟨dk_blind, fun U hU hW => ⟨rfl, by rw [hU], by rw [hU]; exact hPc, va_K.moved hW.alike hK, hDc.weaken (fun _ _ _ _ => trivial)⟩⟩ rfl hn hl hst (lv_room hro) hdg hcl) hS (fun q _ h => hFc q h) hFc (fun r u t H1 locs ht hvm hw hBo hz1 hk1 hS1 => ?_)
  have hw : r = out := hw
  subst hw
  obtain ⟨hP2, hD2⟩ := dk_back (ws' := ws') hP hD hFc isC isR isB hC hR hRn hdis hB hBn hk1 hBo ht
  exact kk H1 locs hP2 hD2 hS1
theorem dk_cSl {out : Int64} (C : dk_C p s m meth c args cc ret maxL own Ts) (hK : va_K D vwCl tys s) (hP : va_P D vwCl ws H) (hD : va_D A ws) (hS : va_S A H0 H locs) (hA : ∀ q, H0.size ≤ q → A q)
    (hM : Met l y wsc rm (va_Pc As (dk_Pre D tys wc H.size)) (dk_Ql D tys wc' out (va_A wc H.size)) 0 0 (va_A wc H.size)) (cw : CallB R s args own index y bytes maxL' ret' wsc rm 0 0 n ∧ (Cond.static y).before args s = true)
    (isC isR isB : List Nat) (hC : isC.map (fun i => ws[i]?) = wc.map some) (hCn : va_nd isC = true) (hR : isR.map (fun i => ws[i]?) = wr.map some) (hRn : va_nd isR = true) (hdis : ∀ i ∈ isR, i ∉ isC) (hB : isB.map (fun i => (wr ++ wc')[i]?) = ws'.map some) (hBn : va_nd isB = true)
    (hn : As.length = n) (hl : ls.size = maxL) (hst : st0 = As.reverse ++ rest) (hro : (rest.map fun v => v.category).sum ≤ 8) (hcl : cells ≤ R.cells ∧ slots ≤ R.slots) (hdg : decode cc pc = .ok (.invokestatic index, 3))
    (kk : ∀ (H1 : Heap) (locs1 : List Loc), va_P D vwCl ws' H1 → va_D A ws' → va_S A H0 H1 locs1 → W p l e R s m args below meth c H1 locs1 cells slots Q (F0 m (pc + 3) ls (.long out :: rest))) :
    W p l e R s m args below meth c H locs cells slots Q (F0 m pc ls st0) := by
  obtain ⟨hx, hb, hr, hml, hown, hts, hlocks⟩ := C
  have hFc := va_free (wc := wc) hD hS hA isC hC
  have hPc := hP.sub (ws' := wc) isC (dk_sub hC)
  have hDc := hD.sub (ws' := wc) isC hCn hC
  refine va_calll (va_runS (As := As) (rest := rest) ⟨hx, hb, hml, hown, hts⟩ hM cw ⟨dk_blind, fun U hU hW => ⟨rfl, by rw [hU], by rw [hU]; exact hPc, va_K.moved hW.alike hK, hDc.weaken (fun _ _ _ _ => trivial)⟩⟩ rfl hn hl hst (lv_room hro) hdg hcl) hS (fun q _ h => hFc q h) hFc (fun r u t H1 locs ht hvm hw hBo hz1 hk1 hS1 => ?_)
  have hw : r = out := hw
  subst hw
  obtain ⟨hP2, hD2⟩ := dk_back (ws' := ws') hP hD hFc isC isR isB hC hR hRn hdis hB hBn hk1 hBo ht
  exact kk H1 locs hP2 hD2 hS1
theorem dk_same {H1 : Heap} {u : State} (hP : va_P D vwCl ws H) (hD : va_D A ws) (isC : List Nat) (hC : isC.map (fun i => ws[i]?) = wc.map some) (hk : ∀ q : Nat, q < H.size → ¬ va_A wc H.size q → H1[q]? = H[q]?) (hPo : dk_Post D tys (va_A wc H.size) wc u) (hu : u.heap = H1) : va_P D vwCl ws H1 := by
  obtain ⟨hP1, -, hD1⟩ := hPo
  rw [hu] at hP1
  intro k q hq
  obtain ⟨qa, qe⟩ := q
  by_cases hin : va_A wc H.size qa
  · rcases hin with ⟨k', e', he'⟩ | hge
    · have h1 : (isC.map (fun i => ws[i]?))[k']? = some (some (qa, e')) := by rw [hC, List.getElem?_map, he']; rfl
      rw [List.getElem?_map] at h1
      cases hi : isC[k']? with
      | none => rw [hi] at h1; cases h1
      | some i =>
        rw [hi] at h1
        have h2 : ws[i]? = some (qa, e') := Option.some.inj h1
        have h3 := hD.1 i k _ _ h2 hq rfl
        subst h3
        rw [h2] at hq
        cases hq
        exact hP1 k' _ he'
    · exact absurd ((hP k _ hq).lt) (Nat.not_lt.mpr hge)
  · have h0 := hk qa ((hP k _ hq).lt) hin
    have h1 := hP k _ hq
    exact h1.kept h0
theorem dk_rVi {out : Int32} (C : dk_C p s m meth c args cc ret maxL own Ts) (hK : va_K D vwCl tys s) (hP : va_P D vwCl ws H) (hD : va_D A ws) (hS : va_S A H0 H locs) (hA : ∀ q, H0.size ≤ q → A q)
    (hM : Met l y wsc rm (va_Pc (.ref b :: As) (dk_Pre D tys wc H.size)) (dk_Qi D tys wc out (va_A wc H.size)) 0 0 (va_A wc H.size)) (cw : CallW R s args own C' index y bytes maxL' ret' wsc rm 0 0 n)
    (isC : List Nat) (hC : isC.map (fun i => ws[i]?) = wc.map some) (hCn : va_nd isC = true)
    (q0 ci : Nat) {fs : List Value} {T : u_T} {N : Nat} (he : wc[q0]? = some (b, .inr (ci, fs))) (hc : vwCl[ci]? = some (C', T, N)) (hn : As.length = n) (hl : ls.size = maxL) (hst : st0 = As.reverse ++ .ref b :: rest) (hro : (rest.map fun v => v.category).sum ≤ 8) (hcl : cells ≤ R.cells ∧ slots ≤ R.slots) (hdg : decode cc pc = .ok (.invokevirtual index, 3))
    (kk : ∀ (H1 : Heap) (locs1 : List Loc), va_P D vwCl ws H1 → va_D A ws → va_S A H0 H1 locs1 → W p l e R s m args below meth c H1 locs1 cells slots Q (F0 m (pc + 3) ls (.int out :: rest))) :
    W p l e R s m args below meth c H locs cells slots Q (F0 m pc ls st0) := by
  obtain ⟨hx, hb, hr, hml, hown, hts, hlocks⟩ := C
  have hFc := va_free (wc := wc) hD hS hA isC hC
  have hPc := hP.sub (ws' := wc) isC (dk_sub hC)
  have hDc := hD.sub (ws' := wc) isC hCn hC
  refine va_calli (va_runV (As := As) (rest := rest) ⟨hx, hb, hml, hown, hts⟩ hM cw ⟨dk_blind, va_recv hK hPc hc he, fun U hU hW => ⟨rfl, by rw [hU], by rw [hU]; exact hPc, va_K.moved hW.alike hK, hDc.weaken (fun _ _ _ _ => trivial)⟩⟩ rfl hn hl hst (lv_room hro) hdg hcl) hS (fun q _ h => hFc q h) hFc (fun r u t H1 locs ht hvm hw hBo hz1 hk1 hS1 => ?_)
  have hw : r = out := hw
  subst hw
  exact kk H1 locs (dk_same hP hD isC hC hk1 hBo ht) hD hS1
theorem dk_rVl {out : Int64} (C : dk_C p s m meth c args cc ret maxL own Ts) (hK : va_K D vwCl tys s) (hP : va_P D vwCl ws H) (hD : va_D A ws) (hS : va_S A H0 H locs) (hA : ∀ q, H0.size ≤ q → A q)
    (hM : Met l y wsc rm (va_Pc (.ref b :: As) (dk_Pre D tys wc H.size)) (dk_Ql D tys wc out (va_A wc H.size)) 0 0 (va_A wc H.size)) (cw : CallW R s args own C' index y bytes maxL' ret' wsc rm 0 0 n)
    (isC : List Nat) (hC : isC.map (fun i => ws[i]?) = wc.map some) (hCn : va_nd isC = true)
    (q0 ci : Nat) {fs : List Value} {T : u_T} {N : Nat} (he : wc[q0]? = some (b, .inr (ci, fs))) (hc : vwCl[ci]? = some (C', T, N)) (hn : As.length = n) (hl : ls.size = maxL) (hst : st0 = As.reverse ++ .ref b :: rest) (hro : (rest.map fun v => v.category).sum ≤ 8) (hcl : cells ≤ R.cells ∧ slots ≤ R.slots) (hdg : decode cc pc = .ok (.invokevirtual index, 3))
    (kk : ∀ (H1 : Heap) (locs1 : List Loc), va_P D vwCl ws H1 → va_D A ws → va_S A H0 H1 locs1 → W p l e R s m args below meth c H1 locs1 cells slots Q (F0 m (pc + 3) ls (.long out :: rest))) :
    W p l e R s m args below meth c H locs cells slots Q (F0 m pc ls st0) := by
  obtain ⟨hx, hb, hr, hml, hown, hts, hlocks⟩ := C
  have hFc := va_free (wc := wc) hD hS hA isC hC
  have hPc := hP.sub (ws' := wc) isC (dk_sub hC)
  have hDc := hD.sub (ws' := wc) isC hCn hC
  refine va_calll (va_runV (As := As) (rest := rest) ⟨hx, hb, hml, hown, hts⟩ hM cw ⟨dk_blind, va_recv hK hPc hc he, fun U hU hW => ⟨rfl, by rw [hU], by rw [hU]; exact hPc, va_K.moved hW.alike hK, hDc.weaken (fun _ _ _ _ => trivial)⟩⟩ rfl hn hl hst (lv_room hro) hdg hcl) hS (fun q _ h => hFc q h) hFc (fun r u t H1 locs ht hvm hw hBo hz1 hk1 hS1 => ?_)
  have hw : r = out := hw
  subst hw
  exact kk H1 locs (dk_same hP hD isC hC hk1 hBo ht) hD hS1
theorem dk_rSi {out : Int32} (C : dk_C p s m meth c args cc ret maxL own Ts) (hK : va_K D vwCl tys s) (hP : va_P D vwCl ws H) (hD : va_D A ws) (hS : va_S A H0 H locs) (hA : ∀ q, H0.size ≤ q → A q)
    (hM : Met l y wsc rm (va_Pc As (dk_Pre D tys wc H.size)) (dk_Qi D tys wc out (va_A wc H.size)) 0 0 (va_A wc H.size)) (cw : CallB R s args own index y bytes maxL' ret' wsc rm 0 0 n ∧ (Cond.static y).before args s = true)
    (isC : List Nat) (hC : isC.map (fun i => ws[i]?) = wc.map some) (hCn : va_nd isC = true)
    (hn : As.length = n) (hl : ls.size = maxL) (hst : st0 = As.reverse ++ rest) (hro : (rest.map fun v => v.category).sum ≤ 8) (hcl : cells ≤ R.cells ∧ slots ≤ R.slots) (hdg : decode cc pc = .ok (.invokestatic index, 3))
    (kk : ∀ (H1 : Heap) (locs1 : List Loc), va_P D vwCl ws H1 → va_D A ws → va_S A H0 H1 locs1 → W p l e R s m args below meth c H1 locs1 cells slots Q (F0 m (pc + 3) ls (.int out :: rest))) :
    W p l e R s m args below meth c H locs cells slots Q (F0 m pc ls st0) := by
  obtain ⟨hx, hb, hr, hml, hown, hts, hlocks⟩ := C
  have hFc := va_free (wc := wc) hD hS hA isC hC
  have hPc := hP.sub (ws' := wc) isC (dk_sub hC)
  have hDc := hD.sub (ws' := wc) isC hCn hC
  refine va_calli (va_runS (As := As) (rest := rest) ⟨hx, hb, hml, hown, hts⟩ hM cw ⟨dk_blind, fun U hU hW => ⟨rfl, by rw [hU], by rw [hU]; exact hPc, va_K.moved hW.alike hK, hDc.weaken (fun _ _ _ _ => trivial)⟩⟩ rfl hn hl hst (lv_room hro) hdg hcl) hS (fun q _ h => hFc q h) hFc (fun r u t H1 locs ht hvm hw hBo hz1 hk1 hS1 => ?_)
  have hw : r = out := hw
  subst hw
  exact kk H1 locs (dk_same hP hD isC hC hk1 hBo ht) hD hS1
theorem dk_rSl {out : Int64} (C : dk_C p s m meth c args cc ret maxL own Ts) (hK : va_K D vwCl tys s) (hP : va_P D vwCl ws H) (hD : va_D A ws) (hS : va_S A H0 H locs) (hA : ∀ q, H0.size ≤ q → A q)
    (hM : Met l y wsc rm (va_Pc As (dk_Pre D tys wc H.size)) (dk_Ql D tys wc out (va_A wc H.size)) 0 0 (va_A wc H.size)) (cw : CallB R s args own index y bytes maxL' ret' wsc rm 0 0 n ∧ (Cond.static y).before args s = true)
    (isC : List Nat) (hC : isC.map (fun i => ws[i]?) = wc.map some) (hCn : va_nd isC = true)
    (hn : As.length = n) (hl : ls.size = maxL) (hst : st0 = As.reverse ++ rest) (hro : (rest.map fun v => v.category).sum ≤ 8) (hcl : cells ≤ R.cells ∧ slots ≤ R.slots) (hdg : decode cc pc = .ok (.invokestatic index, 3))
    (kk : ∀ (H1 : Heap) (locs1 : List Loc), va_P D vwCl ws H1 → va_D A ws → va_S A H0 H1 locs1 → W p l e R s m args below meth c H1 locs1 cells slots Q (F0 m (pc + 3) ls (.long out :: rest))) :
    W p l e R s m args below meth c H locs cells slots Q (F0 m pc ls st0) := by
  obtain ⟨hx, hb, hr, hml, hown, hts, hlocks⟩ := C
  have hFc := va_free (wc := wc) hD hS hA isC hC
  have hPc := hP.sub (ws' := wc) isC (dk_sub hC)
  have hDc := hD.sub (ws' := wc) isC hCn hC
  refine va_calll (va_runS (As := As) (rest := rest) ⟨hx, hb, hml, hown, hts⟩ hM cw ⟨dk_blind, fun U hU hW => ⟨rfl, by rw [hU], by rw [hU]; exact hPc, va_K.moved hW.alike hK, hDc.weaken (fun _ _ _ _ => trivial)⟩⟩ rfl hn hl hst (lv_room hro) hdg hcl) hS (fun q _ h => hFc q h) hFc (fun r u t H1 locs ht hvm hw hBo hz1 hk1 hS1 => ?_)
  have hw : r = out := hw
  subst hw
  exact kk H1 locs (dk_same hP hD isC hC hk1 hBo ht) hD hS1
end DkCall

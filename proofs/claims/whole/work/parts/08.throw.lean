def exn (k : Nat) : String := match k with
  | 0 => "java/lang/IllegalArgumentException"
  | 1 => "java/util/NoSuchElementException"
  | 2 => "java/lang/IllegalStateException"
  | _ => "java/lang/IndexOutOfBoundsException"
abbrev exN : List String := ["java/lang/RuntimeException", "java/lang/Exception"]
def atOk (own : String) (ic k : Nat) : Prop := ∀ w ∈ vx_atS own ic (exn k) exN, ((w ∈ lw_tbl ∧ goodWord w = true) ∨ w ∈ Cond.castable (exn k) (exn k) :: exD.map Cond.declares) ∧ vx_ot w = true
def rmx (d mc ms : Nat) : Room := { frames := d, cells := mc, slots := ms, locals := 48 * d }
theorem rm_okx {dc d maxL mc ms : Nat} (h1 : dc + 1 ≤ d) (h2 : maxL ≤ 29) : (rmd dc).frames + 1 ≤ (rmx d mc ms).frames ∧ 8 + (maxL + 11) + (rmd dc).locals ≤ (rmx d mc ms).locals := by
  simp only [rmd, rmx]
  omega
theorem rm_okxx {dc d maxL mc ms mc1 ms1 : Nat} (h1 : dc + 1 ≤ d) (h2 : maxL ≤ 29) : (rmx dc mc1 ms1).frames + 1 ≤ (rmx d mc ms).frames ∧ 8 + (maxL + 11) + (rmx dc mc1 ms1).locals ≤ (rmx d mc ms).locals := by
  simp only [rmx]
  omega
def PxR {α : Type} (mk : α → Option Value) (D : va_G) (cA : Nat → ClassId) (ad : Nat → Nat) (A : Nat → Prop) (r : α ⊕ Nat) (h' : PH) : Array Value → State → Outcome → State → Prop := fun _ st oc t => ∃ a, r = .inl a ∧ oc = .returned ((mk a).map (tv ad)) ∧ va_P D vwCl (wd cA ad h') t.heap ∧ va_F A st t
def PxT {α : Type} (D : va_G) (cA : Nat → ClassId) (ad : Nat → Nat) (A : Nat → Prop) (r : α ⊕ Nat) (h' : PH) : String → State → State → Prop := fun E st t => ∃ k, r = .inr k ∧ E = exn k ∧ va_P D vwCl (wd cA ad h') t.heap ∧ va_F A st t
/-- as CT, of a method that may throw: .inr k: the exception exn k -/
def CTx {α : Type} (mk : α → Option Value) (l : Launch) (y : MethodName) (bytes : ByteArray) (maxL : Nat) (ret : Option FieldType) (rm : Room) (mc ms : Nat) (As : List Value) (h : PH) (o : Option ((α ⊕ Nat) × PH)) : Prop :=
  ∀ (D : va_G) (cA : Nat → ClassId) (ad : Nat → Nat) (sz : Nat), (∀ i j, i < nc cA → j < nc cA → ad i = ad j → i = j) → ∀ (r : α ⊕ Nat) (h' : PH), o = some (r, h') → vx_Met l y (.code y bytes maxL ret :: WSG) rm (Pre D cA ad As h sz) (PxR mk D cA ad (Aa cA ad sz) r h') (PxT D cA ad (Aa cA ad sz) r h') mc ms (Aa cA ad sz)
def QX {α : Type} (mk : α → Option Value) (below : List Frame) (args : Array Value) (s : State) (D : va_G) (cA : Nat → ClassId) (ad : Nat → Nat) (A : Nat → Prop) (mc ms : Nat) : (α ⊕ Nat) → PH → State → Prop := fun r h' => vx_MQ below (PxR mk D cA ad A r h') (PxT D cA ad A r h') args s mc ms A
theorem ctx_of {α : Type} {mk : α → Option Value} {l : Launch} {y : MethodName} {bytes : ByteArray} {maxL : Nat} {ret : Option FieldType} {rm : Room} {mc ms : Nat} {As : List Value} {h : PH} {o : Option ((α ⊕ Nat) × PH)} (hy : plainName y.cls = true) (hlen : (lg_sl As).length ≤ maxL)
    (body : ∀ (p : Program) (e : Env) (s : State) (m : MethodId) (args : Array Value) (below : List Frame) (meth : Method) (c : Code) (D : va_G) (cA : Nat → ClassId) (ad : Nat → Nat) (A : Nat → Prop), Cx p s m args c y.cls bytes maxL D cA ad A → meth.sig.returnType = ret → meth.locks = false → (∀ x ∈ c.exceptionTable.toList, False) → SWo (QX mk below args s D cA ad A mc ms) p l e rm s m args below meth c 0 0 maxL D cA ad A 0 (lv_args 0 As) [] h o) : CTx mk l y bytes maxL ret rm mc ms As h o := by
  intro D cA ad sz hinj r h' ho
  refine vx_ofW (cc := bytes) (maxL := maxL) (ret := ret) hy rfl ?_
  intro p e s m args below meth c s₁ B hml htab hv
  obtain ⟨rfl, hsz, hP, hK, hRO⟩ := hv
  subst hsz
  have hts := atoms_spec (ws := .code y bytes maxL ret :: WSG) B.pre
  have hown : s.vm.findClass y.cls = some m.cls := findClass_of_methodNamed B.named
  have hl := lv_entry (As.map (tv ad)) (n := maxL) (by rw [lg_sl_tv]; exact hlen)
  rw [lg_entry_eq]
  rw [lv_args_tq] at hl
  exact body p e s m _ below meth c D cA ad (Aa cA ad s.heap.size) ⟨B.exec, B.bytes, hml, hown, fun w hw => hts w (List.mem_cons_of_mem _ hw), hK, hinj, fun i hi => Or.inl ⟨i, hi, rfl⟩, fun q hq => Or.inr hq, hRO⟩ B.returns B.notSynchronized htab r h' ho s.heap [] _ hP va_S.rf hl
def cbx {β γ : Type} (f : Option ((β ⊕ Nat) × PH)) (g : β → PH → Option ((γ ⊕ Nat) × PH)) : Option ((γ ⊕ Nat) × PH) := match f with
  | none => none
  | some (.inl r, h1) => g r h1
  | some (.inr k, h1) => some (.inr k, h1)
def zrx (v : Int32) (h : PH) : Option ((Int32 ⊕ Nat) × PH) := if v &&& 1 = v then some (.inl v, h) else none
section SX
variable {p : Program} {l : Launch} {e : Env} {R : Room} {s : State} {m : MethodId} {args : Array Value} {below : List Frame} {meth : Method} {c : Code} {cells slots nL : Nat} {D : va_G} {cA : Nat → ClassId} {ad : Nat → Nat} {A : Nat → Prop} {own : String} {cc : ByteArray} {pc tgt : Nat} {L L' : List (Nat × Value)} {st : List Value} {h : PH} {α : Type} {QQ : α → PH → State → Prop} {o o1 o2 : Option (α × PH)} {mc ms : Nat}
theorem so_widen {c1 s1 : Nat} (h1 : cells ≤ c1) (h2 : slots ≤ s1) (k : SWo QQ p l e R s m args below meth c c1 s1 nL D cA ad A pc L st h o) : SWo QQ p l e R s m args below meth c cells slots nL D cA ad A (pc) (L) (st) (h) (o) :=
  fun r h' e1 H locs ls hP hS hl => W.widen h1 h2 (k r h' e1 H locs ls hP hS hl)
theorem so_iretX (X : Cx p s m args c own cc nL D cA ad A) {x : Int32} (hr : meth.sig.returnType = some .int) (hlk : meth.locks = false) (hcm : cells ≤ mc) (hsm : slots ≤ ms) (d : decode cc pc = .ok (.ireturn, 1)) : SWo (QX (α := Int32) mkI below args s D cA ad A mc ms) p l e R s m args below meth c cells slots nL D cA ad A (pc) (L) ([.int x]) (h) (some (.inl x, h)) := by
  intro r h' e1 H locs ls hP hS hl
  cases e1
  exact W.widen hcm hsm (vx_ret (W.iret (v := x) X.1 X.2.1 hr (fun t ht hW => ⟨_, rfl, rfl, by rw [ht]; exact hP, hS.F ht⟩) hS.2.2 d hlk))
theorem so_lretX (X : Cx p s m args c own cc nL D cA ad A) {x : Int64} (hr : meth.sig.returnType = some .long) (hlk : meth.locks = false) (hcm : cells ≤ mc) (hsm : slots ≤ ms) (d : decode cc pc = .ok (.lreturn, 1)) : SWo (QX (α := Int64) mkL below args s D cA ad A mc ms) p l e R s m args below meth c cells slots nL D cA ad A (pc) (L) ([.long x]) (h) (some (.inl x, h)) := by
  intro r h' e1 H locs ls hP hS hl
  cases e1
  exact W.widen hcm hsm (vx_ret (W.lret (v := x) X.1 X.2.1 hr (fun t ht hW => ⟨_, rfl, rfl, by rw [ht]; exact hP, hS.F ht⟩) hS.2.2 d hlk))
theorem so_aretX (X : Cx p s m args c own cc nL D cA ad A) {x : Nat} {C : String} (hr : meth.sig.returnType = some (.object C)) (hlk : meth.locks = false) (hcm : cells ≤ mc) (hsm : slots ≤ ms) (d : decode cc pc = .ok (.areturn, 1)) : SWo (QX (α := Nat) mkR below args s D cA ad A mc ms) p l e R s m args below meth c cells slots nL D cA ad A (pc) (L) ([.ref x]) (h) (some (.inl x, h)) := by
  intro r h' e1 H locs ls hP hS hl
  cases e1
  exact W.widen hcm hsm (vx_ret (W.aret (v := .ref (ad x)) X.1 X.2.1 hr (Or.inl ⟨_, rfl⟩) (Or.inr ⟨_, rfl⟩) (fun t ht hW => ⟨_, rfl, rfl, by rw [ht]; exact hP, hS.F ht⟩) hS.2.2 d hlk))
theorem so_vretX (X : Cx p s m args c own cc nL D cA ad A) (hr : meth.sig.returnType = none) (hlk : meth.locks = false) (hcm : cells ≤ mc) (hsm : slots ≤ ms) (d : decode cc pc = .ok (.return_, 1)) : SWo (QX (α := Unit) mkV below args s D cA ad A mc ms) p l e R s m args below meth c cells slots nL D cA ad A (pc) (L) ([]) (h) (some (.inl (), h)) := by
  intro r h' e1 H locs ls hP hS hl
  cases e1
  exact W.widen hcm hsm (vx_ret (W.vret X.1 X.2.1 hr (fun t ht hW => ⟨_, rfl, rfl, by rw [ht]; exact hP, hS.F ht⟩) hS.2.2 d hlk))
theorem so_zretX (X : Cx p s m args c own cc nL D cA ad A) {x : Int32} (hr : meth.sig.returnType = some .boolean) (hlk : meth.locks = false) (hcm : cells ≤ mc) (hsm : slots ≤ ms) (d : decode cc pc = .ok (.ireturn, 1)) : SWo (QX (α := Int32) mkI below args s D cA ad A mc ms) p l e R s m args below meth c cells slots nL D cA ad A (pc) (L) ([.int x]) (h) (zrx x h) := by
  intro r h' e1 H locs ls hP hS hl
  unfold zrx at e1
  by_cases hx : x &&& 1 = x
  · rw [if_pos hx] at e1
    cases e1
    exact W.widen hcm hsm (vx_ret (W.zret (v := x) X.1 X.2.1 hr (by show Value.int (x &&& 1) = _; rw [hx]) (fun t ht hW => ⟨_, rfl, rfl, by rw [ht]; exact hP, hS.F ht⟩) hS.2.2 d hlk))
  · rw [if_neg hx] at e1
    cases e1
theorem so_throwS {β : Type} {mk : β → Option Value} (X : Cx p s m args c own cc nL D cA ad A) (hlt : l.stackTraces = false) (hlk : meth.locks = false) (htab : ∀ x ∈ c.exceptionTable.toList, False) (k : Nat) {ik is ic n : Nat} {tx : String} (hq : (own, is, tx, n) ∈ skL) (w1 : Cond.classLink own ik (exn k) ∈ WSG) (w2 : Cond.initialized (exn k) ∈ WSG) (hfit : Bundle.fit (exn k) = true) (hat : atOk own ic k) (hk4 : exn k ∈ exC)
    (d0 : decode cc pc = .ok (.new ik, 3)) (d3 : decode cc (pc + 3) = .ok (.dup, 1)) (d4 : decode cc (pc + 4) = .ok (.ldc is, 2)) (d6 : decode cc (pc + 6) = .ok (.invokespecial ic, 3)) (d9 : decode cc (pc + 9) = .ok (.athrow, 1)) (hRf : 5 < R.frames) (hRl : (st.map fun v => v.category).sum + 82 ≤ R.locals) (hRc : cells + 1 ≤ R.cells) (hRs : slots + 6 ≤ R.slots) (hcm : cells + 1 ≤ mc) (hsm : slots + 6 ≤ ms) : SWo (QX mk below args s D cA ad A mc ms) p l e R s m args below meth c cells slots nL D cA ad A pc L st h (some (.inr k, h)) := by
  intro r h' e1 H locs ls hP hS hl
  cases e1
  refine vx_throwS (names := exN) (A := A) X.1 X.2.1 hlt X.2.2.2.1 hfit (by decide) (X.2.2.2.2.1 _ w1) (X.2.2.2.2.1 _ w2) (X.2.2.2.2.2.2.2.2.2.2.1 _ hq) (fun w hw => ?_) ?_ X.2.2.2.2.2.2.2.2.2.un X.2.2.2.2.2.2.2.2.2.su hS (hl.1.trans X.2.2.1.symm) d0 d3 d4 d6 d9 (fun x hx => (htab x hx).elim) hRf (by rw [cat_tv]; exact hRl) hRc hRs hlk ?_ hS.2.2 hcm hsm
  · rcases (hat w hw).1 with hw | hw
    · exact X.2.2.2.2.1 _ (wsg hw.1 hw.2)
    · rcases List.mem_cons.mp hw with rfl | hw
      · exact va_Nw.use rfl (X.2.2.2.2.2.2.2.2.2.ca _ hk4)
      · obtain ⟨x, hx, rfl⟩ := List.mem_map.mp hw
        exact va_Nw.use rfl (X.2.2.2.2.2.2.2.2.2.de _ hx)
  · intro w hw
    rcases List.mem_cons.mp hw with rfl | hw
    · simp [vx_ot, wsg_good w1]
    · rcases List.mem_cons.mp hw with rfl | hw
      · simp [vx_ot, wsg_good w2]
      · exact (hat w hw).2
  · intro t ht h1 h2
    refine ⟨k, rfl, rfl, hP.kept (fun i q hq => h2 q.1 ((hP i q hq).lt)), Nat.le_trans hS.1 h1, fun q hq1 hq2 => ?_⟩
    rw [h2 q (Nat.lt_of_lt_of_le hq1 hS.1)]
    exact hS.2.1 q hq1 hq2
theorem so_throwSW {β : Type} {mk : β → Option Value} (X : Cx p s m args c own cc nL D cA ad A) (hlt : l.stackTraces = false) (hlk : meth.locks = false) (htab : ∀ x ∈ c.exceptionTable.toList, False) (k : Nat) {ik is ic n : Nat} {tx : String} (hq : (own, is, tx, n) ∈ skL) (w1 : Cond.classLink own ik (exn k) ∈ WSG) (w2 : Cond.initialized (exn k) ∈ WSG) (hfit : Bundle.fit (exn k) = true) (hat : atOk own ic k) (hk4 : exn k ∈ exC)
    (d0 : decode cc pc = .ok (.new ik, 3)) (d3 : decode cc (pc + 3) = .ok (.dup, 1)) (d4 : decode cc (pc + 4) = .ok (.ldc_w is, 3)) (d6 : decode cc (pc + 7) = .ok (.invokespecial ic, 3)) (d9 : decode cc (pc + 10) = .ok (.athrow, 1)) (hRf : 5 < R.frames) (hRl : (st.map fun v => v.category).sum + 82 ≤ R.locals) (hRc : cells + 1 ≤ R.cells) (hRs : slots + 6 ≤ R.slots) (hcm : cells + 1 ≤ mc) (hsm : slots + 6 ≤ ms) : SWo (QX mk below args s D cA ad A mc ms) p l e R s m args below meth c cells slots nL D cA ad A pc L st h (some (.inr k, h)) := by
  intro r h' e1 H locs ls hP hS hl
  cases e1
  refine vx_throwSW (names := exN) (A := A) X.1 X.2.1 hlt X.2.2.2.1 hfit (by decide) (X.2.2.2.2.1 _ w1) (X.2.2.2.2.1 _ w2) (X.2.2.2.2.2.2.2.2.2.2.1 _ hq) (fun w hw => ?_) ?_ X.2.2.2.2.2.2.2.2.2.un X.2.2.2.2.2.2.2.2.2.su hS (hl.1.trans X.2.2.1.symm) d0 d3 d4 d6 d9 (fun x hx => (htab x hx).elim) hRf (by rw [cat_tv]; exact hRl) hRc hRs hlk ?_ hS.2.2 hcm hsm
  · rcases (hat w hw).1 with hw | hw
    · exact X.2.2.2.2.1 _ (wsg hw.1 hw.2)
    · rcases List.mem_cons.mp hw with rfl | hw
      · exact va_Nw.use rfl (X.2.2.2.2.2.2.2.2.2.ca _ hk4)
      · obtain ⟨x, hx, rfl⟩ := List.mem_map.mp hw
        exact va_Nw.use rfl (X.2.2.2.2.2.2.2.2.2.de _ hx)
  · intro w hw
    rcases List.mem_cons.mp hw with rfl | hw
    · simp [vx_ot, wsg_good w1]
    · rcases List.mem_cons.mp hw with rfl | hw
      · simp [vx_ot, wsg_good w2]
      · exact (hat w hw).2
  · intro t ht h1 h2
    refine ⟨k, rfl, rfl, hP.kept (fun i q hq => h2 q.1 ((hP i q hq).lt)), Nat.le_trans hS.1 h1, fun q hq1 hq2 => ?_⟩
    rw [h2 q (Nat.lt_of_lt_of_le hq1 hS.1)]
    exact hS.2.1 q hq1 hq2
theorem so_callX {β δ : Type} {mk : β → Option Value} {mk2 : δ → Option Value} {g : β → PH → Option ((δ ⊕ Nat) × PH)} (X : Cx p s m args c own cc nL D cA ad A) {y : MethodName} {bytes : ByteArray} {maxL ix mc1 ms1 : Nat} {ret : Option FieldType} {rm : Room} {As : List Value} {f : Option ((β ⊕ Nat) × PH)} {ci b N n : Nat} {C : String} {T : u_T} (hlk : meth.locks = false) (htab : ∀ x ∈ c.exceptionTable.toList, False) (hM : CTx mk l y bytes maxL ret rm mc1 ms1 (.ref b :: As) h f) (hk : (kd b).1 = ci) (hci : ci < 13) (hcl : vwCl[ci]? = some (C, T, N)) (hw1 : Cond.methodLink own ix y ∈ WSG) (hw2 : Cond.instanceMethod y ∈ WSG) (hw3 : Cond.selects C y y ∈ WSG) (hw4 : Cond.initialized C ∈ WSG) (hw5 : Cond.code y bytes maxL ret ∈ WSG)
    (hd : y.cls = C ∧ y.cls ≠ "java/lang/invoke/MethodHandle" ∧ y.cls ≠ "java/lang/invoke/VarHandle" ∧ (parseMethodDescriptor y.desc).map (fun d => d.parameters.length) = some n) (hn : As.length = n) (hrc : rm.cells = mc1) (hrs : rm.slots = ms1) (hR : rm.frames + 1 ≤ R.frames ∧ 8 + (maxL + 11) + rm.locals ≤ R.locals) (hcs : cells + mc1 ≤ R.cells ∧ slots + ms1 ≤ R.slots) (hmm : cells + mc1 ≤ mc ∧ slots + ms1 ≤ ms) (hst : (st.map fun v => v.category).sum ≤ 8) (d : decode cc pc = .ok (.invokevirtual ix, 3)) (k : ∀ r h1, SWo (QX mk2 below args s D cA ad A mc ms) p l e R s m args below meth c (cells + mc1) (slots + ms1) nL D cA ad A (pc + 3) L ((mk r).toList ++ st) h1 (g r h1)) {st0 : List Value} (hs0 : st0 = As.reverse ++ .ref b :: st) : SWo (QX mk2 below args s D cA ad A mc ms) p l e R s m args below meth c cells slots nL D cA ad A pc L st0 h (cbx f g) := by
  subst hs0
  intro r h' e1 H locs ls hP hS hl
  cases hf : f with
  | none => rw [hf] at e1; cases e1
  | some q =>
  rw [hf] at e1
  have M := hM D cA ad H.size X.2.2.2.2.2.2.1 q.1 q.2 hf
  have hA1 : ∀ q, Aa cA ad H.size q → A q := fun q hq => hq.elim (fun ⟨i, hi, he⟩ => he ▸ X.2.2.2.2.2.2.2.1 i hi) (fun hq => X.2.2.2.2.2.2.2.2.1 q (Nat.le_trans hS.1 hq))
  have hG : GoodIn WSG (wsV own ix C y (.code y bytes maxL ret :: WSG)) := by
    intro w hw
    simp only [wsV, List.mem_append, List.mem_cons, List.not_mem_nil, or_false] at hw
    rcases hw with (rfl | rfl | rfl | rfl) | rfl | hw
    · exact wsg_in hw1
    · exact wsg_in hw2
    · exact wsg_in hw3
    · exact wsg_in hw4
    · exact wsg_in hw5
    · exact wsg_in hw
  have run := vx_runV (p := p) (l := l) (e := e) (R := R) (below := below) (meth := meth) (locs := locs) (cells := cells) (slots := slots) (C := C) (b := ad b) (As := As.map (tv ad)) (rest := st.map (tv ad)) (g := F0 m pc ls ((As.reverse ++ .ref b :: st).map (tv ad))) ⟨X.1, X.2.1, X.2.2.1, X.2.2.2.1, X.2.2.2.2.1⟩ M (cwV n X.2.2.2.2.1 hG rfl hrc hrs hd hR) ⟨pre_blind, va_recv X.2.2.2.2.2.1 hP hcl (by rw [wd_get (kc_lt hk (by omega)), en_obj hk hci]), fun U hU hW => ⟨rfl, by rw [hU], by rw [hU]; exact hP, va_K.moved hW.alike X.2.2.2.2.2.1, by rw [hU]; exact RO.step X.2.2.2.2.2.2.2.2.2 hS hA1 hW⟩⟩ rfl (by rw [List.length_map]; exact hn) hl.1 (by show List.map _ _ = _; simp [tv]) (lv_room (by rw [cat_tv]; exact hst)) d ⟨hcs.1, hcs.2⟩
  intro T hT XS
  rcases run T hT XS with ⟨v, st₀, t, T', Lc, h0, X', hLc, e1', e2', ⟨a, ha, hv, hP1, hF⟩, go⟩ | ⟨qa, st₀, t, T', Lc, E, ce, h0, X', hLc, e1', e2', ⟨kx, ha, hE, hP1, hF⟩, hce, hcv, hcl2, go⟩
  · cases hv
    obtain ⟨q1, q2⟩ := q
    subst ha
    obtain ⟨k1, k2, k3⟩ := vx_keep h0 e1' hS (fun q _ hq => hA1 q hq) hA1 hLc hF
    obtain ⟨t2, a1, b1⟩ := k a q2 r h' e1 T'.heap (locs ++ Lc) ls (by rw [e1']; exact hP1) k3 hl T' rfl X'
    refine ⟨t2, go t2 ?_, b1⟩
    rw [← mk_list] at a1
    exact a1
  · obtain ⟨q1, q2⟩ := q
    subst ha
    subst hE
    cases e1
    obtain ⟨k1, k2, k3⟩ := vx_keep h0 e1' hS (fun q _ hq => hA1 q hq) hA1 hLc hF
    have ho := vx_out (p := p) (l := l) (e := e) (R := R) (m := m) (args := args) (below := below) (ls := ls) (pc := pc) (rest := st.map (tv ad)) (Qc := PxR mk2 D cA ad A (.inr kx) h') (XC := PxT (α := δ) D cA ad A (.inr kx) h') (free := A) (fun x hx => (htab x hx).elim) hlk (by rw [e1']; exact hce) hcv hcl2 (fun t2 ht2 _ => ⟨kx, rfl, rfl, by rw [ht2, e1']; exact hP1, k3.F ht2⟩) k3.2.2 hmm.1 hmm.2
    obtain ⟨t2, a1, b1⟩ := ho T' rfl X'
    exact ⟨t2, go.trans a1, b1⟩
end SX

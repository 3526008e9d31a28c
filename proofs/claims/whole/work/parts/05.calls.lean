def Aa (cA : Nat → ClassId) (ad : Nat → Nat) (sz : Nat) : Nat → Prop := fun q => (∃ i, i < nc cA ∧ q = ad i) ∨ sz ≤ q
def Pre (D : va_G) (cA : Nat → ClassId) (ad : Nat → Nat) (As : List Value) (h : PH) (sz : Nat) : Array Value → State → Prop := va_Pc (As.map (tv ad)) (fun U => U.heap.size = sz ∧ va_P D vwCl (wd cA ad h) U.heap ∧ va_K D vwCl (tyl cA) U ∧ RO ad (Aa cA ad sz) U U.heap)
def Pst {α : Type} (mk : α → Option Value) (D : va_G) (cA : Nat → ClassId) (ad : Nat → Nat) (A : Nat → Prop) (r : α) (h' : PH) : Array Value → State → Outcome → State → Prop := fun _ st oc t => oc = .returned ((mk r).map (tv ad)) ∧ va_P D vwCl (wd cA ad h') t.heap ∧ va_F A st t
/-- method y, called with As over the pure heap h, returns what o says (if o says something) -/
def CT {α : Type} (mk : α → Option Value) (l : Launch) (y : MethodName) (bytes : ByteArray) (maxL : Nat) (ret : Option FieldType) (rm : Room) (As : List Value) (h : PH) (o : Option (α × PH)) : Prop :=
  ∀ (D : va_G) (cA : Nat → ClassId) (ad : Nat → Nat) (sz : Nat), (∀ i j, i < nc cA → j < nc cA → ad i = ad j → i = j) → ∀ (r : α) (h' : PH), o = some (r, h') → Met l y (.code y bytes maxL ret :: WSG) rm (Pre D cA ad As h sz) (Pst mk D cA ad (Aa cA ad sz) r h') 0 0 (Aa cA ad sz)
abbrev mkI : Int32 → Option Value := fun r => some (.int r)
abbrev mkL : Int64 → Option Value := fun r => some (.long r)
abbrev mkR : Nat → Option Value := fun r => some (.ref r)
abbrev mkV : Unit → Option Value := fun _ => none
/-- the room of d calls within one another -/
def rmd (d : Nat) : Room := { frames := d, cells := 0, slots := 0, locals := 48 * d }
def zr (v : Int32) (h : PH) : Option (Int32 × PH) := if v &&& 1 = v then some (v, h) else none
def QM {α : Type} (mk : α → Option Value) (below : List Frame) (args : Array Value) (s : State) (D : va_G) (cA : Nat → ClassId) (ad : Nat → Nat) (A : Nat → Prop) : α → PH → State → Prop := fun r h' => MQ below (Pst mk D cA ad A r h') args s 0 0 A
theorem lv_args_tq (ad : Nat → Nat) : ∀ (i : Nat) (As : List Value), lv_args i (As.map (tv ad)) = (lv_args i As).map (tq ad)
  | _, [] => rfl
  | i, v :: vs => by
    show (i, tv ad v) :: lv_args (if (tv ad v).category = 2 then i + 2 else i + 1) (vs.map (tv ad)) = _
    rw [tv_cat, lv_args_tq ad _ vs]
    rfl
theorem lg_sl_tv (ad : Nat → Nat) : ∀ (As : List Value), (lg_sl (As.map (tv ad))).length = (lg_sl As).length
  | [] => rfl
  | v :: vs => by
    have ih := lg_sl_tv ad vs
    unfold lg_sl at ih ⊢
    simp only [List.map_cons, List.flatMap_cons, List.length_append, ih, tv_cat]
    split <;> rfl
theorem ct_of {α : Type} {mk : α → Option Value} {l : Launch} {y : MethodName} {bytes : ByteArray} {maxL : Nat} {ret : Option FieldType} {rm : Room} {As : List Value} {h : PH} {o : Option (α × PH)} (hy : plainName y.cls = true) (hlen : (lg_sl As).length ≤ maxL)
    (body : ∀ (p : Program) (e : Env) (s : State) (m : MethodId) (args : Array Value) (below : List Frame) (meth : Method) (c : Code) (D : va_G) (cA : Nat → ClassId) (ad : Nat → Nat) (A : Nat → Prop), Cx p s m args c y.cls bytes maxL D cA ad A → meth.sig.returnType = ret → meth.locks = false → SWo (QM mk below args s D cA ad A) p l e rm s m args below meth c 0 0 maxL D cA ad A 0 (lv_args 0 As) [] h o) : CT mk l y bytes maxL ret rm As h o := by
  intro D cA ad sz hinj r h' ho
  refine Met.ofW (cc := bytes) (maxL := maxL) (ret := ret) hy rfl ?_
  intro p e s m args below meth c s₁ B hml hv
  obtain ⟨rfl, hsz, hP, hK, hRO⟩ := hv
  subst hsz
  have hts := atoms_spec (ws := .code y bytes maxL ret :: WSG) B.pre
  have hown : s.vm.findClass y.cls = some m.cls := findClass_of_methodNamed B.named
  have hl := lv_entry (As.map (tv ad)) (n := maxL) (by rw [lg_sl_tv]; exact hlen)
  rw [lg_entry_eq]
  rw [lv_args_tq] at hl
  exact body p e s m _ below meth c D cA ad (Aa cA ad s.heap.size) ⟨B.exec, B.bytes, hml, hown, fun w hw => hts w (List.mem_cons_of_mem _ hw), hK, hinj, fun i hi => Or.inl ⟨i, hi, rfl⟩, fun q hq => Or.inr hq, hRO⟩ B.returns B.notSynchronized r h' ho s.heap [] _ hP va_S.rf hl
theorem pre_blind {D : va_G} {cA : Nat → ClassId} {ad : Nat → Nat} {As : List Value} {h : PH} {sz : Nat} : FrameBlind (Pre D cA ad As h sz) := fun a U g mk q => by
  obtain ⟨q0, q1, qP, qK, qR⟩ := q
  exact ⟨q0, q1, qP, va_K.moved (u := U) (U := U.calling g mk a) (Vm.Alike.refl U.vm) qK, RO.same (U := U) (V := U.calling g mk a) qR rfl⟩
theorem wsg_in {w : Cond} (h : w ∈ WSG) : w ∈ WSG ∧ ((w.onTables && w.keeps) = true ∨ ∃ ty, w = .arrayClass ty) := ⟨h, good_of_word (wsg_good h)⟩
theorem wsg_cons {w : Cond} (h : w ∈ WSG) : GoodIn WSG (w :: WSG) := fun _ hx => (List.mem_cons.mp hx).elim (fun e => e ▸ wsg_in h) wsg_in
theorem mk_list {ad : Nat → Nat} (v : Option Value) (st : List Value) : (v.map (tv ad)).toList ++ st.map (tv ad) = (v.toList ++ st).map (tv ad) := by
  cases v <;> simp
section SC
variable {p : Program} {l : Launch} {e : Env} {R : Room} {s : State} {m : MethodId} {args : Array Value} {below : List Frame} {meth : Method} {c : Code} {cells slots nL : Nat} {D : va_G} {cA : Nat → ClassId} {ad : Nat → Nat} {A : Nat → Prop} {own : String} {cc : ByteArray} {pc tgt : Nat} {L L' : List (Nat × Value)} {st : List Value} {h : PH} {α : Type} {QQ : α → PH → State → Prop} {o o1 o2 : Option (α × PH)}
theorem so_iret (X : Cx p s m args c own cc nL D cA ad A) {x : Int32} (hr : meth.sig.returnType = some .int) (hlk : meth.locks = false) (d : decode cc pc = .ok (.ireturn, 1)) : SWo (QM mkI below args s D cA ad A) p l e R s m args below meth c 0 0 nL D cA ad A (pc) (L) ([.int x]) (h) (some (x, h)) := by
  intro r h' e1 H locs ls hP hS hl
  cases e1
  exact W.iret (v := x) X.1 X.2.1 hr (fun t ht hW => ⟨rfl, by rw [ht]; exact hP, hS.F ht⟩) hS.2.2 d hlk
theorem so_zret (X : Cx p s m args c own cc nL D cA ad A) {x : Int32} (hr : meth.sig.returnType = some .boolean) (hlk : meth.locks = false) (d : decode cc pc = .ok (.ireturn, 1)) : SWo (QM mkI below args s D cA ad A) p l e R s m args below meth c 0 0 nL D cA ad A (pc) (L) ([.int x]) (h) (zr x h) := by
  intro r h' e1 H locs ls hP hS hl
  unfold zr at e1
  by_cases hx : x &&& 1 = x
  · rw [if_pos hx] at e1
    cases e1
    exact W.zret (v := x) X.1 X.2.1 hr (by show Value.int (x &&& 1) = _; rw [hx]) (fun t ht hW => ⟨rfl, by rw [ht]; exact hP, hS.F ht⟩) hS.2.2 d hlk
  · rw [if_neg hx] at e1
    cases e1
theorem so_lret (X : Cx p s m args c own cc nL D cA ad A) {x : Int64} (hr : meth.sig.returnType = some .long) (hlk : meth.locks = false) (d : decode cc pc = .ok (.lreturn, 1)) : SWo (QM mkL below args s D cA ad A) p l e R s m args below meth c 0 0 nL D cA ad A (pc) (L) ([.long x]) (h) (some (x, h)) := by
  intro r h' e1 H locs ls hP hS hl
  cases e1
  exact W.lret (v := x) X.1 X.2.1 hr (fun t ht hW => ⟨rfl, by rw [ht]; exact hP, hS.F ht⟩) hS.2.2 d hlk
theorem so_vret (X : Cx p s m args c own cc nL D cA ad A) (hr : meth.sig.returnType = none) (hlk : meth.locks = false) (d : decode cc pc = .ok (.return_, 1)) : SWo (QM mkV below args s D cA ad A) p l e R s m args below meth c 0 0 nL D cA ad A (pc) (L) ([]) (h) (some ((), h)) := by
  intro r h' e1 H locs ls hP hS hl
  cases e1
  exact W.vret X.1 X.2.1 hr (fun t ht hW => ⟨rfl, by rw [ht]; exact hP, hS.F ht⟩) hS.2.2 d hlk
theorem so_aret (X : Cx p s m args c own cc nL D cA ad A) {x : Nat} {C : String} (hr : meth.sig.returnType = some (.object C)) (hlk : meth.locks = false) (d : decode cc pc = .ok (.areturn, 1)) : SWo (QM mkR below args s D cA ad A) p l e R s m args below meth c 0 0 nL D cA ad A (pc) (L) ([.ref x]) (h) (some (x, h)) := by
  intro r h' e1 H locs ls hP hS hl
  cases e1
  exact W.aret (v := .ref (ad x)) X.1 X.2.1 hr (Or.inl ⟨C, rfl⟩) (Or.inr ⟨_, rfl⟩) (fun t ht hW => ⟨rfl, by rw [ht]; exact hP, hS.F ht⟩) hS.2.2 d hlk
theorem so_callVg (X : Cx p s m args c own cc nL D cA ad A) {β : Type} {mk : β → Option Value} {y : MethodName} {bytes : ByteArray} {maxL ix : Nat} {ret : Option FieldType} {rm : Room} {As : List Value} {f : Option (β × PH)} {g : β → PH → Option (α × PH)} {b n : Nat} {C : String} (hM : CT mk l y bytes maxL ret rm (.ref b :: As) h f) (hrecv : ∀ (H : Heap) (locs : List Loc), va_P D vwCl (wd cA ad h) H → va_S A s.heap H locs → ∃ cellB : Cell, H[ad b]? = some cellB ∧ cellB.vm.isStatics = false ∧ s.vm.findClass C = some cellB.cls) (hw1 : Cond.methodLink own ix y ∈ WSG) (hw2 : Cond.instanceMethod y ∈ WSG) (hw3 : Cond.selects C y y ∈ WSG) (hw4 : Cond.initialized C ∈ WSG) (hw5 : Cond.code y bytes maxL ret ∈ WSG)
    (hd : y.cls = C ∧ y.cls ≠ "java/lang/invoke/MethodHandle" ∧ y.cls ≠ "java/lang/invoke/VarHandle" ∧ (parseMethodDescriptor y.desc).map (fun d => d.parameters.length) = some n) (hn : As.length = n) (hrc : rm.cells = 0) (hrs : rm.slots = 0) (hR : rm.frames + 1 ≤ R.frames ∧ 8 + (maxL + 11) + rm.locals ≤ R.locals) (hcs : cells ≤ R.cells ∧ slots ≤ R.slots) (hst : (st.map fun v => v.category).sum ≤ 8) (d : decode cc pc = .ok (.invokevirtual ix, 3)) (k : ∀ r h1, SWo QQ p l e R s m args below meth c cells slots nL D cA ad A (pc + 3) (L) ((mk r).toList ++ st) (h1) (g r h1)) {st0 : List Value} (hs0 : st0 = As.reverse ++ .ref b :: st) : SWo QQ p l e R s m args below meth c cells slots nL D cA ad A (pc) (L) (st0) (h) (cb f g) := by
  subst hs0
  intro r h' e1 H locs ls hP hS hl
  cases hf : f with
  | none => rw [hf] at e1; cases e1
  | some q =>
  rw [hf] at e1
  have M := hM D cA ad H.size X.2.2.2.2.2.2.1 q.1 q.2 hf
  have hA1 : ∀ q, Aa cA ad H.size q → A q := fun q hq => hq.elim (fun ⟨i, hi, he⟩ => he ▸ X.2.2.2.2.2.2.2.1 i hi) (fun hq => X.2.2.2.2.2.2.2.2.1 q (Nat.le_trans hS.1 hq))
  have hG : GoodIn WSG (wsV own ix C y (.code y bytes maxL ret :: WSG)) := by
    intro w hw
    simp only [wsV, List.mem_append, List.mem_cons, List.not_mem_nil, or_false] at hw
    rcases hw with (rfl | rfl | rfl | rfl) | rfl | hw
    · exact wsg_in hw1
    · exact wsg_in hw2
    · exact wsg_in hw3
    · exact wsg_in hw4
    · exact wsg_in hw5
    · exact wsg_in hw
  have run := va_runV (p := p) (l := l) (e := e) (R := R) (below := below) (meth := meth) (locs := locs) (cells := cells) (slots := slots) (C := C) (b := ad b) (As := As.map (tv ad)) (rest := st.map (tv ad)) (g := F0 m pc ls ((As.reverse ++ .ref b :: st).map (tv ad))) ⟨X.1, X.2.1, X.2.2.1, X.2.2.2.1, X.2.2.2.2.1⟩ M (cwV n X.2.2.2.2.1 hG rfl hrc hrs hd hR) ⟨pre_blind, hrecv H locs hP hS, fun U hU hW => ⟨rfl, by rw [hU], by rw [hU]; exact hP, va_K.moved hW.alike X.2.2.2.2.2.1, by rw [hU]; exact RO.step X.2.2.2.2.2.2.2.2.2 hS hA1 hW⟩⟩ rfl (by rw [List.length_map]; exact hn) hl.1 (by show List.map _ _ = _; simp [tv]) (lv_room (by rw [List.map_map]; have e9 : ((fun v : Value => v.category) ∘ tv ad) = (fun v => v.category) := funext (tv_cat ad); rw [e9]; exact hst)) d ⟨hcs.1, hcs.2⟩
  intro T hT XS
  obtain ⟨v, st₀, t, T', Lc, h0, X', hLc, e1', e2', ⟨hv, hP1, hF⟩, go⟩ := run T hT XS
  cases hv
  obtain ⟨k1, k2, k3⟩ := vx_keep h0 e1' hS (fun q _ hq => hA1 q hq) hA1 hLc hF
  obtain ⟨t2, a1, b1⟩ := k q.1 q.2 r h' e1 T'.heap (locs ++ Lc) ls (by rw [e1']; exact hP1) k3 hl T' rfl X'
  refine ⟨t2, go t2 ?_, b1⟩
  rw [← mk_list] at a1
  exact a1
theorem so_callV (X : Cx p s m args c own cc nL D cA ad A) {β : Type} {mk : β → Option Value} {y : MethodName} {bytes : ByteArray} {maxL ix : Nat} {ret : Option FieldType} {rm : Room} {As : List Value} {f : Option (β × PH)} {g : β → PH → Option (α × PH)} {ci b N n : Nat} {C : String} {T : u_T} (hM : CT mk l y bytes maxL ret rm (.ref b :: As) h f) (hk : (kd b).1 = ci) (hci : ci < 13) (hcl : vwCl[ci]? = some (C, T, N)) (hw1 : Cond.methodLink own ix y ∈ WSG) (hw2 : Cond.instanceMethod y ∈ WSG) (hw3 : Cond.selects C y y ∈ WSG) (hw4 : Cond.initialized C ∈ WSG) (hw5 : Cond.code y bytes maxL ret ∈ WSG)
    (hd : y.cls = C ∧ y.cls ≠ "java/lang/invoke/MethodHandle" ∧ y.cls ≠ "java/lang/invoke/VarHandle" ∧ (parseMethodDescriptor y.desc).map (fun d => d.parameters.length) = some n) (hn : As.length = n) (hrc : rm.cells = 0) (hrs : rm.slots = 0) (hR : rm.frames + 1 ≤ R.frames ∧ 8 + (maxL + 11) + rm.locals ≤ R.locals) (hcs : cells ≤ R.cells ∧ slots ≤ R.slots) (hst : (st.map fun v => v.category).sum ≤ 8) (d : decode cc pc = .ok (.invokevirtual ix, 3)) (k : ∀ r h1, SWo QQ p l e R s m args below meth c cells slots nL D cA ad A (pc + 3) (L) ((mk r).toList ++ st) (h1) (g r h1)) {st0 : List Value} (hs0 : st0 = As.reverse ++ .ref b :: st) : SWo QQ p l e R s m args below meth c cells slots nL D cA ad A (pc) (L) (st0) (h) (cb f g) :=
  so_callVg X hM (fun H locs hP _ => va_recv X.2.2.2.2.2.1 hP hcl (by rw [wd_get (kc_lt hk (by omega)), en_obj hk hci])) hw1 hw2 hw3 hw4 hw5 hd hn hrc hrs hR hcs hst d k hs0
theorem so_callT (X : Cx p s m args c own cc nL D cA ad A) {β : Type} {mk : β → Option Value} {y : MethodName} {bytes : ByteArray} {maxL ix : Nat} {ret : Option FieldType} {rm : Room} {As : List Value} {f : Option (β × PH)} {g : β → PH → Option (α × PH)} {i n : Nat} (hM : CT mk l y bytes maxL ret rm (.ref (200 + i) :: As) h f) (hi : i < NS) (hw1 : Cond.methodLink own ix y ∈ WSG) (hw2 : Cond.instanceMethod y ∈ WSG) (hw3 : Cond.selects "java/lang/String" y y ∈ WSG) (hw4 : Cond.initialized "java/lang/String" ∈ WSG) (hw5 : Cond.code y bytes maxL ret ∈ WSG)
    (hd : y.cls = "java/lang/String" ∧ y.cls ≠ "java/lang/invoke/MethodHandle" ∧ y.cls ≠ "java/lang/invoke/VarHandle" ∧ (parseMethodDescriptor y.desc).map (fun d => d.parameters.length) = some n) (hn : As.length = n) (hrc : rm.cells = 0) (hrs : rm.slots = 0) (hR : rm.frames + 1 ≤ R.frames ∧ 8 + (maxL + 11) + rm.locals ≤ R.locals) (hcs : cells ≤ R.cells ∧ slots ≤ R.slots) (hst : (st.map fun v => v.category).sum ≤ 8) (d : decode cc pc = .ok (.invokevirtual ix, 3)) (k : ∀ r h1, SWo QQ p l e R s m args below meth c cells slots nL D cA ad A (pc + 3) (L) ((mk r).toList ++ st) (h1) (g r h1)) {st0 : List Value} (hs0 : st0 = As.reverse ++ .ref (200 + i) :: st) : SWo QQ p l e R s m args below meth c cells slots nL D cA ad A (pc) (L) (st0) (h) (cb f g) :=
  so_callVg X hM (fun H locs _ hS => by
    obtain ⟨cell, q1, q2, q3, -⟩ := (X.2.2.2.2.2.2.2.2.2.1 i hi).1.kept hS.2.1
    exact ⟨cell, q1, q2, q3⟩) hw1 hw2 hw3 hw4 hw5 hd hn hrc hrs hR hcs hst d k hs0
theorem so_callS (X : Cx p s m args c own cc nL D cA ad A) {β : Type} {mk : β → Option Value} {y : MethodName} {bytes : ByteArray} {maxL ix : Nat} {ret : Option FieldType} {rm : Room} {As : List Value} {f : Option (β × PH)} {g : β → PH → Option (α × PH)} {n : Nat} (hM : CT mk l y bytes maxL ret rm As h f) (hw1 : Cond.methodLink own ix y ∈ WSG) (hw2 : Cond.static y ∈ WSG) (hw4 : Cond.initialized y.cls ∈ WSG) (hw5 : Cond.code y bytes maxL ret ∈ WSG)
    (hd : y.cls ≠ "java/lang/invoke/MethodHandle" ∧ y.cls ≠ "java/lang/invoke/VarHandle" ∧ (parseMethodDescriptor y.desc).map (fun d => d.parameters.length) = some n) (hn : As.length = n) (hrc : rm.cells = 0) (hrs : rm.slots = 0) (hR : rm.frames + 1 ≤ R.frames ∧ 8 + (maxL + 11) + rm.locals ≤ R.locals) (hcs : cells ≤ R.cells ∧ slots ≤ R.slots) (hst : (st.map fun v => v.category).sum ≤ 8) (d : decode cc pc = .ok (.invokestatic ix, 3)) (k : ∀ r h1, SWo QQ p l e R s m args below meth c cells slots nL D cA ad A (pc + 3) (L) ((mk r).toList ++ st) (h1) (g r h1)) {st0 : List Value} (hs0 : st0 = As.reverse ++ st) : SWo QQ p l e R s m args below meth c cells slots nL D cA ad A (pc) (L) (st0) (h) (cb f g) := by
  subst hs0
  intro r h' e1 H locs ls hP hS hl
  cases hf : f with
  | none => rw [hf] at e1; cases e1
  | some q =>
  rw [hf] at e1
  have M := hM D cA ad H.size X.2.2.2.2.2.2.1 q.1 q.2 hf
  have hA1 : ∀ q, Aa cA ad H.size q → A q := fun q hq => hq.elim (fun ⟨i, hi, he⟩ => he ▸ X.2.2.2.2.2.2.2.1 i hi) (fun hq => X.2.2.2.2.2.2.2.2.1 q (Nat.le_trans hS.1 hq))
  have run := va_runS (p := p) (l := l) (e := e) (R := R) (below := below) (meth := meth) (locs := locs) (cells := cells) (slots := slots) (As := As.map (tv ad)) (rest := st.map (tv ad)) (g := F0 m pc ls ((As.reverse ++ st).map (tv ad))) ⟨X.1, X.2.1, X.2.2.1, X.2.2.2.1, X.2.2.2.2.1⟩ M ⟨callB_of n X.2.2.2.2.1 (wsg_cons hw5) rfl hrc hrs (X.2.2.2.2.1 _ hw4) (X.2.2.2.2.1 _ hw1) hd hR, X.2.2.2.2.1 _ hw2⟩ ⟨pre_blind, fun U hU hW => ⟨rfl, by rw [hU], by rw [hU]; exact hP, va_K.moved hW.alike X.2.2.2.2.2.1, by rw [hU]; exact RO.step X.2.2.2.2.2.2.2.2.2 hS hA1 hW⟩⟩ rfl (by rw [List.length_map]; exact hn) hl.1 (by show List.map _ _ = _; simp) (lv_room (by rw [List.map_map]; have e9 : ((fun v : Value => v.category) ∘ tv ad) = (fun v => v.category) := funext (tv_cat ad); rw [e9]; exact hst)) d ⟨hcs.1, hcs.2⟩
  intro T hT XS
  obtain ⟨v, st₀, t, T', Lc, h0, X', hLc, e1', e2', ⟨hv, hP1, hF⟩, go⟩ := run T hT XS
  cases hv
  obtain ⟨k1, k2, k3⟩ := vx_keep h0 e1' hS (fun q _ hq => hA1 q hq) hA1 hLc hF
  obtain ⟨t2, a1, b1⟩ := k q.1 q.2 r h' e1 T'.heap (locs ++ Lc) ls (by rw [e1']; exact hP1) k3 hl T' rfl X'
  refine ⟨t2, go t2 ?_, b1⟩
  rw [← mk_list] at a1
  exact a1
def FF (ci j : Nat) (C : String) (T : u_T) (N code : Nat) : Prop := (∀ w ∈ u_ws C T N, w ∈ WSG) ∧ vwCl[ci]? = some (C, T, N) ∧ j < N ∧ j < (ft ci).length ∧ (ft ci).getD j 0 = code ∧ ci < 13
def FT (T : u_T) (N : Nat) (ty0 : Nat → FieldType) : Prop := (∀ k, k < N → parseFieldDescriptor (T k).2.2.1 = some (ty0 k)) ∧ ∀ a, a < N → ∀ b, b < N → a ≠ b → (T a).2.1 ≠ (T b).2.1
theorem sf_getI (X : Cx p s m args c own cc nL D cA ad A) {ci j N ix a : Nat} {C : String} {T : u_T} (F : FF ci j C T N 0) (hlink : Cond.fieldLink own ix (T j).1 (T j).2.1 (T j).2.2.1 ∈ WSG) (hk : (kd a).1 = ci) (d : decode cc pc = .ok (.getfield ix, 3)) (k : SWo QQ p l e R s m args below meth c cells slots nL D cA ad A (pc + 3) (L) (.int (h.1 a j) :: st) (h) (o)) : SWo QQ p l e R s m args below meth c cells slots nL D cA ad A (pc) (L) (.ref a :: st) (h) (o) :=
  so_getI X F.1 F.2.1 F.2.2.1 F.2.2.2.1 F.2.2.2.2.1 F.2.2.2.2.2 hlink hk d k
theorem sf_getL (X : Cx p s m args c own cc nL D cA ad A) {ci j N ix a : Nat} {C : String} {T : u_T} (F : FF ci j C T N 1) (hlink : Cond.fieldLink own ix (T j).1 (T j).2.1 (T j).2.2.1 ∈ WSG) (hk : (kd a).1 = ci) (d : decode cc pc = .ok (.getfield ix, 3)) (k : SWo QQ p l e R s m args below meth c cells slots nL D cA ad A (pc + 3) (L) (.long (h.2 a j) :: st) (h) (o)) : SWo QQ p l e R s m args below meth c cells slots nL D cA ad A (pc) (L) (.ref a :: st) (h) (o) :=
  so_getL X F.1 F.2.1 F.2.2.1 F.2.2.2.1 F.2.2.2.2.1 F.2.2.2.2.2 hlink hk d k
theorem sf_getR (X : Cx p s m args c own cc nL D cA ad A) {ci j N ix a : Nat} {C : String} {T : u_T} (F : FF ci j C T N 2) (hlink : Cond.fieldLink own ix (T j).1 (T j).2.1 (T j).2.2.1 ∈ WSG) (hk : (kd a).1 = ci) (d : decode cc pc = .ok (.getfield ix, 3)) (k : SWo QQ p l e R s m args below meth c cells slots nL D cA ad A (pc + 3) (L) (.ref (rt a j) :: st) (h) (o)) : SWo QQ p l e R s m args below meth c cells slots nL D cA ad A (pc) (L) (.ref a :: st) (h) (o) :=
  so_getR X F.1 F.2.1 F.2.2.1 F.2.2.2.1 F.2.2.2.2.1 F.2.2.2.2.2 hlink hk d k
theorem sf_putI (X : Cx p s m args c own cc nL D cA ad A) {ci j N ix a : Nat} {C : String} {T : u_T} {ty0 : Nat → FieldType} (F : FF ci j C T N 0) (G : FT T N ty0) (hfin : (T j).2.2.2 = false) (hlink : Cond.fieldLink own ix (T j).1 (T j).2.1 (T j).2.2.1 ∈ WSG) (hk : (kd a).1 = ci) {x : Int32} {g : PH → Option (α × PH)} (hn : narrow (ty0 j) (.int x) = .int x) (hfit : fits (ty0 j) (.int x) = true) (d : decode cc pc = .ok (.putfield ix, 3)) (k : ∀ h1, SWo QQ p l e R s m args below meth c cells slots nL D cA ad A (pc + 3) (L) (st) (h1) (g h1)) : SWo QQ p l e R s m args below meth c cells slots nL D cA ad A (pc) (L) (.int x :: .ref a :: st) (h) (lt (pI h a j x) g) :=
  so_putI X F.1 F.2.1 F.2.2.1 F.2.2.2.1 F.2.2.2.2.1 F.2.2.2.2.2 ty0 G.1 G.2 hfin hlink hk hn hfit d k
theorem sf_putL (X : Cx p s m args c own cc nL D cA ad A) {ci j N ix a : Nat} {C : String} {T : u_T} {ty0 : Nat → FieldType} (F : FF ci j C T N 1) (G : FT T N ty0) (hfin : (T j).2.2.2 = false) (hlink : Cond.fieldLink own ix (T j).1 (T j).2.1 (T j).2.2.1 ∈ WSG) (hk : (kd a).1 = ci) {x : Int64} {g : PH → Option (α × PH)} (hn : narrow (ty0 j) (.long x) = .long x) (hfit : fits (ty0 j) (.long x) = true) (d : decode cc pc = .ok (.putfield ix, 3)) (k : ∀ h1, SWo QQ p l e R s m args below meth c cells slots nL D cA ad A (pc + 3) (L) (st) (h1) (g h1)) : SWo QQ p l e R s m args below meth c cells slots nL D cA ad A (pc) (L) (.long x :: .ref a :: st) (h) (lt (pL h a j x) g) :=
  so_putL X F.1 F.2.1 F.2.2.1 F.2.2.2.1 F.2.2.2.2.1 F.2.2.2.2.2 ty0 G.1 G.2 hfin hlink hk hn hfit d k
theorem so_join {J : Type} {jf : J} {g : J → Option (α × PH)} (P : J → Prop) (h1 : P jf) (k : ∀ j, P j → SWo QQ p l e R s m args below meth c cells slots nL D cA ad A (pc) (L) (st) (h) (g j)) : SWo QQ p l e R s m args below meth c cells slots nL D cA ad A (pc) (L) (st) (h) (lt jf g) := k jf h1
def lp {σ γ : Type} (body : (σ → PH → Option γ) → σ → PH → Option γ) : Nat → σ → PH → Option γ
  | 0, _, _ => none
  | n + 1, s, h => body (lp body n) s h
def FU : Nat := 1048576
theorem so_loop {σ : Type} {body : (σ → PH → Option (α × PH)) → σ → PH → Option (α × PH)} (Lf : σ → List (Nat × Value)) (B : ∀ rec : σ → PH → Option (α × PH), (∀ s1 h1, SWo QQ p l e R s m args below meth c cells slots nL D cA ad A (pc) (Lf s1) (st) (h1) (rec s1 h1)) → ∀ s1 h1, SWo QQ p l e R s m args below meth c cells slots nL D cA ad A (pc) (Lf s1) (st) (h1) (body rec s1 h1)) : ∀ (n : Nat) (s1 : σ) (h1 : PH), SWo QQ p l e R s m args below meth c cells slots nL D cA ad A (pc) (Lf s1) (st) (h1) (lp body n s1 h1)
  | 0, _, _ => fun _ _ e1 => by cases e1
  | n + 1, s1, h1 => B (lp body n) (so_loop Lf B n) s1 h1
theorem fo {i c n : Nat} (h : kd i = (c, n)) : (kd i).1 = c := by rw [h]
theorem pgm {β : Type} {l : List β} (i : Nat) {q : β} (h : l[i]? = some q) : q ∈ l := List.mem_of_getElem? h

theorem so_aaldK (X : Cx p s m args c own cc nL D cA ad A) {a n c0 : Nat} {i : Int32} {g : Nat → Option (α × PH)} {ty : FieldType} {K : Nat × Nat} (hk : kd a = (c0, n)) (h16 : 16 < c0) (h99 : c0 < 22) (t0 : Nat) (ht : ∀ cA : Nat → ClassId, (tyl cA)[t0]? = some (cA c0, ty)) (hty : ty.isReference = true) (hkv : ∀ j, j < n → kd (rt a j) = K) (d : decode cc pc = .ok (.aaload, 1)) (k : ∀ v, kd v = K → SWo QQ p l e R s m args below meth c cells slots nL D cA ad A (pc + 1) (L) (.ref v :: st) (h) (g v)) : SWo QQ p l e R s m args below meth c cells slots nL D cA ad A (pc) (L) (.int i :: .ref a :: st) (h) (ldR a n i g) :=
  so_aald X hk h16 h99 t0 ht hty d (fun j hj => k _ (hkv j hj))
theorem so_alen (X : Cx p s m args c own cc nL D cA ad A) {a n c0 : Nat} (hk : kd a = (c0, n)) (h13 : ¬ c0 < 13) (h99 : c0 < 22) (t0 : Nat) (ht : ∀ cA : Nat → ClassId, ∃ ty, (tyl cA)[t0]? = some (cA c0, ty)) (d : decode cc pc = .ok (.arraylength, 1)) (k : SWo QQ p l e R s m args below meth c cells slots nL D cA ad A (pc + 1) (L) (.int (Int32.ofNat n) :: st) (h) (o)) : SWo QQ p l e R s m args below meth c cells slots nL D cA ad A (pc) (L) (.ref a :: st) (h) (o) := by
  intro r h' e1 H locs ls hP hS hl
  obtain ⟨ty, hty⟩ := ht cA
  have hx : ∃ x : vp_A, x.1 = n ∧ en cA ad h a = .inl (cA c0, x) := by
    by_cases h1 : c0 < 16
    · exact ⟨_, rfl, en_ints hk h13 h1⟩
    · by_cases h2 : c0 = 16
      · subst h2; exact ⟨_, rfl, en_longs hk⟩
      · exact ⟨_, rfl, en_refs hk (by omega) h99⟩
  obtain ⟨x, hx1, hx2⟩ := hx
  exact va_alen X.1 X.2.1 X.2.2.2.2.2.1 hP a t0 (x := x) (by rw [wd_get (kc_lt2 hk h99), hx2]) hty (by rw [hx1]) d (k r h' e1 H locs ls hP hS hl)
theorem cat_tv (ad : Nat → Nat) (st : List Value) : ((st.map (tv ad)).map fun v => v.category).sum = (st.map fun v => v.category).sum := by
  rw [List.map_map]
  have e9 : ((fun v : Value => v.category) ∘ tv ad) = (fun v => v.category) := funext (tv_cat ad)
  rw [e9]
theorem rm_ok {dc d maxL : Nat} (h1 : dc + 1 ≤ d) (h2 : maxL ≤ 29) : (rmd dc).frames + 1 ≤ (rmd d).frames ∧ 8 + (maxL + 11) + (rmd dc).locals ≤ (rmd d).locals := by
  simp only [rmd]
  omega
abbrev mkT (r : Nat) : Unit → Option Value := fun _ => some (.ref r)
def gk {γ : Type} (r c : Nat) (o : Option γ) : Option γ := if (kd r).1 = c then o else none
def cpI (h : PH) (a0 a sp dp n : Nat) : PH := (fun c b => if c = a then va_cpy (h.1 a0) (h.1 a) sp dp n b else h.1 c b, h.2)
def cyI {γ : Type} (h : PH) (a0 n0 a n1 : Nat) (sp dp n : Int32) (g : PH → Option γ) : Option γ := if 0 ≤ sp.toInt ∧ 0 ≤ dp.toInt ∧ 0 ≤ n.toInt ∧ sp.toInt + n.toInt ≤ (n0 : Int) ∧ dp.toInt + n.toInt ≤ (n1 : Int) then g (cpI h a0 a sp.toNatClampNeg dp.toNatClampNeg n.toNatClampNeg) else none
theorem so_mmax (X : Cx p s m args c own cc nL D cA ad A) {ix : Nat} (w1 : Cond.methodLink own ix Lib.Math.max.name ∈ WSG) (w2 : Cond.static Lib.Math.max.name ∈ WSG) (w3 : Cond.initialized "java/lang/Math" ∈ WSG) (w4 : Cond.code Lib.Math.max.name Lib.Math.max.code 2 (some .int) ∈ WSG) (hf : 1 ≤ R.frames) (hlo : (st.map fun v => v.category).sum + 13 ≤ R.locals) (hcs : cells ≤ R.cells ∧ slots ≤ R.slots) {x y : Int32} (d : decode cc pc = .ok (.invokestatic ix, 3)) (k : SWo QQ p l e R s m args below meth c cells slots nL D cA ad A (pc + 3) (L) (.int (if x < y then y else x) :: st) (h) (o)) : SWo QQ p l e R s m args below meth c cells slots nL D cA ad A (pc) (L) (.int y :: .int x :: st) (h) (o) :=
  fun r h' e1 H locs ls hP hS hl => va_mmax X.1 X.2.1 (X.2.2.1.trans hl.1.symm) X.2.2.2.1 (X.2.2.2.2.1 _ w1) (X.2.2.2.2.1 _ w2) (X.2.2.2.2.1 _ w3) (X.2.2.2.2.1 _ w4) hf (by rw [cat_tv]; exact hlo) hcs.1 hcs.2 d (k r h' e1 H locs ls hP hS hl)
theorem so_mmin (X : Cx p s m args c own cc nL D cA ad A) {ix : Nat} (w1 : Cond.methodLink own ix Lib.Math.min.name ∈ WSG) (w2 : Cond.static Lib.Math.min.name ∈ WSG) (w3 : Cond.initialized "java/lang/Math" ∈ WSG) (w4 : Cond.code Lib.Math.min.name Lib.Math.min.code 2 (some .int) ∈ WSG) (hf : 1 ≤ R.frames) (hlo : (st.map fun v => v.category).sum + 13 ≤ R.locals) (hcs : cells ≤ R.cells ∧ slots ≤ R.slots) {x y : Int32} (d : decode cc pc = .ok (.invokestatic ix, 3)) (k : SWo QQ p l e R s m args below meth c cells slots nL D cA ad A (pc + 3) (L) (.int (if y < x then y else x) :: st) (h) (o)) : SWo QQ p l e R s m args below meth c cells slots nL D cA ad A (pc) (L) (.int y :: .int x :: st) (h) (o) :=
  fun r h' e1 H locs ls hP hS hl => va_mmin X.1 X.2.1 (X.2.2.1.trans hl.1.symm) X.2.2.2.1 (X.2.2.2.2.1 _ w1) (X.2.2.2.2.1 _ w2) (X.2.2.2.2.1 _ w3) (X.2.2.2.2.1 _ w4) hf (by rw [cat_tv]; exact hlo) hcs.1 hcs.2 d (k r h' e1 H locs ls hP hS hl)
theorem so_mmaxl (X : Cx p s m args c own cc nL D cA ad A) {ix : Nat} (w1 : Cond.methodLink own ix Lib.MathLoose.max_long.x ∈ WSG) (w2 : Cond.static Lib.MathLoose.max_long.x ∈ WSG) (w3 : Cond.initialized "java/lang/Math" ∈ WSG) (w4 : Cond.code Lib.MathLoose.max_long.x Lib.MathLoose.max_long.code 4 (some .long) ∈ WSG) (hf : 1 ≤ R.frames) (hlo : (st.map fun v => v.category).sum + 15 ≤ R.locals) (hcs : cells ≤ R.cells ∧ slots ≤ R.slots) {x y : Int64} (d : decode cc pc = .ok (.invokestatic ix, 3)) (k : SWo QQ p l e R s m args below meth c cells slots nL D cA ad A (pc + 3) (L) (.long (if y < x then x else y) :: st) (h) (o)) : SWo QQ p l e R s m args below meth c cells slots nL D cA ad A (pc) (L) (.long y :: .long x :: st) (h) (o) :=
  fun r h' e1 H locs ls hP hS hl => va_mmax_long X.1 X.2.1 (X.2.2.1.trans hl.1.symm) X.2.2.2.1 (X.2.2.2.2.1 _ w1) (X.2.2.2.2.1 _ w2) (X.2.2.2.2.1 _ w3) (X.2.2.2.2.1 _ w4) hf (by rw [cat_tv]; exact hlo) hcs.1 hcs.2 d (k r h' e1 H locs ls hP hS hl)
theorem so_mminl (X : Cx p s m args c own cc nL D cA ad A) {ix : Nat} (w1 : Cond.methodLink own ix Lib.MathLoose.min_long.x ∈ WSG) (w2 : Cond.static Lib.MathLoose.min_long.x ∈ WSG) (w3 : Cond.initialized "java/lang/Math" ∈ WSG) (w4 : Cond.code Lib.MathLoose.min_long.x Lib.MathLoose.min_long.code 4 (some .long) ∈ WSG) (hf : 1 ≤ R.frames) (hlo : (st.map fun v => v.category).sum + 15 ≤ R.locals) (hcs : cells ≤ R.cells ∧ slots ≤ R.slots) {x y : Int64} (d : decode cc pc = .ok (.invokestatic ix, 3)) (k : SWo QQ p l e R s m args below meth c cells slots nL D cA ad A (pc + 3) (L) (.long (if y < x then y else x) :: st) (h) (o)) : SWo QQ p l e R s m args below meth c cells slots nL D cA ad A (pc) (L) (.long y :: .long x :: st) (h) (o) :=
  fun r h' e1 H locs ls hP hS hl => va_mmin_long X.1 X.2.1 (X.2.2.1.trans hl.1.symm) X.2.2.2.1 (X.2.2.2.2.1 _ w1) (X.2.2.2.2.1 _ w2) (X.2.2.2.2.1 _ w3) (X.2.2.2.2.1 _ w4) hf (by rw [cat_tv]; exact hlo) hcs.1 hcs.2 d (k r h' e1 H locs ls hP hS hl)
theorem so_gk {a c0 : Nat} (k : (kd a).1 = c0 → SWo QQ p l e R s m args below meth c cells slots nL D cA ad A (pc) (L) (st) (h) (o)) : SWo QQ p l e R s m args below meth c cells slots nL D cA ad A (pc) (L) (st) (h) (gk a c0 o) := by
  intro r h' e1
  unfold gk at e1
  by_cases hx : (kd a).1 = c0
  · rw [if_pos hx] at e1; exact k hx r h' e1
  · rw [if_neg hx] at e1; cases e1
theorem so_tret (X : Cx p s m args c own cc nL D cA ad A) {x : Nat} {C : String} (hr : meth.sig.returnType = some (.object C)) (hlk : meth.locks = false) (d : decode cc pc = .ok (.areturn, 1)) : SWo (QM (mkT x) below args s D cA ad A) p l e R s m args below meth c 0 0 nL D cA ad A (pc) (L) ([.ref x]) (h) (some ((), h)) := by
  intro r h' e1 H locs ls hP hS hl
  cases e1
  exact W.aret (v := .ref (ad x)) X.1 X.2.1 hr (Or.inl ⟨C, rfl⟩) (Or.inr ⟨_, rfl⟩) (fun t ht hW => ⟨rfl, by rw [ht]; exact hP, hS.F ht⟩) hS.2.2 d hlk
theorem so_copyI (X : Cx p s m args c own cc nL D cA ad A) {ix a0 a n0 n1 : Nat} {sp dp n : Int32} {g : PH → Option (α × PH)} (hk0 : kd a0 = (13, n0)) (hk : kd a = (13, n1)) (w1 : Cond.methodLink own ix arraycopyName ∈ WSG) (w2 : Cond.native arraycopyName ∈ WSG) (w3 : Cond.static arraycopyName ∈ WSG) (w4 : Cond.initialized "java/lang/System" ∈ WSG) (hf : 1 ≤ R.frames) (hlo : (st.map fun v => v.category).sum + (nativeFrameWords "java/lang/System" "arraycopy" 5 + 11) ≤ R.locals) (d : decode cc pc = .ok (.invokestatic ix, 3)) (k : ∀ h1, SWo QQ p l e R s m args below meth c cells slots nL D cA ad A (pc + 3) (L) (st) (h1) (g h1)) : SWo QQ p l e R s m args below meth c cells slots nL D cA ad A (pc) (L) (.int n :: .int dp :: .ref a :: .int sp :: .ref a0 :: st) (h) (cyI h a0 n0 a n1 sp dp n g) := by
  intro r h' e1 H locs ls hP hS hl
  unfold cyI at e1
  by_cases hx : 0 ≤ sp.toInt ∧ 0 ≤ dp.toInt ∧ 0 ≤ n.toInt ∧ sp.toInt + n.toInt ≤ (n0 : Int) ∧ dp.toInt + n.toInt ≤ (n1 : Int)
  · rw [if_pos hx] at e1
    obtain ⟨p1, p2, p3, p4, p5⟩ := hx
    have ng : ∀ z : Int32, 0 ≤ z.toInt → ¬ z < 0 := fun z hz hq => by
      have := Int32.lt_iff_toInt_lt.mp hq
      simp at this
      omega
    have cl : ∀ z : Int32, 0 ≤ z.toInt → ((z.toNatClampNeg : Nat) : Int) = z.toInt := fun z hz => by
      simp only [Int32.toNatClampNeg]
      omega
    have c1 := cl sp p1
    have c2 := cl dp p2
    have c3 := cl n p3
    refine va_copyi X.1 X.2.1 (X.2.2.1.trans hl.1.symm) X.2.2.2.1 (X.2.2.2.2.1 _ w1) (X.2.2.2.2.1 _ w2) (X.2.2.2.2.1 _ w3) (X.2.2.2.2.1 _ w4) X.2.2.2.2.2.1 hP (wd_D X.2.2.2.2.2.2.1 X.2.2.2.2.2.2.2.1) hS a0 a 0 0 (f := h.1 a0) (g := h.1 a) (by rw [wd_get (kc_lt2 hk0 (by decide)), en_ints hk0 (by decide) (by decide)]) (by rw [wd_get (kc_lt2 hk (by decide)), en_ints hk (by decide) (by decide)]) rfl rfl rfl (ng sp p1) (ng dp p2) (ng n p3) (by omega) (by omega) (fun _ _ => rfl) hf (by rw [cat_tv]; exact hlo) d (fun H1 locs1 hP1 _ hS1 => ?_)
    rw [wd_set (cA := cA) (ad := ad) (h := h) (i := a) (e := .inl (cA 13, n1, .inl (va_cpy (h.1 a0) (h.1 a) sp.toNatClampNeg dp.toNatClampNeg n.toNatClampNeg))) (h' := cpI h a0 a sp.toNatClampNeg dp.toNatClampNeg n.toNatClampNeg) (by rw [en_ints hk (by decide) (by decide)]; simp [cpI]) (fun b hb => en_other (fun j => by simp [cpI, hb]) (fun _ => rfl))] at hP1
    exact k _ r h' e1 H1 locs1 ls hP1 hS1 hl
  · rw [if_neg hx] at e1; cases e1
theorem so_none : SWo QQ p l e R s m args below meth c cells slots nL D cA ad A (pc) (L) (st) (h) (none) := fun _ _ e1 => by cases e1
theorem so_ldcS (X : Cx p s m args c own cc nL D cA ad A) {ix n : Nat} {tx : String} (hq : (own, ix, tx, n) ∈ skL) (d : decode cc pc = .ok (.ldc ix, 2)) (k : SWo QQ p l e R s m args below meth c cells slots nL D cA ad A (pc + 2) (L) (.ref (200 + n) :: st) (h) (o)) : SWo QQ p l e R s m args below meth c cells slots nL D cA ad A (pc) (L) (st) (h) (o) :=
  fun r h' e1 H locs ls hP hS hl => va_ldcS X.1 X.2.1 X.2.2.2.1 (X.2.2.2.2.2.2.2.2.2.2.1 _ hq) d (k r h' e1 H locs ls hP hS hl)
theorem so_strC (X : Cx p s m args c own cc nL D cA ad A) {ix i : Nat} (hi : i < NS) (hlink : Cond.fieldLink own ix "java/lang/String" "coder" "B" ∈ WSG) (d : decode cc pc = .ok (.getfield ix, 3)) (k : SWo QQ p l e R s m args below meth c cells slots nL D cA ad A (pc + 3) (L) (.int 0 :: st) (h) (o)) : SWo QQ p l e R s m args below meth c cells slots nL D cA ad A (pc) (L) (.ref (200 + i) :: st) (h) (o) :=
  fun r h' e1 H locs ls hP hS hl => vk_getf X.1 X.2.1 (X.2.2.2.2.2.2.2.2.2.1 i hi).2.1 hS X.2.2.2.1 (X.2.2.2.2.1 _ hlink) (fun _ q => q) d (k r h' e1 H locs ls hP hS hl)
theorem so_strV (X : Cx p s m args c own cc nL D cA ad A) {ix i : Nat} (hi : i < NS) (hlink : Cond.fieldLink own ix "java/lang/String" "value" "[B" ∈ WSG) (d : decode cc pc = .ok (.getfield ix, 3)) (k : SWo QQ p l e R s m args below meth c cells slots nL D cA ad A (pc + 3) (L) (.ref (300 + i) :: st) (h) (o)) : SWo QQ p l e R s m args below meth c cells slots nL D cA ad A (pc) (L) (.ref (200 + i) :: st) (h) (o) :=
  fun r h' e1 H locs ls hP hS hl => vk_getf X.1 X.2.1 (X.2.2.2.2.2.2.2.2.2.1 i hi).2.2.1 hS X.2.2.2.1 (X.2.2.2.2.1 _ hlink) (fun _ q => q) d (k r h' e1 H locs ls hP hS hl)
theorem so_strL (X : Cx p s m args c own cc nL D cA ad A) {i : Nat} (hi : i < NS) (d : decode cc pc = .ok (.arraylength, 1)) (k : SWo QQ p l e R s m args below meth c cells slots nL D cA ad A (pc + 1) (L) (.int (Int32.ofNat (slen i)) :: st) (h) (o)) : SWo QQ p l e R s m args below meth c cells slots nL D cA ad A (pc) (L) (.ref (300 + i) :: st) (h) (o) :=
  fun r h' e1 H locs ls hP hS hl => va_tlen X.1 X.2.1 (X.2.2.2.2.2.2.2.2.2.1 i hi).2.2.2 hS rfl d (k r h' e1 H locs ls hP hS hl)
def ldS {γ : Type} (q : Nat) (i : Int32) (g : Int32 → Option γ) : Option γ := if 0 ≤ i.toInt ∧ i.toInt < (slen q : Int) then g ((sb q).getD i.toNatClampNeg 0) else none
def ldT {γ : Type} (i : Int32) (g : Int32 → Option γ) : Option γ := if 0 ≤ i.toInt ∧ i.toInt < ((11 : Nat) : Int) then g (tgL.getD i.toNatClampNeg 0) else none
def cr (v : Int32) (h : PH) : Option (Int32 × PH) := if v.toUInt32.toUInt16.toUInt32.toInt32 = v then some (v, h) else none
def br_ (v : Int32) (h : PH) : Option (Int32 × PH) := if v.toInt8.toInt32 = v then some (v, h) else none
theorem so_strB (X : Cx p s m args c own cc nL D cA ad A) {q : Nat} {i : Int32} {g : Int32 → Option (α × PH)} (hq : q < NS) (d : decode cc pc = .ok (.baload, 1)) (k : ∀ v, SWo QQ p l e R s m args below meth c cells slots nL D cA ad A (pc + 1) (L) (.int v :: st) (h) (g v)) : SWo QQ p l e R s m args below meth c cells slots nL D cA ad A (pc) (L) (.int i :: .ref (300 + q) :: st) (h) (ldS q i g) := by
  intro r h' e1 H locs ls hP hS hl
  by_cases hx : 0 ≤ i.toInt ∧ i.toInt < (slen q : Int)
  · unfold ldS at e1; rw [if_pos hx] at e1
    exact va_tb X.1 X.2.1 (X.2.2.2.2.2.2.2.2.2.1 q hq).2.2.2 hS (ix_in hx) rfl d (k _ r h' e1 H locs ls hP hS hl)
  · unfold ldS at e1; rw [if_neg hx] at e1; cases e1
theorem so_tgI (X : Cx p s m args c own cc nL D cA ad A) {i : Int32} {g : Int32 → Option (α × PH)} (d : decode cc pc = .ok (.iaload, 1)) (k : ∀ v, SWo QQ p l e R s m args below meth c cells slots nL D cA ad A (pc + 1) (L) (.int v :: st) (h) (g v)) : SWo QQ p l e R s m args below meth c cells slots nL D cA ad A (pc) (L) (.int i :: .ref 199 :: st) (h) (ldT i g) := by
  intro r h' e1 H locs ls hP hS hl
  by_cases hx : 0 ≤ i.toInt ∧ i.toInt < ((11 : Nat) : Int)
  · unfold ldT at e1; rw [if_pos hx] at e1
    exact va_ti X.1 X.2.1 X.2.2.2.2.2.2.2.2.2.2.2.2.1 hS (ix_in hx) rfl d (k _ r h' e1 H locs ls hP hS hl)
  · unfold ldT at e1; rw [if_neg hx] at e1; cases e1
theorem so_tgS (X : Cx p s m args c own cc nL D cA ad A) {ix : Nat} (hlink : Cond.fieldLink own ix "RainWishes$Parser" "TIGHT" "[I" ∈ WSG) (d : decode cc pc = .ok (.getstatic ix, 3)) (k : SWo QQ p l e R s m args below meth c cells slots nL D cA ad A (pc + 3) (L) (.ref 199 :: st) (h) (o)) : SWo QQ p l e R s m args below meth c cells slots nL D cA ad A (pc) (L) (st) (h) (o) :=
  fun r h' e1 H locs ls hP hS hl => va_gets X.1 X.2.1 X.2.2.2.2.2.2.2.2.2.2.2.1 hS X.2.2.2.1 (X.2.2.2.2.1 _ hlink) (fun _ q => q) d (k r h' e1 H locs ls hP hS hl)
theorem so_cmS (X : Cx p s m args c own cc nL D cA ad A) {ix : Nat} (hlink : Cond.fieldLink own ix "java/lang/String" "COMPACT_STRINGS" "Z" ∈ WSG) (d : decode cc pc = .ok (.getstatic ix, 3)) (k : SWo QQ p l e R s m args below meth c cells slots nL D cA ad A (pc + 3) (L) (.int 1 :: st) (h) (o)) : SWo QQ p l e R s m args below meth c cells slots nL D cA ad A (pc) (L) (st) (h) (o) :=
  fun r h' e1 H locs ls hP hS hl => va_gets X.1 X.2.1 X.2.2.2.2.2.2.2.2.2.2.2.2.2.1 hS X.2.2.2.1 (X.2.2.2.2.1 _ hlink) (fun _ q => q) d (k r h' e1 H locs ls hP hS hl)
theorem so_sfS (X : Cx p s m args c own cc nL D cA ad A) {ix : Nat} (hlink : Cond.fieldLink own ix "jdk/internal/util/Preconditions" "SIOOBE_FORMATTER" sfD ∈ WSG) (d : decode cc pc = .ok (.getstatic ix, 3)) (k : ∀ v : Value, v.category = 1 → SWo QQ p l e R s m args below meth c cells slots nL D cA ad A (pc + 3) (L) (v :: st) (h) (o)) : SWo QQ p l e R s m args below meth c cells slots nL D cA ad A (pc) (L) (st) (h) (o) := by
  intro r h' e1 H locs ls hP hS hl
  rcases X.2.2.2.2.2.2.2.2.2.2.2.2.2.2.1 with z | z
  · exact va_gets X.1 X.2.1 z hS X.2.2.2.1 (X.2.2.2.2.1 _ hlink) (fun _ q => q) d (k .null rfl r h' e1 H locs ls hP hS hl)
  · exact va_gets X.1 X.2.1 z hS X.2.2.2.1 (X.2.2.2.2.1 _ hlink) (fun _ q => q) d (k (.ref 198) rfl r h' e1 H locs ls hP hS hl)
theorem so_cret (X : Cx p s m args c own cc nL D cA ad A) {x : Int32} (hr : meth.sig.returnType = some .char) (hlk : meth.locks = false) (d : decode cc pc = .ok (.ireturn, 1)) : SWo (QM mkI below args s D cA ad A) p l e R s m args below meth c 0 0 nL D cA ad A (pc) (L) ([.int x]) (h) (cr x h) := by
  intro r h' e1 H locs ls hP hS hl
  unfold cr at e1
  by_cases hx : x.toUInt32.toUInt16.toUInt32.toInt32 = x
  · rw [if_pos hx] at e1
    cases e1
    exact W.zret (v := x) X.1 X.2.1 hr (by show Value.int (x.toUInt32.toUInt16.toUInt32.toInt32) = _; rw [hx]) (fun t ht hW => ⟨rfl, by rw [ht]; exact hP, hS.F ht⟩) hS.2.2 d hlk
  · rw [if_neg hx] at e1
    cases e1
theorem so_bret (X : Cx p s m args c own cc nL D cA ad A) {x : Int32} (hr : meth.sig.returnType = some .byte) (hlk : meth.locks = false) (d : decode cc pc = .ok (.ireturn, 1)) : SWo (QM mkI below args s D cA ad A) p l e R s m args below meth c 0 0 nL D cA ad A (pc) (L) ([.int x]) (h) (br_ x h) := by
  intro r h' e1 H locs ls hP hS hl
  unfold br_ at e1
  by_cases hx : x.toInt8.toInt32 = x
  · rw [if_pos hx] at e1
    cases e1
    exact W.zret (v := x) X.1 X.2.1 hr (by show Value.int (x.toInt8.toInt32) = _; rw [hx]) (fun t ht hW => ⟨rfl, by rw [ht]; exact hP, hS.F ht⟩) hS.2.2 d hlk
  · rw [if_neg hx] at e1
    cases e1
end SC

def R_law : String := "RainWishesLaw"
def lw_P (b : Addr) (xs : List Int32) (args : Array Value) (s : State) : Prop := args = #[.ref b] ∧ s.IntsAt b xs ∧ xs.length ≤ 3072 ∧ (Jvm.Cond.and given_1 narrow_1).before args s = true
def lw_Q (_ : Array Value) (s : State) (o : Outcome) (t : State) : Prop := o = .returned (some (.int 1)) ∧ Framed s o t [] 601024 7293034
def lw_Z (below : List Frame) (a : Array Value) (s : State) : State → Prop := fun t => ∃ o, t.status = .running ∧ Ended t below o ∧ lw_Q a s o t
/-- the law's own end, with 1 on the stack, nothing written that was there before, its room as the claim has it -/
theorem lw_ret {p : Program} {l : Launch} {e : Env} {s : State} {m : MethodId} {below : List Frame} {meth : Method} {c : Code} {b : Nat} (hx : p.tables.exec = Jvm.exec) (hb : c.code = code) (hr : meth.sig.returnType = ret) (hlocks : meth.locks = false) {pc : Nat} {H : Heap} {ls : Array Slot} (hdg : decode code pc = .ok (.ireturn, 1)) : W p l e room_1 s m #[Value.ref b] below meth c H [] 601024 7293034 (lw_Z below #[Value.ref b] s) (F0 m pc ls [.int 1]) := by
  intro T hT X
  obtain ⟨fs, hret, hrun, hended, hW, hframe⟩ := X.leave (v := some (.int 1)) (hlocks := hlocks) (fun h => by rw [hr] at h; cases h)
  have hmeth' : T.vm.method? m = some meth := X.method'
  refine ⟨T.setFrames fs, ?_, .returned (some (.int 1)), hrun, hended, rfl, ⟨_, rfl⟩, hW, hframe⟩
  jvm_step X.here [X.here.top, hx, hb, hdg, hmeth', hr, ret, narrow_b1]
  (try refine ⟨rfl, ?_⟩); (try refine ⟨rfl, ?_⟩)
  first | (intro acts; rw [hret _ acts rfl rfl rfl]) | rw [hret _ _ rfl rfl rfl]
  exact Steps.refl _
/-- what holds at the law's entry: the machine, the code, the tables' words (any of lw_tbl by 'hts w (by decide +kernel)'), the script of L ints xs at the cell b, what the Statement gives of the start (any of its parts by flat_of_before) -/
def lw_At (p : Program) (s : State) (m : MethodId) (meth : Method) (c : Code) (b L : Nat) (xs : Nat → Int32) : Prop :=
  p.tables.exec = Jvm.exec ∧ c.code = code ∧ meth.sig.returnType = ret ∧ c.maxLocals = 8 ∧ s.vm.findClass R_law = some m.cls ∧ (∀ w ∈ lw_tbl, w.before #[Value.ref b] s = true) ∧ va_X b L xs s s.heap ∧ b < s.heap.size ∧ meth.locks = false ∧ (Jvm.Cond.and given_1 narrow_1).before #[Value.ref b] s = true
theorem met_ofWH {l : Launch} {y : MethodName} {ws ws' : List Cond} {rm : Room} {Pc : Array Value → State → Prop} {Qc : Array Value → State → Outcome → State → Prop} {mc ms : Nat} {free : Addr → Prop} {cc : ByteArray} {maxL : Nat} {ret : Option FieldType} {hh : List (Nat × Nat × Nat × Nat)}
    (hy : plainName y.cls = true) (hw : ws = Cond.codeWith y cc maxL ret hh :: ws')
    (body : ∀ p e s m args below meth c s₁, BodyLoose p l y (headSpec ws rm) cc maxL ret e s m args below meth c s₁ → c.maxLocals = maxL → Pc args s →
      W p l e (headSpec ws rm).room s m args below meth c s.heap [] 0 0 (MQ below Qc args s mc ms free) (entryFrame m args maxL)) : Met l y ws rm Pc Qc mc ms free := by
  refine MetFree.of_bodyS (code := cc) (maxLocals := maxL) (ret := ret) hy ?_ ?_
  · intro args s m h hn
    obtain ⟨m9, meth, c, hn9, h1, h2, h3, h4, -, h5, h6, -⟩ := Cond.codeWith_spec (atoms_spec (ws := ws) h _ (by rw [hw]; exact List.mem_cons_self))
    cases hn.symm.trans hn9
    exact ⟨meth, c, h1, h2, h3, h4, h5, h6⟩
  · intro p e s m args below meth c s₁ B hml hP _
    have hh0 : s₁.heap = s.heap := by rw [B.state]; rfl
    obtain ⟨t, a1, o, b1, b2, b3⟩ := body p e s m args below meth c s₁ B hml hP s₁ hh0 (Stand.of_body B)
    exact ⟨t, o, a1, b1, b2, b3⟩
/-- as CT, of one of the law's own methods, which catches; the world has the row out -/
def CTw (l : Launch) (y : MethodName) (bytes : ByteArray) (maxL : Nat) (ret : Option FieldType) (hh : List (Nat × Nat × Nat × Nat)) (rm : Room) (mc ms : Nat) (As : List Value) (h : PH) (o : Option (Int32 × PH)) : Prop :=
  ∀ (D : va_G) (cA : Nat → ClassId) (ad : Nat → Nat) (sz : Nat), nc cA = NC + 1 → (∀ i j, i < nc cA → j < nc cA → ad i = ad j → i = j) → ∀ (r : Int32) (h' : PH), o = some (r, h') → Met l y (.codeWith y bytes maxL ret hh :: WSG) rm (Pre D cA ad As h sz) (Pst mkI D cA ad (Aa cA ad sz) r h') mc ms (Aa cA ad sz)
def QW (below : List Frame) (args : Array Value) (s : State) (D : va_G) (cA : Nat → ClassId) (ad : Nat → Nat) (A : Nat → Prop) (mc ms : Nat) : Int32 → PH → State → Prop := fun r h' => MQ below (Pst mkI D cA ad A r h') args s mc ms A
theorem ctw_of {l : Launch} {y : MethodName} {bytes : ByteArray} {maxL : Nat} {ret : Option FieldType} {hh : List (Nat × Nat × Nat × Nat)} {rm : Room} {mc ms : Nat} {As : List Value} {h : PH} {o : Option (Int32 × PH)} (hy : plainName y.cls = true) (hlen : (lg_sl As).length ≤ maxL)
    (body : ∀ (p : Program) (e : Env) (s : State) (m : MethodId) (args : Array Value) (below : List Frame) (meth : Method) (c : Code) (D : va_G) (cA : Nat → ClassId) (ad : Nat → Nat) (A : Nat → Prop), Cx p s m args c y.cls bytes maxL D cA ad A → nc cA = NC + 1 → meth.sig.returnType = ret → meth.locks = false → c.exceptionTable.toList = tableOf hh → SWo (QW below args s D cA ad A mc ms) p l e rm s m args below meth c 0 0 maxL D cA ad A 0 (lv_args 0 As) [] h o) : CTw l y bytes maxL ret hh rm mc ms As h o := by
  intro D cA ad sz hnc hinj r h' ho
  refine met_ofWH (cc := bytes) (maxL := maxL) (ret := ret) (hh := hh) hy rfl ?_
  intro p e s m args below meth c s₁ B hml hv
  obtain ⟨rfl, hsz, hP, hK, hRO⟩ := hv
  subst hsz
  have hts := atoms_spec (ws := .codeWith y bytes maxL ret hh :: WSG) B.pre
  have htab : c.exceptionTable.toList = tableOf hh := vx_table (x := y) B (hts _ List.mem_cons_self)
  have hown : s.vm.findClass y.cls = some m.cls := findClass_of_methodNamed B.named
  have hl := lv_entry (As.map (tv ad)) (n := maxL) (by rw [lg_sl_tv]; exact hlen)
  rw [lg_entry_eq]
  rw [lv_args_tq] at hl
  exact body p e s m _ below meth c D cA ad (Aa cA ad s.heap.size) ⟨B.exec, B.bytes, hml, hown, fun w hw => hts w (List.mem_cons_of_mem _ hw), hK, hinj, fun i hi => Or.inl ⟨i, hi, rfl⟩, fun q hq => Or.inr hq, hRO⟩ hnc B.returns B.notSynchronized htab r h' ho s.heap [] _ hP va_S.rf hl
def hvl (hs : List (Nat × Int32)) (k : Nat) (h : PH) : Option (Int32 × PH) := match hs.find? (fun q => q.1 == k) with
  | some q => some (q.2, h)
  | none => none
def cbc {β : Type} (f : Option ((β ⊕ Nat) × PH)) (g : β → PH → Option (Int32 × PH)) (hs : List (Nat × Int32)) : Option (Int32 × PH) := match f with
  | none => none
  | some (.inl r, h1) => g r h1
  | some (.inr k, h1) => hvl hs k h1
/-- the handler of exn q.1 at a call at pc answers q.2 -/
def CatchOk (own : String) (cc : ByteArray) (hh : List (Nat × Nat × Nat × Nat)) (nL pc : Nat) (q : Nat × Int32) : Prop :=
  ∃ (pre : List ExceptionTableEntry) (x : ExceptionTableEntry) (suf : List ExceptionTableEntry), tableOf hh = pre ++ x :: suf ∧ (∀ z ∈ pre, z.catchType ≠ 0 ∧ ∃ nm : String, Cond.classLink own z.catchType nm ∈ WSG ∧ (exn q.1, nm) ∈ ncL) ∧ covers x pc = true ∧ x.catchType ≠ 0 ∧ Cond.classLink own x.catchType (exn q.1) ∈ WSG ∧ exn q.1 ∈ exC ∧
    ∃ (i a1 : Nat) (n : Int), ((∃ k4 : Fin 4, decode cc x.handlerPc = .ok (.astore_n k4, 1) ∧ (k4 : Nat) = i ∧ a1 = x.handlerPc + 1) ∨ (decode cc x.handlerPc = .ok (.astore i, 2) ∧ a1 = x.handlerPc + 2)) ∧ i < nL ∧ decode cc a1 = .ok (.iconst n, 1) ∧ Int32.ofInt n = q.2 ∧ decode cc (a1 + 1) = .ok (.ireturn, 1)
section SL
variable {p : Program} {l : Launch} {e : Env} {R : Room} {s : State} {m : MethodId} {args : Array Value} {below : List Frame} {meth : Method} {c : Code} {cells slots nL : Nat} {D : va_G} {cA : Nat → ClassId} {ad : Nat → Nat} {A : Nat → Prop} {own : String} {cc : ByteArray} {pc tgt : Nat} {L L' : List (Nat × Value)} {st : List Value} {h : PH} {α : Type} {QQ : α → PH → State → Prop} {o o1 o2 : Option (α × PH)} {mc ms : Nat}
theorem so_iretW (X : Cx p s m args c own cc nL D cA ad A) {x : Int32} (hr : meth.sig.returnType = some .int) (hlk : meth.locks = false) (hcm : cells ≤ mc) (hsm : slots ≤ ms) (d : decode cc pc = .ok (.ireturn, 1)) : SWo (QW below args s D cA ad A mc ms) p l e R s m args below meth c cells slots nL D cA ad A pc L [.int x] h (some (x, h)) := by
  intro r h' e1 H locs ls hP hS hl
  cases e1
  exact W.widen hcm hsm (W.iret (v := x) X.1 X.2.1 hr (fun t ht hW => ⟨rfl, by rw [ht]; exact hP, hS.F ht⟩) hS.2.2 d hlk)
theorem so_callC {β : Type} {mk : β → Option Value} {g : β → PH → Option (Int32 × PH)} (X : Cx p s m args c own cc nL D cA ad A) {y : MethodName} {bytes : ByteArray} {maxL ix mc1 ms1 : Nat} {ret : Option FieldType} {rm : Room} {As : List Value} {f : Option ((β ⊕ Nat) × PH)} {ci b N n : Nat} {C : String} {T : u_T} {hh : List (Nat × Nat × Nat × Nat)} {hs : List (Nat × Int32)} (hr : meth.sig.returnType = some .int) (hlk : meth.locks = false) (htab : c.exceptionTable.toList = tableOf hh) (hcat : ∀ q ∈ hs, CatchOk own cc hh nL pc q) (hM : CTx mk l y bytes maxL ret rm mc1 ms1 (.ref b :: As) h f) (hk : (kd b).1 = ci) (hci : ci < 13) (hcl : vwCl[ci]? = some (C, T, N)) (hw1 : Cond.methodLink own ix y ∈ WSG) (hw2 : Cond.instanceMethod y ∈ WSG) (hw3 : Cond.selects C y y ∈ WSG) (hw4 : Cond.initialized C ∈ WSG) (hw5 : Cond.code y bytes maxL ret ∈ WSG)
    (hd : y.cls = C ∧ y.cls ≠ "java/lang/invoke/MethodHandle" ∧ y.cls ≠ "java/lang/invoke/VarHandle" ∧ (parseMethodDescriptor y.desc).map (fun d => d.parameters.length) = some n) (hn : As.length = n) (hrc : rm.cells = mc1) (hrs : rm.slots = ms1) (hR : rm.frames + 1 ≤ R.frames ∧ 8 + (maxL + 11) + rm.locals ≤ R.locals) (hcs : cells + mc1 ≤ R.cells ∧ slots + ms1 ≤ R.slots) (hmm : cells + mc1 ≤ mc ∧ slots + ms1 ≤ ms) (hst : (st.map fun v => v.category).sum ≤ 8) (d : decode cc pc = .ok (.invokevirtual ix, 3)) (k : ∀ r h1, SWo (QW below args s D cA ad A mc ms) p l e R s m args below meth c (cells + mc1) (slots + ms1) nL D cA ad A (pc + 3) L ((mk r).toList ++ st) h1 (g r h1)) {st0 : List Value} (hs0 : st0 = As.reverse ++ .ref b :: st) : SWo (QW below args s D cA ad A mc ms) p l e R s m args below meth c cells slots nL D cA ad A pc L st0 h (cbc f g hs) := by
  subst hs0
  intro r h' e1 H locs ls hP hS hl
  cases hf : f with
  | none => rw [hf] at e1; cases e1
  | some q =>
  rw [hf] at e1
  have M := hM D cA ad H.size X.2.2.2.2.2.2.1 q.1 q.2 hf
  have hA1 : ∀ q, Aa cA ad H.size q → A q := fun q hq => hq.elim (fun ⟨i, hi, he⟩ => he ▸ X.2.2.2.2.2.2.2.1 i hi) (fun hq => X.2.2.2.2.2.2.2.2.1 q (Nat.le_trans hS.1 hq))
  have hG : GoodIn WSG (wsV own ix C y (.code y bytes maxL ret :: WSG)) := by
    intro w hw
    simp only [wsV, List.mem_append, List.mem_cons, List.not_mem_nil, or_false] at hw
    rcases hw with (rfl | rfl | rfl | rfl) | rfl | hw
    · exact wsg_in hw1
    · exact wsg_in hw2
    · exact wsg_in hw3
    · exact wsg_in hw4
    · exact wsg_in hw5
    · exact wsg_in hw
  have run := vx_runV (p := p) (l := l) (e := e) (R := R) (below := below) (meth := meth) (locs := locs) (cells := cells) (slots := slots) (C := C) (b := ad b) (As := As.map (tv ad)) (rest := st.map (tv ad)) (g := F0 m pc ls ((As.reverse ++ .ref b :: st).map (tv ad))) ⟨X.1, X.2.1, X.2.2.1, X.2.2.2.1, X.2.2.2.2.1⟩ M (cwV n X.2.2.2.2.1 hG rfl hrc hrs hd hR) ⟨pre_blind, va_recv X.2.2.2.2.2.1 hP hcl (by rw [wd_get (kc_lt hk (by omega)), en_obj hk hci]), fun U hU hW => ⟨rfl, by rw [hU], by rw [hU]; exact hP, va_K.moved hW.alike X.2.2.2.2.2.1, by rw [hU]; exact RO.step X.2.2.2.2.2.2.2.2.2 hS hA1 hW⟩⟩ rfl (by rw [List.length_map]; exact hn) hl.1 (by show List.map _ _ = _; simp [tv]) (lv_room (by rw [cat_tv]; exact hst)) d ⟨hcs.1, hcs.2⟩
  intro T hT XS
  rcases run T hT XS with ⟨v, st₀, t, T', Lc, h0, X', hLc, e1', e2', ⟨a, ha, hv, hP1, hF⟩, go⟩ | ⟨qa, st₀, t, T', Lc, E, ce, h0, X', hLc, e1', e2', ⟨kx, ha, hE, hP1, hF⟩, hce, hcv, hcl2, go⟩
  · cases hv
    obtain ⟨q1, q2⟩ := q
    subst ha
    obtain ⟨k1, k2, k3⟩ := vx_keep h0 e1' hS (fun q _ hq => hA1 q hq) hA1 hLc hF
    obtain ⟨t2, a1, b1⟩ := k a q2 r h' e1 T'.heap (locs ++ Lc) ls (by rw [e1']; exact hP1) k3 hl T' rfl X'
    refine ⟨t2, go t2 ?_, b1⟩
    rw [← mk_list] at a1
    exact a1
  · obtain ⟨q1, q2⟩ := q
    subst ha
    subst hE
    obtain ⟨k1, k2, k3⟩ := vx_keep h0 e1' hS (fun q _ hq => hA1 q hq) hA1 hLc hF
    have e2 : hvl hs kx q2 = some (r, h') := e1
    unfold hvl at e2
    cases hfd : hs.find? (fun q => q.1 == kx) with
    | none => rw [hfd] at e2; cases e2
    | some qh =>
    rw [hfd] at e2
    cases e2
    have hkx : qh.1 = kx := by simpa using List.find?_some hfd
    subst hkx
    obtain ⟨pre, x, suf, c1, c2, c3, c4, c5, c6, i, a1, nn, c7, c8, c9, c10, c11⟩ := hcat qh (List.mem_of_find?_eq_some hfd)
    have ho := vx_catch (p := p) (l := l) (e := e) (R := R) (m := m) (args := args) (below := below) (meth := meth) (c := c) (ls := ls) (pc := pc) (rest := st.map (tv ad)) (H := T'.heap) (locs := locs ++ Lc) (cells := cells + mc1) (slots := slots + ms1) (Q := QW below args s D cA ad A mc ms qh.2 h') X.2.2.2.1 pre x suf (htab.trans c1) (fun z hz => Or.inr ⟨(c2 z hz).1, (c2 z hz).2.elim fun nm hnm => ⟨nm, X.2.2.2.2.1 _ hnm.1, X.2.2.2.2.2.2.2.2.2.nc _ hnm.2⟩⟩) c3 c4 (X.2.2.2.2.1 _ c5) (va_Nw.use rfl (X.2.2.2.2.2.2.2.2.2.ca _ c6)) (by rw [e1']; exact hce) hcv hcl2 (by
      have fin : ∀ ls', W p l e R s m args below meth c T'.heap (locs ++ Lc) (cells + mc1) (slots + ms1) (QW below args s D cA ad A mc ms qh.2 h') (F0 m a1 ls' []) := fun ls' => by
        refine lv_iconst X.1 X.2.1 c9 c10 ?_
        exact W.widen hmm.1 hmm.2 (W.iret (v := qh.2) X.1 X.2.1 hr (fun t2 ht2 hW => ⟨rfl, by rw [ht2, e1']; exact hP1, k3.F ht2⟩) k3.2.2 c11 hlk)
      rcases c7 with ⟨k4, z1, z2, z3⟩ | ⟨z1, z2⟩
      · subst z3
        exact lv_astore_n X.1 X.2.1 z1 z2 hl c8 rfl (fun ls' _ => fin ls')
      · subst z2
        exact lv_astore X.1 X.2.1 z1 hl c8 rfl (fun ls' _ => fin ls'))
    obtain ⟨t2, a1, b1⟩ := ho T' rfl X'
    exact ⟨t2, go.trans a1, b1⟩
theorem so_outSt (X : Cx p s m args c own cc nL D cA ad A) (hnc : nc cA = NC + 1) {x : Int64} {g : PH → Option (α × PH)} (d : decode cc pc = .ok (.lastore, 1)) (k : ∀ h1, SWo QQ p l e R s m args below meth c cells slots nL D cA ad A (pc + 1) (L) (st) (h1) (g h1)) : SWo QQ p l e R s m args below meth c cells slots nL D cA ad A (pc) (L) (.long x :: .int 0 :: .ref NC :: st) (h) (lt (pL h NC 0 x) g) := by
  intro r h' e1 H locs ls hP hS hl
  have hi : NC < nc cA := by omega
  refine va_last X.1 X.2.1 X.2.2.2.2.2.1 hP (wd_D X.2.2.2.2.2.2.1 X.2.2.2.2.2.2.2.1) hS NC 3 (by rw [wd_get hi, en_out]) rfl (ix_in (by decide)) d (fun H1 locs1 hP1 _ hS1 => ?_)
  rw [wd_set (h' := pL h NC 0 x) (by rw [en_out, show (0 : Int32).toNatClampNeg = 0 from by decide +kernel, upd_pL]) pL_oth] at hP1
  exact k _ r h' e1 H1 locs1 ls hP1 hS1 hl
theorem so_outLd (X : Cx p s m args c own cc nL D cA ad A) (hnc : nc cA = NC + 1) (d : decode cc pc = .ok (.laload, 1)) (k : SWo QQ p l e R s m args below meth c cells slots nL D cA ad A (pc + 1) (L) (.long (h.2 NC 0) :: st) (h) (o)) : SWo QQ p l e R s m args below meth c cells slots nL D cA ad A (pc) (L) (.int 0 :: .ref NC :: st) (h) (o) := by
  intro r h' e1 H locs ls hP hS hl
  have hi : NC < nc cA := by omega
  exact va_lald X.1 X.2.1 X.2.2.2.2.2.1 hP NC 3 (by rw [wd_get hi, en_out]) rfl (ix_in (by decide)) d (k r h' e1 H locs ls hP hS hl)
def ldX {γ : Type} (xs : Nat → Int32) (n : Nat) (i : Int32) (g : Int32 → Option γ) : Option γ := if 0 ≤ i.toInt ∧ i.toInt < (n : Int) then g (xs i.toNatClampNeg) else none
theorem so_sld (X : Cx p s m args c own cc nL D cA ad A) {n : Nat} {xs : Nat → Int32} (hX : va_X (ad 197) n xs s s.heap) (hbl : ad 197 < s.heap.size) (hbA : ¬ A (ad 197)) {i : Int32} {g : Int32 → Option (α × PH)} (d : decode cc pc = .ok (.iaload, 1)) (k : ∀ v, SWo QQ p l e R s m args below meth c cells slots nL D cA ad A (pc + 1) (L) (.int v :: st) (h) (g v)) : SWo QQ p l e R s m args below meth c cells slots nL D cA ad A (pc) (L) (.int i :: .ref 197 :: st) (h) (ldX xs n i g) := by
  intro r h' e1 H locs ls hP hS hl
  by_cases hx : 0 ≤ i.toInt ∧ i.toInt < (n : Int)
  · unfold ldX at e1; rw [if_pos hx] at e1
    exact va_sld X.1 X.2.1 hX hbl hbA hS (ix_in hx) d (k _ r h' e1 H locs ls hP hS hl)
  · unfold ldX at e1; rw [if_neg hx] at e1; cases e1
theorem so_slen (X : Cx p s m args c own cc nL D cA ad A) {n : Nat} {xs : Nat → Int32} (hX : va_X (ad 197) n xs s s.heap) (hbl : ad 197 < s.heap.size) (hbA : ¬ A (ad 197)) (d : decode cc pc = .ok (.arraylength, 1)) (k : SWo QQ p l e R s m args below meth c cells slots nL D cA ad A (pc + 1) (L) (.int (Int32.ofNat n) :: st) (h) (o)) : SWo QQ p l e R s m args below meth c cells slots nL D cA ad A (pc) (L) (.ref 197 :: st) (h) (o) :=
  fun r h' e1 H locs ls hP hS hl => va_slen X.1 X.2.1 hX hbl hbA hS d (k r h' e1 H locs ls hP hS hl)
theorem so_callW (X : Cx p s m args c own cc nL D cA ad A) (hnc : nc cA = NC + 1) {y : MethodName} {bytes : ByteArray} {maxL ix mc1 ms1 n : Nat} {hh : List (Nat × Nat × Nat × Nat)} {rm : Room} {As : List Value} {f : Option (Int32 × PH)} {g : Int32 → PH → Option (α × PH)} (hM : CTw l y bytes maxL (some .int) hh rm mc1 ms1 As h f) (hw1 : Cond.methodLink own ix y ∈ WSG) (hw2 : Cond.static y ∈ WSG) (hw4 : Cond.initialized y.cls ∈ WSG) (hw5 : Cond.codeWith y bytes maxL (some .int) hh ∈ WSG)
    (hd : y.cls ≠ "java/lang/invoke/MethodHandle" ∧ y.cls ≠ "java/lang/invoke/VarHandle" ∧ (parseMethodDescriptor y.desc).map (fun d => d.parameters.length) = some n) (hn : As.length = n) (hrc : rm.cells = mc1) (hrs : rm.slots = ms1) (hR : rm.frames + 1 ≤ R.frames ∧ 8 + (maxL + 11) + rm.locals ≤ R.locals) (hcs : cells + mc1 ≤ R.cells ∧ slots + ms1 ≤ R.slots) (hst : (st.map fun v => v.category).sum ≤ 8) (d : decode cc pc = .ok (.invokestatic ix, 3)) (k : ∀ r h1, SWo QQ p l e R s m args below meth c (cells + mc1) (slots + ms1) nL D cA ad A (pc + 3) L (.int r :: st) h1 (g r h1)) {st0 : List Value} (hs0 : st0 = As.reverse ++ st) : SWo QQ p l e R s m args below meth c cells slots nL D cA ad A (pc) (L) (st0) (h) (cb f g) := by
  subst hs0
  intro r h' e1 H locs ls hP hS hl
  cases hf : f with
  | none => rw [hf] at e1; cases e1
  | some q =>
  rw [hf] at e1
  have M := hM D cA ad H.size hnc X.2.2.2.2.2.2.1 q.1 q.2 hf
  have hA1 : ∀ q, Aa cA ad H.size q → A q := fun q hq => hq.elim (fun ⟨i, hi, he⟩ => he ▸ X.2.2.2.2.2.2.2.1 i hi) (fun hq => X.2.2.2.2.2.2.2.2.1 q (Nat.le_trans hS.1 hq))
  have hG : GoodIn WSG (va_wsS own ix y (.codeWith y bytes maxL (some .int) hh :: WSG)) := by
    intro w hw
    simp only [va_wsS, List.mem_append, List.mem_cons, List.not_mem_nil, or_false] at hw
    rcases hw with (rfl | rfl | rfl) | rfl | hw
    · exact wsg_in hw1
    · exact wsg_in hw2
    · exact wsg_in hw4
    · exact wsg_in hw5
    · exact wsg_in hw
  have run := vx_runSW (p := p) (l := l) (e := e) (R := R) (below := below) (meth := meth) (locs := locs) (cells := cells) (slots := slots) (As := As.map (tv ad)) (rest := st.map (tv ad)) (g := F0 m pc ls ((As.reverse ++ st).map (tv ad))) ⟨X.1, X.2.1, X.2.2.1, X.2.2.2.1, X.2.2.2.2.1⟩ M (vx_cwSW n X.2.2.2.2.1 hG rfl hrc hrs hd hR) ⟨pre_blind, fun U hU hW => ⟨rfl, by rw [hU], by rw [hU]; exact hP, va_K.moved hW.alike X.2.2.2.2.2.1, by rw [hU]; exact RO.step X.2.2.2.2.2.2.2.2.2 hS hA1 hW⟩⟩ rfl (by rw [List.length_map]; exact hn) hl.1 (by show List.map _ _ = _; simp) (lv_room (by rw [cat_tv]; exact hst)) d ⟨hcs.1, hcs.2⟩
  intro T hT XS
  obtain ⟨v, st₀, t, T', Lc, h0, X', hLc, e1', e2', ⟨hv, hP1, hF⟩, go⟩ := run T hT XS
  cases hv
  obtain ⟨k1, k2, k3⟩ := vx_keep h0 e1' hS (fun q _ hq => hA1 q hq) hA1 hLc hF
  obtain ⟨t2, a1, b1⟩ := k q.1 q.2 r h' e1 T'.heap (locs ++ Lc) ls (by rw [e1']; exact hP1) k3 hl T' rfl X'
  exact ⟨t2, go t2 a1, b1⟩
/-- what the law's walk owes: its end, if it answers 1 -/
def QL (below : List Frame) (a : Array Value) (s : State) : Int32 → PH → State → Prop := fun r _ t => r = 1 → lw_Z below a s t
theorem so_lawret (X : Cx p s m args c own code 8 D cA ad A) (hargs : ∃ b0 : Nat, args = #[Value.ref b0]) (hR : R = room_1) (hA : ∀ q, A q → s.heap.size ≤ q) (hr : meth.sig.returnType = ret) (hlk : meth.locks = false) {x : Int32} (hcm : cells ≤ 601024) (hsm : slots ≤ 7293034) (d : decode code pc = .ok (.ireturn, 1)) : SWo (QL below args s) p l e R s m args below meth c cells slots 8 D cA ad A pc L [.int x] h (some (x, h)) := by
  obtain ⟨b0, rfl⟩ := hargs
  subst hR
  intro r h' e1 H locs ls hP hS hl
  cases e1
  by_cases h1 : x = 1
  · subst h1
    refine va_forget (fun q hq => hA _ (hS.2.2 q hq)) ?_
    refine W.widen hcm hsm ?_
    intro T hT XS
    obtain ⟨t, a1, b1⟩ := lw_ret (l := l) (pc := pc) (H := H) (ls := ls) X.1 X.2.1 hr hlk d T hT XS
    exact ⟨t, a1, fun _ => b1⟩
  · intro T hT XS
    exact ⟨_, Steps.refl _, fun q => absurd q h1⟩
end SL

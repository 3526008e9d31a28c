def lt {β γ : Type} (x : β) (g : β → γ) : γ := g x
def cb {β γ : Type} (f : Option (β × PH)) (g : β → PH → Option γ) : Option γ := match f with
  | none => none
  | some q => g q.1 q.2
def ixi (i : Int32) (n : Nat) : Prop := 0 ≤ i.toInt ∧ i.toInt < (n : Int)
def ldI {γ : Type} (h : PH) (a n : Nat) (i : Int32) (g : Int32 → Option γ) : Option γ := if 0 ≤ i.toInt ∧ i.toInt < (n : Int) then g (h.1 a i.toNatClampNeg) else none
def ldL {γ : Type} (h : PH) (a n : Nat) (i : Int32) (g : Int64 → Option γ) : Option γ := if 0 ≤ i.toInt ∧ i.toInt < (n : Int) then g (h.2 a i.toNatClampNeg) else none
def ldR {γ : Type} (a n : Nat) (i : Int32) (g : Nat → Option γ) : Option γ := if 0 ≤ i.toInt ∧ i.toInt < (n : Int) then g (rt a i.toNatClampNeg) else none
def stI {γ : Type} (h : PH) (a n : Nat) (i v : Int32) (g : PH → Option γ) : Option γ := if 0 ≤ i.toInt ∧ i.toInt < (n : Int) then g (pI h a i.toNatClampNeg v) else none
def stL {γ : Type} (h : PH) (a n : Nat) (i : Int32) (v : Int64) (g : PH → Option γ) : Option γ := if 0 ≤ i.toInt ∧ i.toInt < (n : Int) then g (pL h a i.toNatClampNeg v) else none
def nz {γ : Type} (y : Int32) (o : Option γ) : Option γ := if y = 0 then none else o
def lset (L : List (Nat × Value)) (i : Nat) (v : Value) : List (Nat × Value) := (i, v) :: L.filter (fun q => !(q.1 == i) && !(q.1 + 1 == i && q.2.category == 2))
def lset2 (L : List (Nat × Value)) (i : Nat) (v : Value) : List (Nat × Value) := (i, v) :: L.filter (fun q => !(q.1 == i) && (!(q.1 == i + 1) && !(q.1 + 1 == i && q.2.category == 2)))
def Cx (p : Program) (s : State) (m : MethodId) (args : Array Value) (c : Code) (own : String) (cc : ByteArray) (nL : Nat) (D : va_G) (cA : Nat → ClassId) (ad : Nat → Nat) (A : Nat → Prop) : Prop :=
  p.tables.exec = Jvm.exec ∧ c.code = cc ∧ c.maxLocals = nL ∧ s.vm.findClass own = some m.cls ∧ (∀ w ∈ WSG, w.before args s = true) ∧ va_K D vwCl (tyl cA) s ∧ (∀ i j, i < nc cA → j < nc cA → ad i = ad j → i = j) ∧ (∀ i, i < nc cA → A (ad i)) ∧ (∀ q, s.heap.size ≤ q → A q) ∧ RO ad A s s.heap
def SWo {α : Type} (QQ : α → PH → State → Prop) (p : Program) (l : Launch) (e : Env) (R : Room) (s : State) (m : MethodId) (args : Array Value) (below : List Frame) (meth : Method) (c : Code) (cells slots nL : Nat) (D : va_G) (cA : Nat → ClassId) (ad : Nat → Nat) (A : Nat → Prop) (pc : Nat) (L : List (Nat × Value)) (st : List Value) (h : PH) (o : Option (α × PH)) : Prop :=
  ∀ (r : α) (h' : PH), o = some (r, h') → ∀ (H : Heap) (locs : List Loc) (ls : Array Slot), va_P D vwCl (wd cA ad h) H → va_S A s.heap H locs → lv_has ls nL (L.map (tq ad)) → W p l e R s m args below meth c H locs cells slots (QQ r h') (F0 m pc ls (st.map (tv ad)))
theorem ix_in {i : Int32} {n : Nat} (h : 0 ≤ i.toInt ∧ i.toInt < (n : Int)) : vp_in i n := vp_in_iff.mpr h
theorem lset_map {ad : Nat → Nat} {L : List (Nat × Value)} {i : Nat} {v : Value} : (i, tv ad v) :: (L.map (tq ad)).filter (fun q => !(q.1 == i) && !(q.1 + 1 == i && q.2.category == 2)) = (lset L i v).map (tq ad) := by
  simp only [lset, List.map_cons, List.filter_map]
  congr 2
  apply List.filter_congr
  intro q _
  simp [tv_cat]
theorem lset2_map {ad : Nat → Nat} {L : List (Nat × Value)} {i : Nat} {v : Value} : (i, tv ad v) :: (L.map (tq ad)).filter (fun q => !(q.1 == i) && (!(q.1 == i + 1) && !(q.1 + 1 == i && q.2.category == 2))) = (lset2 L i v).map (tq ad) := by
  simp only [lset2, List.map_cons, List.filter_map]
  congr 2
  apply List.filter_congr
  intro q _
  simp [tv_cat]
section SO
variable {p : Program} {l : Launch} {e : Env} {R : Room} {s : State} {m : MethodId} {args : Array Value} {below : List Frame} {meth : Method} {c : Code} {cells slots nL : Nat} {D : va_G} {cA : Nat → ClassId} {ad : Nat → Nat} {A : Nat → Prop} {own : String} {cc : ByteArray} {pc tgt : Nat} {L L' : List (Nat × Value)} {st : List Value} {h : PH} {α : Type} {QQ : α → PH → State → Prop} {o o1 o2 : Option (α × PH)}
theorem so_iconst (X : Cx p s m args c own cc nL D cA ad A) {n : Int} {v : Int32} (d : decode cc pc = .ok (.iconst n, 1)) (hv : Int32.ofInt n = v) (k : SWo QQ p l e R s m args below meth c cells slots nL D cA ad A (pc + 1) (L) (.int v :: st) (h) (o)) : SWo QQ p l e R s m args below meth c cells slots nL D cA ad A (pc) (L) (st) (h) (o) :=
  fun r h' e1 H locs ls hP hS hl => lv_iconst X.1 X.2.1 d hv (k r h' e1 H locs ls hP hS hl)
theorem so_bipush (X : Cx p s m args c own cc nL D cA ad A) {n : Int} {v : Int32} (d : decode cc pc = .ok (.bipush n, 2)) (hv : (Int8.ofInt n).toInt32 = v) (k : SWo QQ p l e R s m args below meth c cells slots nL D cA ad A (pc + 2) (L) (.int v :: st) (h) (o)) : SWo QQ p l e R s m args below meth c cells slots nL D cA ad A (pc) (L) (st) (h) (o) :=
  fun r h' e1 H locs ls hP hS hl => lv_bipush X.1 X.2.1 d hv (k r h' e1 H locs ls hP hS hl)
theorem so_sipush (X : Cx p s m args c own cc nL D cA ad A) {n : Int} {v : Int32} (d : decode cc pc = .ok (.sipush n, 3)) (hv : (Int16.ofInt n).toInt32 = v) (k : SWo QQ p l e R s m args below meth c cells slots nL D cA ad A (pc + 3) (L) (.int v :: st) (h) (o)) : SWo QQ p l e R s m args below meth c cells slots nL D cA ad A (pc) (L) (st) (h) (o) :=
  fun r h' e1 H locs ls hP hS hl => lv_sipush X.1 X.2.1 d hv (k r h' e1 H locs ls hP hS hl)
theorem so_lconst (X : Cx p s m args c own cc nL D cA ad A) {n : Fin 2} {v : Int64} (d : decode cc pc = .ok (.lconst n, 1)) (hv : Int64.ofNat (n : Nat) = v) (k : SWo QQ p l e R s m args below meth c cells slots nL D cA ad A (pc + 1) (L) (.long v :: st) (h) (o)) : SWo QQ p l e R s m args below meth c cells slots nL D cA ad A (pc) (L) (st) (h) (o) :=
  fun r h' e1 H locs ls hP hS hl => lv_lconst X.1 X.2.1 d hv (k r h' e1 H locs ls hP hS hl)
theorem so_ldc (X : Cx p s m args c own cc nL D cA ad A) {ix : Nat} {v : Int32} (hc : Cond.constant own ix v ∈ WSG) (d : decode cc pc = .ok (.ldc ix, 2)) (k : SWo QQ p l e R s m args below meth c cells slots nL D cA ad A (pc + 2) (L) (.int v :: st) (h) (o)) : SWo QQ p l e R s m args below meth c cells slots nL D cA ad A (pc) (L) (st) (h) (o) :=
  fun r h' e1 H locs ls hP hS hl => lv_ldc X.1 X.2.1 X.2.2.2.1 (X.2.2.2.2.1 _ hc) d (k r h' e1 H locs ls hP hS hl)
theorem so_ldcw (X : Cx p s m args c own cc nL D cA ad A) {ix : Nat} {v : Int32} (hc : Cond.constant own ix v ∈ WSG) (d : decode cc pc = .ok (.ldc_w ix, 3)) (k : SWo QQ p l e R s m args below meth c cells slots nL D cA ad A (pc + 3) (L) (.int v :: st) (h) (o)) : SWo QQ p l e R s m args below meth c cells slots nL D cA ad A (pc) (L) (st) (h) (o) :=
  fun r h' e1 H locs ls hP hS hl => lv_ldcw X.1 X.2.1 X.2.2.2.1 (X.2.2.2.2.1 _ hc) d (k r h' e1 H locs ls hP hS hl)
theorem so_ldc2 (X : Cx p s m args c own cc nL D cA ad A) {ix : Nat} {v : Int64} (hc : Cond.constantLong own ix v ∈ WSG) (d : decode cc pc = .ok (.ldc2_w ix, 3)) (k : SWo QQ p l e R s m args below meth c cells slots nL D cA ad A (pc + 3) (L) (.long v :: st) (h) (o)) : SWo QQ p l e R s m args below meth c cells slots nL D cA ad A (pc) (L) (st) (h) (o) :=
  fun r h' e1 H locs ls hP hS hl => lv_ldc2 X.1 X.2.1 X.2.2.2.1 (X.2.2.2.2.1 _ hc) d (k r h' e1 H locs ls hP hS hl)
theorem so_iload_n (X : Cx p s m args c own cc nL D cA ad A) {k4 : Fin 4} {i : Nat} {x : Int32} (q : Nat) (d : decode cc pc = .ok (.iload_n k4, 1)) (hi : (k4 : Nat) = i) (hL : L[q]? = some (i, .int x)) (k : SWo QQ p l e R s m args below meth c cells slots nL D cA ad A (pc + 1) (L) (.int x :: st) (h) (o)) : SWo QQ p l e R s m args below meth c cells slots nL D cA ad A (pc) (L) (st) (h) (o) :=
  fun r h' e1 H locs ls hP hS hl => lv_iload_n X.1 X.2.1 d hi (lv_at (v := .int x) hl q (by rw [List.getElem?_map, hL]; rfl)) (k r h' e1 H locs ls hP hS hl)
theorem so_iload (X : Cx p s m args c own cc nL D cA ad A) {i : Nat} {x : Int32} (q : Nat) (d : decode cc pc = .ok (.iload i, 2)) (hL : L[q]? = some (i, .int x)) (k : SWo QQ p l e R s m args below meth c cells slots nL D cA ad A (pc + 2) (L) (.int x :: st) (h) (o)) : SWo QQ p l e R s m args below meth c cells slots nL D cA ad A (pc) (L) (st) (h) (o) :=
  fun r h' e1 H locs ls hP hS hl => lv_iload X.1 X.2.1 d (lv_at (v := .int x) hl q (by rw [List.getElem?_map, hL]; rfl)) (k r h' e1 H locs ls hP hS hl)
theorem so_istore_n (X : Cx p s m args c own cc nL D cA ad A) {k4 : Fin 4} {i : Nat} {x : Int32} {g : Int32 → Option (α × PH)} {Lf : Int32 → List (Nat × Value)} (d : decode cc pc = .ok (.istore_n k4, 1)) (hi : (k4 : Nat) = i) (hn : i < nL) (hL : ∀ y, lset L i (.int y) = Lf y) (k : ∀ y, SWo QQ p l e R s m args below meth c cells slots nL D cA ad A (pc + 1) (Lf y) (st) (h) (g y)) : SWo QQ p l e R s m args below meth c cells slots nL D cA ad A (pc) (L) (.int x :: st) (h) (lt x g) :=
  fun r h' e1 H locs ls hP hS hl => lv_istore_n X.1 X.2.1 d hi hl hn (lv' := (Lf x).map (tq ad)) (by rw [← hL x]; exact lset_map (v := .int x)) (fun ls' hl' => k x r h' e1 H locs ls' hP hS hl')
theorem so_istore (X : Cx p s m args c own cc nL D cA ad A) {i : Nat} {x : Int32} {g : Int32 → Option (α × PH)} {Lf : Int32 → List (Nat × Value)} (d : decode cc pc = .ok (.istore i, 2)) (hn : i < nL) (hL : ∀ y, lset L i (.int y) = Lf y) (k : ∀ y, SWo QQ p l e R s m args below meth c cells slots nL D cA ad A (pc + 2) (Lf y) (st) (h) (g y)) : SWo QQ p l e R s m args below meth c cells slots nL D cA ad A (pc) (L) (.int x :: st) (h) (lt x g) :=
  fun r h' e1 H locs ls hP hS hl => lv_istore X.1 X.2.1 d hl hn (lv' := (Lf x).map (tq ad)) (by rw [← hL x]; exact lset_map (v := .int x)) (fun ls' hl' => k x r h' e1 H locs ls' hP hS hl')
theorem so_lload_n (X : Cx p s m args c own cc nL D cA ad A) {k4 : Fin 4} {i : Nat} {x : Int64} (q : Nat) (d : decode cc pc = .ok (.lload_n k4, 1)) (hi : (k4 : Nat) = i) (hL : L[q]? = some (i, .long x)) (k : SWo QQ p l e R s m args below meth c cells slots nL D cA ad A (pc + 1) (L) (.long x :: st) (h) (o)) : SWo QQ p l e R s m args below meth c cells slots nL D cA ad A (pc) (L) (st) (h) (o) :=
  fun r h' e1 H locs ls hP hS hl => lv_lload_n X.1 X.2.1 d hi (lv_at (v := .long x) hl q (by rw [List.getElem?_map, hL]; rfl)) (k r h' e1 H locs ls hP hS hl)
theorem so_lload (X : Cx p s m args c own cc nL D cA ad A) {i : Nat} {x : Int64} (q : Nat) (d : decode cc pc = .ok (.lload i, 2)) (hL : L[q]? = some (i, .long x)) (k : SWo QQ p l e R s m args below meth c cells slots nL D cA ad A (pc + 2) (L) (.long x :: st) (h) (o)) : SWo QQ p l e R s m args below meth c cells slots nL D cA ad A (pc) (L) (st) (h) (o) :=
  fun r h' e1 H locs ls hP hS hl => lv_lload X.1 X.2.1 d (lv_at (v := .long x) hl q (by rw [List.getElem?_map, hL]; rfl)) (k r h' e1 H locs ls hP hS hl)
theorem so_lstore_n (X : Cx p s m args c own cc nL D cA ad A) {k4 : Fin 4} {i : Nat} {x : Int64} {g : Int64 → Option (α × PH)} {Lf : Int64 → List (Nat × Value)} (d : decode cc pc = .ok (.lstore_n k4, 1)) (hi : (k4 : Nat) = i) (hn : i + 1 < nL) (hL : ∀ y, lset2 L i (.long y) = Lf y) (k : ∀ y, SWo QQ p l e R s m args below meth c cells slots nL D cA ad A (pc + 1) (Lf y) (st) (h) (g y)) : SWo QQ p l e R s m args below meth c cells slots nL D cA ad A (pc) (L) (.long x :: st) (h) (lt x g) :=
  fun r h' e1 H locs ls hP hS hl => lv_lstore_n X.1 X.2.1 d hi hl hn (lv' := (Lf x).map (tq ad)) (by rw [← hL x]; exact lset2_map (v := .long x)) (fun ls' hl' => k x r h' e1 H locs ls' hP hS hl')
theorem so_lstore (X : Cx p s m args c own cc nL D cA ad A) {i : Nat} {x : Int64} {g : Int64 → Option (α × PH)} {Lf : Int64 → List (Nat × Value)} (d : decode cc pc = .ok (.lstore i, 2)) (hn : i + 1 < nL) (hL : ∀ y, lset2 L i (.long y) = Lf y) (k : ∀ y, SWo QQ p l e R s m args below meth c cells slots nL D cA ad A (pc + 2) (Lf y) (st) (h) (g y)) : SWo QQ p l e R s m args below meth c cells slots nL D cA ad A (pc) (L) (.long x :: st) (h) (lt x g) :=
  fun r h' e1 H locs ls hP hS hl => lv_lstore X.1 X.2.1 d hl hn (lv' := (Lf x).map (tq ad)) (by rw [← hL x]; exact lset2_map (v := .long x)) (fun ls' hl' => k x r h' e1 H locs ls' hP hS hl')
theorem so_aload_n (X : Cx p s m args c own cc nL D cA ad A) {k4 : Fin 4} {i : Nat} {x : Nat} (q : Nat) (d : decode cc pc = .ok (.aload_n k4, 1)) (hi : (k4 : Nat) = i) (hL : L[q]? = some (i, .ref x)) (k : SWo QQ p l e R s m args below meth c cells slots nL D cA ad A (pc + 1) (L) (.ref x :: st) (h) (o)) : SWo QQ p l e R s m args below meth c cells slots nL D cA ad A (pc) (L) (st) (h) (o) :=
  fun r h' e1 H locs ls hP hS hl => lv_aload_n X.1 X.2.1 d hi (lv_at (v := .ref (ad x)) hl q (by rw [List.getElem?_map, hL]; rfl)) (k r h' e1 H locs ls hP hS hl)
theorem so_aload (X : Cx p s m args c own cc nL D cA ad A) {i : Nat} {x : Nat} (q : Nat) (d : decode cc pc = .ok (.aload i, 2)) (hL : L[q]? = some (i, .ref x)) (k : SWo QQ p l e R s m args below meth c cells slots nL D cA ad A (pc + 2) (L) (.ref x :: st) (h) (o)) : SWo QQ p l e R s m args below meth c cells slots nL D cA ad A (pc) (L) (st) (h) (o) :=
  fun r h' e1 H locs ls hP hS hl => lv_aload X.1 X.2.1 d (lv_at (v := .ref (ad x)) hl q (by rw [List.getElem?_map, hL]; rfl)) (k r h' e1 H locs ls hP hS hl)
theorem so_astore_n (X : Cx p s m args c own cc nL D cA ad A) {k4 : Fin 4} {i : Nat} {x : Nat} {g : Nat → Option (α × PH)} {Lf : Nat → List (Nat × Value)} (d : decode cc pc = .ok (.astore_n k4, 1)) (hi : (k4 : Nat) = i) (hn : i < nL) (hL : ∀ y, lset L i (.ref y) = Lf y) (k : ∀ y, SWo QQ p l e R s m args below meth c cells slots nL D cA ad A (pc + 1) (Lf y) (st) (h) (g y)) : SWo QQ p l e R s m args below meth c cells slots nL D cA ad A (pc) (L) (.ref x :: st) (h) (lt x g) :=
  fun r h' e1 H locs ls hP hS hl => lv_astore_n X.1 X.2.1 d hi hl hn (lv' := (Lf x).map (tq ad)) (by rw [← hL x]; exact lset_map (v := .ref x)) (fun ls' hl' => k x r h' e1 H locs ls' hP hS hl')
theorem so_astore_n0 (X : Cx p s m args c own cc nL D cA ad A) {k4 : Fin 4} {i : Nat} {x : Nat} (d : decode cc pc = .ok (.astore_n k4, 1)) (hi : (k4 : Nat) = i) (hn : i < nL) (hL : lset L i (.ref x) = L') (k : SWo QQ p l e R s m args below meth c cells slots nL D cA ad A (pc + 1) (L') (st) (h) (o)) : SWo QQ p l e R s m args below meth c cells slots nL D cA ad A (pc) (L) (.ref x :: st) (h) (o) :=
  fun r h' e1 H locs ls hP hS hl => lv_astore_n X.1 X.2.1 d hi hl hn (lv' := L'.map (tq ad)) (by rw [← hL]; exact lset_map (v := .ref x)) (fun ls' hl' => k r h' e1 H locs ls' hP hS hl')
theorem so_astore (X : Cx p s m args c own cc nL D cA ad A) {i : Nat} {x : Nat} {g : Nat → Option (α × PH)} {Lf : Nat → List (Nat × Value)} (d : decode cc pc = .ok (.astore i, 2)) (hn : i < nL) (hL : ∀ y, lset L i (.ref y) = Lf y) (k : ∀ y, SWo QQ p l e R s m args below meth c cells slots nL D cA ad A (pc + 2) (Lf y) (st) (h) (g y)) : SWo QQ p l e R s m args below meth c cells slots nL D cA ad A (pc) (L) (.ref x :: st) (h) (lt x g) :=
  fun r h' e1 H locs ls hP hS hl => lv_astore X.1 X.2.1 d hl hn (lv' := (Lf x).map (tq ad)) (by rw [← hL x]; exact lset_map (v := .ref x)) (fun ls' hl' => k x r h' e1 H locs ls' hP hS hl')
theorem so_astore0 (X : Cx p s m args c own cc nL D cA ad A) {i : Nat} {x : Nat} (d : decode cc pc = .ok (.astore i, 2)) (hn : i < nL) (hL : lset L i (.ref x) = L') (k : SWo QQ p l e R s m args below meth c cells slots nL D cA ad A (pc + 2) (L') (st) (h) (o)) : SWo QQ p l e R s m args below meth c cells slots nL D cA ad A (pc) (L) (.ref x :: st) (h) (o) :=
  fun r h' e1 H locs ls hP hS hl => lv_astore X.1 X.2.1 d hl hn (lv' := L'.map (tq ad)) (by rw [← hL]; exact lset_map (v := .ref x)) (fun ls' hl' => k r h' e1 H locs ls' hP hS hl')
theorem so_iinc (X : Cx p s m args c own cc nL D cA ad A) {i : Nat} {n : Int} {x v : Int32} {g : Int32 → Option (α × PH)} {Lf : Int32 → List (Nat × Value)} (q : Nat) (d : decode cc pc = .ok (.iinc i n, 3)) (hq : L[q]? = some (i, .int x)) (hv : x + Int32.ofInt n = v) (hn : i < nL) (hL : ∀ y, lset L i (.int y) = Lf y) (k : ∀ y, SWo QQ p l e R s m args below meth c cells slots nL D cA ad A (pc + 3) (Lf y) (st) (h) (g y)) : SWo QQ p l e R s m args below meth c cells slots nL D cA ad A (pc) (L) (st) (h) (lt v g) :=
  fun r h' e1 H locs ls hP hS hl => lv_iinc (k := q) X.1 X.2.1 d hl (by rw [List.getElem?_map, hq]; rfl) hv hn (lv' := (Lf v).map (tq ad)) (by rw [← hL v]; exact lset_map (v := .int v)) (fun ls' hl' => k v r h' e1 H locs ls' hP hS hl')
theorem so_iadd (X : Cx p s m args c own cc nL D cA ad A) {x y : Int32} (d : decode cc pc = .ok (.iadd, 1)) (k : SWo QQ p l e R s m args below meth c cells slots nL D cA ad A (pc + 1) (L) (.int (x + y) :: st) (h) (o)) : SWo QQ p l e R s m args below meth c cells slots nL D cA ad A (pc) (L) (.int y :: .int x :: st) (h) (o) :=
  fun r h' e1 H locs ls hP hS hl => lv_iadd X.1 X.2.1 d (k r h' e1 H locs ls hP hS hl)
theorem so_isub (X : Cx p s m args c own cc nL D cA ad A) {x y : Int32} (d : decode cc pc = .ok (.isub, 1)) (k : SWo QQ p l e R s m args below meth c cells slots nL D cA ad A (pc + 1) (L) (.int (x - y) :: st) (h) (o)) : SWo QQ p l e R s m args below meth c cells slots nL D cA ad A (pc) (L) (.int y :: .int x :: st) (h) (o) :=
  fun r h' e1 H locs ls hP hS hl => lv_isub X.1 X.2.1 d (k r h' e1 H locs ls hP hS hl)
theorem so_imul (X : Cx p s m args c own cc nL D cA ad A) {x y : Int32} (d : decode cc pc = .ok (.imul, 1)) (k : SWo QQ p l e R s m args below meth c cells slots nL D cA ad A (pc + 1) (L) (.int (x * y) :: st) (h) (o)) : SWo QQ p l e R s m args below meth c cells slots nL D cA ad A (pc) (L) (.int y :: .int x :: st) (h) (o) :=
  fun r h' e1 H locs ls hP hS hl => lv_imul X.1 X.2.1 d (k r h' e1 H locs ls hP hS hl)
theorem so_iand (X : Cx p s m args c own cc nL D cA ad A) {x y : Int32} (d : decode cc pc = .ok (.iand, 1)) (k : SWo QQ p l e R s m args below meth c cells slots nL D cA ad A (pc + 1) (L) (.int (x &&& y) :: st) (h) (o)) : SWo QQ p l e R s m args below meth c cells slots nL D cA ad A (pc) (L) (.int y :: .int x :: st) (h) (o) :=
  fun r h' e1 H locs ls hP hS hl => lv_iand X.1 X.2.1 d (k r h' e1 H locs ls hP hS hl)
theorem so_ior (X : Cx p s m args c own cc nL D cA ad A) {x y : Int32} (d : decode cc pc = .ok (.ior, 1)) (k : SWo QQ p l e R s m args below meth c cells slots nL D cA ad A (pc + 1) (L) (.int (x ||| y) :: st) (h) (o)) : SWo QQ p l e R s m args below meth c cells slots nL D cA ad A (pc) (L) (.int y :: .int x :: st) (h) (o) :=
  fun r h' e1 H locs ls hP hS hl => lv_ior X.1 X.2.1 d (k r h' e1 H locs ls hP hS hl)
theorem so_ixor (X : Cx p s m args c own cc nL D cA ad A) {x y : Int32} (d : decode cc pc = .ok (.ixor, 1)) (k : SWo QQ p l e R s m args below meth c cells slots nL D cA ad A (pc + 1) (L) (.int (x ^^^ y) :: st) (h) (o)) : SWo QQ p l e R s m args below meth c cells slots nL D cA ad A (pc) (L) (.int y :: .int x :: st) (h) (o) :=
  fun r h' e1 H locs ls hP hS hl => lv_ixor X.1 X.2.1 d (k r h' e1 H locs ls hP hS hl)
theorem so_ishl (X : Cx p s m args c own cc nL D cA ad A) {x y : Int32} (d : decode cc pc = .ok (.ishl, 1)) (k : SWo QQ p l e R s m args below meth c cells slots nL D cA ad A (pc + 1) (L) (.int (x <<< (y &&& 31)) :: st) (h) (o)) : SWo QQ p l e R s m args below meth c cells slots nL D cA ad A (pc) (L) (.int y :: .int x :: st) (h) (o) :=
  fun r h' e1 H locs ls hP hS hl => lv_ishl X.1 X.2.1 d (k r h' e1 H locs ls hP hS hl)
theorem so_ishr (X : Cx p s m args c own cc nL D cA ad A) {x y : Int32} (d : decode cc pc = .ok (.ishr, 1)) (k : SWo QQ p l e R s m args below meth c cells slots nL D cA ad A (pc + 1) (L) (.int (x >>> (y &&& 31)) :: st) (h) (o)) : SWo QQ p l e R s m args below meth c cells slots nL D cA ad A (pc) (L) (.int y :: .int x :: st) (h) (o) :=
  fun r h' e1 H locs ls hP hS hl => lv_ishr X.1 X.2.1 d (k r h' e1 H locs ls hP hS hl)
theorem so_iushr (X : Cx p s m args c own cc nL D cA ad A) {x y v : Int32} (d : decode cc pc = .ok (.iushr, 1)) (hv : (x.toUInt32 >>> (y.toUInt32 &&& Int32.toUInt32 31)).toInt32 = v) (k : SWo QQ p l e R s m args below meth c cells slots nL D cA ad A (pc + 1) (L) (.int v :: st) (h) (o)) : SWo QQ p l e R s m args below meth c cells slots nL D cA ad A (pc) (L) (.int y :: .int x :: st) (h) (o) :=
  fun r h' e1 H locs ls hP hS hl => lv_iushr X.1 X.2.1 d hv (k r h' e1 H locs ls hP hS hl)
theorem so_idiv (X : Cx p s m args c own cc nL D cA ad A) {x y : Int32} (d : decode cc pc = .ok (.idiv, 1)) (k : ¬ y = 0 → SWo QQ p l e R s m args below meth c cells slots nL D cA ad A (pc + 1) (L) (.int (x / y) :: st) (h) (o)) : SWo QQ p l e R s m args below meth c cells slots nL D cA ad A (pc) (L) (.int y :: .int x :: st) (h) (nz y o) := by
  intro r h' e1 H locs ls hP hS hl
  by_cases hy : y = 0
  · unfold nz at e1; rw [if_pos hy] at e1; cases e1
  · unfold nz at e1; rw [if_neg hy] at e1
    exact lv_idiv X.1 X.2.1 d hy (k hy r h' e1 H locs ls hP hS hl)
theorem so_irem (X : Cx p s m args c own cc nL D cA ad A) {x y : Int32} (d : decode cc pc = .ok (.irem, 1)) (k : ¬ y = 0 → SWo QQ p l e R s m args below meth c cells slots nL D cA ad A (pc + 1) (L) (.int (x - x / y * y) :: st) (h) (o)) : SWo QQ p l e R s m args below meth c cells slots nL D cA ad A (pc) (L) (.int y :: .int x :: st) (h) (nz y o) := by
  intro r h' e1 H locs ls hP hS hl
  by_cases hy : y = 0
  · unfold nz at e1; rw [if_pos hy] at e1; cases e1
  · unfold nz at e1; rw [if_neg hy] at e1
    exact lv_irem X.1 X.2.1 d hy (k hy r h' e1 H locs ls hP hS hl)
theorem so_ineg (X : Cx p s m args c own cc nL D cA ad A) {x : Int32} (d : decode cc pc = .ok (.ineg, 1)) (k : SWo QQ p l e R s m args below meth c cells slots nL D cA ad A (pc + 1) (L) (.int (-x) :: st) (h) (o)) : SWo QQ p l e R s m args below meth c cells slots nL D cA ad A (pc) (L) (.int x :: st) (h) (o) :=
  fun r h' e1 H locs ls hP hS hl => lv_ineg X.1 X.2.1 d (k r h' e1 H locs ls hP hS hl)
theorem so_ladd (X : Cx p s m args c own cc nL D cA ad A) {x y : Int64} (d : decode cc pc = .ok (.ladd, 1)) (k : SWo QQ p l e R s m args below meth c cells slots nL D cA ad A (pc + 1) (L) (.long (x + y) :: st) (h) (o)) : SWo QQ p l e R s m args below meth c cells slots nL D cA ad A (pc) (L) (.long y :: .long x :: st) (h) (o) :=
  fun r h' e1 H locs ls hP hS hl => lv_ladd X.1 X.2.1 d (k r h' e1 H locs ls hP hS hl)
theorem so_lsub (X : Cx p s m args c own cc nL D cA ad A) {x y : Int64} (d : decode cc pc = .ok (.lsub, 1)) (k : SWo QQ p l e R s m args below meth c cells slots nL D cA ad A (pc + 1) (L) (.long (x - y) :: st) (h) (o)) : SWo QQ p l e R s m args below meth c cells slots nL D cA ad A (pc) (L) (.long y :: .long x :: st) (h) (o) :=
  fun r h' e1 H locs ls hP hS hl => lv_lsub X.1 X.2.1 d (k r h' e1 H locs ls hP hS hl)
theorem so_lmul (X : Cx p s m args c own cc nL D cA ad A) {x y : Int64} (d : decode cc pc = .ok (.lmul, 1)) (k : SWo QQ p l e R s m args below meth c cells slots nL D cA ad A (pc + 1) (L) (.long (x * y) :: st) (h) (o)) : SWo QQ p l e R s m args below meth c cells slots nL D cA ad A (pc) (L) (.long y :: .long x :: st) (h) (o) :=
  fun r h' e1 H locs ls hP hS hl => lv_lmul X.1 X.2.1 d (k r h' e1 H locs ls hP hS hl)
theorem so_land (X : Cx p s m args c own cc nL D cA ad A) {x y : Int64} (d : decode cc pc = .ok (.land, 1)) (k : SWo QQ p l e R s m args below meth c cells slots nL D cA ad A (pc + 1) (L) (.long (x &&& y) :: st) (h) (o)) : SWo QQ p l e R s m args below meth c cells slots nL D cA ad A (pc) (L) (.long y :: .long x :: st) (h) (o) :=
  fun r h' e1 H locs ls hP hS hl => lv_land X.1 X.2.1 d (k r h' e1 H locs ls hP hS hl)
theorem so_lor (X : Cx p s m args c own cc nL D cA ad A) {x y : Int64} (d : decode cc pc = .ok (.lor, 1)) (k : SWo QQ p l e R s m args below meth c cells slots nL D cA ad A (pc + 1) (L) (.long (x ||| y) :: st) (h) (o)) : SWo QQ p l e R s m args below meth c cells slots nL D cA ad A (pc) (L) (.long y :: .long x :: st) (h) (o) :=
  fun r h' e1 H locs ls hP hS hl => lv_lor X.1 X.2.1 d (k r h' e1 H locs ls hP hS hl)
theorem so_lshl (X : Cx p s m args c own cc nL D cA ad A) {x : Int64} {y : Int32} (d : decode cc pc = .ok (.lshl, 1)) (k : SWo QQ p l e R s m args below meth c cells slots nL D cA ad A (pc + 1) (L) (.long (x <<< (y.toInt64 &&& 63)) :: st) (h) (o)) : SWo QQ p l e R s m args below meth c cells slots nL D cA ad A (pc) (L) (.int y :: .long x :: st) (h) (o) :=
  fun r h' e1 H locs ls hP hS hl => lv_lshl X.1 X.2.1 d rfl (k r h' e1 H locs ls hP hS hl)
theorem so_lshr (X : Cx p s m args c own cc nL D cA ad A) {x : Int64} {y : Int32} (d : decode cc pc = .ok (.lshr, 1)) (k : SWo QQ p l e R s m args below meth c cells slots nL D cA ad A (pc + 1) (L) (.long (x >>> (y.toInt64 &&& 63)) :: st) (h) (o)) : SWo QQ p l e R s m args below meth c cells slots nL D cA ad A (pc) (L) (.int y :: .long x :: st) (h) (o) :=
  fun r h' e1 H locs ls hP hS hl => lv_lshr X.1 X.2.1 d rfl (k r h' e1 H locs ls hP hS hl)
theorem so_lcmp (X : Cx p s m args c own cc nL D cA ad A) {x y : Int64} (d : decode cc pc = .ok (.lcmp, 1)) (k : SWo QQ p l e R s m args below meth c cells slots nL D cA ad A (pc + 1) (L) (.int (lg_cmp x y) :: st) (h) (o)) : SWo QQ p l e R s m args below meth c cells slots nL D cA ad A (pc) (L) (.long y :: .long x :: st) (h) (o) :=
  fun r h' e1 H locs ls hP hS hl => W.lcmp X.1 X.2.1 d (k r h' e1 H locs ls hP hS hl)
theorem so_i2l (X : Cx p s m args c own cc nL D cA ad A) {x : Int32} (d : decode cc pc = .ok (.i2l, 1)) (k : SWo QQ p l e R s m args below meth c cells slots nL D cA ad A (pc + 1) (L) (.long (x.toInt64) :: st) (h) (o)) : SWo QQ p l e R s m args below meth c cells slots nL D cA ad A (pc) (L) (.int x :: st) (h) (o) :=
  fun r h' e1 H locs ls hP hS hl => lv_i2l X.1 X.2.1 d rfl (k r h' e1 H locs ls hP hS hl)
theorem so_l2i (X : Cx p s m args c own cc nL D cA ad A) {x : Int64} (d : decode cc pc = .ok (.l2i, 1)) (k : SWo QQ p l e R s m args below meth c cells slots nL D cA ad A (pc + 1) (L) (.int (x.toInt32) :: st) (h) (o)) : SWo QQ p l e R s m args below meth c cells slots nL D cA ad A (pc) (L) (.long x :: st) (h) (o) :=
  fun r h' e1 H locs ls hP hS hl => lv_l2i X.1 X.2.1 d rfl (k r h' e1 H locs ls hP hS hl)
theorem so_i2b (X : Cx p s m args c own cc nL D cA ad A) {x : Int32} (d : decode cc pc = .ok (.i2b, 1)) (k : SWo QQ p l e R s m args below meth c cells slots nL D cA ad A (pc + 1) (L) (.int (x.toInt8.toInt32) :: st) (h) (o)) : SWo QQ p l e R s m args below meth c cells slots nL D cA ad A (pc) (L) (.int x :: st) (h) (o) :=
  fun r h' e1 H locs ls hP hS hl => lv_i2b X.1 X.2.1 d rfl (k r h' e1 H locs ls hP hS hl)
theorem so_i2s (X : Cx p s m args c own cc nL D cA ad A) {x : Int32} (d : decode cc pc = .ok (.i2s, 1)) (k : SWo QQ p l e R s m args below meth c cells slots nL D cA ad A (pc + 1) (L) (.int (x.toInt16.toInt32) :: st) (h) (o)) : SWo QQ p l e R s m args below meth c cells slots nL D cA ad A (pc) (L) (.int x :: st) (h) (o) :=
  fun r h' e1 H locs ls hP hS hl => lv_i2s X.1 X.2.1 d rfl (k r h' e1 H locs ls hP hS hl)
theorem so_i2c (X : Cx p s m args c own cc nL D cA ad A) {x : Int32} (d : decode cc pc = .ok (.i2c, 1)) (k : SWo QQ p l e R s m args below meth c cells slots nL D cA ad A (pc + 1) (L) (.int ((x.toUInt32 % 65536).toInt32) :: st) (h) (o)) : SWo QQ p l e R s m args below meth c cells slots nL D cA ad A (pc) (L) (.int x :: st) (h) (o) :=
  fun r h' e1 H locs ls hP hS hl => lv_i2c X.1 X.2.1 d rfl (k r h' e1 H locs ls hP hS hl)
theorem so_dup (X : Cx p s m args c own cc nL D cA ad A) {va : Value} (d : decode cc pc = .ok (.dup, 1)) (h1 : va.category = 1) (k : SWo QQ p l e R s m args below meth c cells slots nL D cA ad A (pc + 1) (L) (va :: va :: st) (h) (o)) : SWo QQ p l e R s m args below meth c cells slots nL D cA ad A (pc) (L) (va :: st) (h) (o) :=
  fun r h' e1 H locs ls hP hS hl => lv_dup X.1 X.2.1 d (by rw [tv_cat]; exact h1) (k r h' e1 H locs ls hP hS hl)
theorem so_pop (X : Cx p s m args c own cc nL D cA ad A) {va : Value} (d : decode cc pc = .ok (.pop, 1)) (h1 : va.category = 1) (k : SWo QQ p l e R s m args below meth c cells slots nL D cA ad A (pc + 1) (L) (st) (h) (o)) : SWo QQ p l e R s m args below meth c cells slots nL D cA ad A (pc) (L) (va :: st) (h) (o) :=
  fun r h' e1 H locs ls hP hS hl => lv_pop X.1 X.2.1 d (by rw [tv_cat]; exact h1) (k r h' e1 H locs ls hP hS hl)
theorem so_dup2 (X : Cx p s m args c own cc nL D cA ad A) {va vb : Value} (d : decode cc pc = .ok (.dup2, 1)) (h1 : va.category = 1) (h2 : vb.category = 1) (k : SWo QQ p l e R s m args below meth c cells slots nL D cA ad A (pc + 1) (L) (va :: vb :: va :: vb :: st) (h) (o)) : SWo QQ p l e R s m args below meth c cells slots nL D cA ad A (pc) (L) (va :: vb :: st) (h) (o) :=
  fun r h' e1 H locs ls hP hS hl => lv_dup2_11 X.1 X.2.1 d (by rw [tv_cat]; exact h1) (by rw [tv_cat]; exact h2) (k r h' e1 H locs ls hP hS hl)
theorem so_dup2l (X : Cx p s m args c own cc nL D cA ad A) {va : Value} (d : decode cc pc = .ok (.dup2, 1)) (h1 : va.category = 2) (k : SWo QQ p l e R s m args below meth c cells slots nL D cA ad A (pc + 1) (L) (va :: va :: st) (h) (o)) : SWo QQ p l e R s m args below meth c cells slots nL D cA ad A (pc) (L) (va :: st) (h) (o) :=
  fun r h' e1 H locs ls hP hS hl => lv_dup2_2 X.1 X.2.1 d (by rw [tv_cat]; exact h1) (k r h' e1 H locs ls hP hS hl)
theorem so_pop2 (X : Cx p s m args c own cc nL D cA ad A) {va : Value} (d : decode cc pc = .ok (.pop2, 1)) (h1 : va.category = 2) (k : SWo QQ p l e R s m args below meth c cells slots nL D cA ad A (pc + 1) (L) (st) (h) (o)) : SWo QQ p l e R s m args below meth c cells slots nL D cA ad A (pc) (L) (va :: st) (h) (o) :=
  fun r h' e1 H locs ls hP hS hl => lv_pop2_2 X.1 X.2.1 d (by rw [tv_cat]; exact h1) (k r h' e1 H locs ls hP hS hl)
theorem so_if_eq (X : Cx p s m args c own cc nL D cA ad A) {x : Int32} {off : Int} (d : decode cc pc = .ok (.ifCond .eq off, 3)) (ht : (pc : Int) + off = (tgt : Int)) (k1 : x = 0 → SWo QQ p l e R s m args below meth c cells slots nL D cA ad A (tgt) (L) (st) (h) (o1)) (k2 : ¬ x = 0 → SWo QQ p l e R s m args below meth c cells slots nL D cA ad A (pc + 3) (L) (st) (h) (o2)) : SWo QQ p l e R s m args below meth c cells slots nL D cA ad A (pc) (L) (.int x :: st) (h) (if x = 0 then o1 else o2) := by
  intro r h' e1 H locs ls hP hS hl
  refine lv_if_eq X.1 X.2.1 d ht (fun hc => ?_) (fun hc => ?_)
  · exact k1 hc r h' (by rw [if_pos hc] at e1; exact e1) H locs ls hP hS hl
  · exact k2 hc r h' (by rw [if_neg hc] at e1; exact e1) H locs ls hP hS hl
theorem so_if_ne (X : Cx p s m args c own cc nL D cA ad A) {x : Int32} {off : Int} (d : decode cc pc = .ok (.ifCond .ne off, 3)) (ht : (pc : Int) + off = (tgt : Int)) (k1 : ¬ x = 0 → SWo QQ p l e R s m args below meth c cells slots nL D cA ad A (tgt) (L) (st) (h) (o1)) (k2 : x = 0 → SWo QQ p l e R s m args below meth c cells slots nL D cA ad A (pc + 3) (L) (st) (h) (o2)) : SWo QQ p l e R s m args below meth c cells slots nL D cA ad A (pc) (L) (.int x :: st) (h) (if x = 0 then o2 else o1) := by
  intro r h' e1 H locs ls hP hS hl
  refine lv_if_ne X.1 X.2.1 d ht (fun hc => ?_) (fun hc => ?_)
  · exact k1 hc r h' (by rw [if_neg hc] at e1; exact e1) H locs ls hP hS hl
  · exact k2 hc r h' (by rw [if_pos hc] at e1; exact e1) H locs ls hP hS hl
theorem so_if_lt (X : Cx p s m args c own cc nL D cA ad A) {x : Int32} {off : Int} (d : decode cc pc = .ok (.ifCond .lt off, 3)) (ht : (pc : Int) + off = (tgt : Int)) (k1 : x < 0 → SWo QQ p l e R s m args below meth c cells slots nL D cA ad A (tgt) (L) (st) (h) (o1)) (k2 : ¬ x < 0 → SWo QQ p l e R s m args below meth c cells slots nL D cA ad A (pc + 3) (L) (st) (h) (o2)) : SWo QQ p l e R s m args below meth c cells slots nL D cA ad A (pc) (L) (.int x :: st) (h) (if x < 0 then o1 else o2) := by
  intro r h' e1 H locs ls hP hS hl
  refine lv_if_lt X.1 X.2.1 d ht (fun hc => ?_) (fun hc => ?_)
  · exact k1 hc r h' (by rw [if_pos hc] at e1; exact e1) H locs ls hP hS hl
  · exact k2 hc r h' (by rw [if_neg hc] at e1; exact e1) H locs ls hP hS hl
theorem so_if_ge (X : Cx p s m args c own cc nL D cA ad A) {x : Int32} {off : Int} (d : decode cc pc = .ok (.ifCond .ge off, 3)) (ht : (pc : Int) + off = (tgt : Int)) (k1 : 0 ≤ x → SWo QQ p l e R s m args below meth c cells slots nL D cA ad A (tgt) (L) (st) (h) (o1)) (k2 : ¬ 0 ≤ x → SWo QQ p l e R s m args below meth c cells slots nL D cA ad A (pc + 3) (L) (st) (h) (o2)) : SWo QQ p l e R s m args below meth c cells slots nL D cA ad A (pc) (L) (.int x :: st) (h) (if 0 ≤ x then o1 else o2) := by
  intro r h' e1 H locs ls hP hS hl
  refine lv_if_ge X.1 X.2.1 d ht (fun hc => ?_) (fun hc => ?_)
  · exact k1 hc r h' (by rw [if_pos hc] at e1; exact e1) H locs ls hP hS hl
  · exact k2 hc r h' (by rw [if_neg hc] at e1; exact e1) H locs ls hP hS hl
theorem so_if_gt (X : Cx p s m args c own cc nL D cA ad A) {x : Int32} {off : Int} (d : decode cc pc = .ok (.ifCond .gt off, 3)) (ht : (pc : Int) + off = (tgt : Int)) (k1 : 0 < x → SWo QQ p l e R s m args below meth c cells slots nL D cA ad A (tgt) (L) (st) (h) (o1)) (k2 : ¬ 0 < x → SWo QQ p l e R s m args below meth c cells slots nL D cA ad A (pc + 3) (L) (st) (h) (o2)) : SWo QQ p l e R s m args below meth c cells slots nL D cA ad A (pc) (L) (.int x :: st) (h) (if 0 < x then o1 else o2) := by
  intro r h' e1 H locs ls hP hS hl
  refine lv_if_gt X.1 X.2.1 d ht (fun hc => ?_) (fun hc => ?_)
  · exact k1 hc r h' (by rw [if_pos hc] at e1; exact e1) H locs ls hP hS hl
  · exact k2 hc r h' (by rw [if_neg hc] at e1; exact e1) H locs ls hP hS hl
theorem so_if_le (X : Cx p s m args c own cc nL D cA ad A) {x : Int32} {off : Int} (d : decode cc pc = .ok (.ifCond .le off, 3)) (ht : (pc : Int) + off = (tgt : Int)) (k1 : x ≤ 0 → SWo QQ p l e R s m args below meth c cells slots nL D cA ad A (tgt) (L) (st) (h) (o1)) (k2 : ¬ x ≤ 0 → SWo QQ p l e R s m args below meth c cells slots nL D cA ad A (pc + 3) (L) (st) (h) (o2)) : SWo QQ p l e R s m args below meth c cells slots nL D cA ad A (pc) (L) (.int x :: st) (h) (if x ≤ 0 then o1 else o2) := by
  intro r h' e1 H locs ls hP hS hl
  refine lv_if_le X.1 X.2.1 d ht (fun hc => ?_) (fun hc => ?_)
  · exact k1 hc r h' (by rw [if_pos hc] at e1; exact e1) H locs ls hP hS hl
  · exact k2 hc r h' (by rw [if_neg hc] at e1; exact e1) H locs ls hP hS hl
theorem so_icmp_eq (X : Cx p s m args c own cc nL D cA ad A) {x y : Int32} {off : Int} (d : decode cc pc = .ok (.if_icmp .eq off, 3)) (ht : (pc : Int) + off = (tgt : Int)) (k1 : x = y → SWo QQ p l e R s m args below meth c cells slots nL D cA ad A (tgt) (L) (st) (h) (o1)) (k2 : ¬ x = y → SWo QQ p l e R s m args below meth c cells slots nL D cA ad A (pc + 3) (L) (st) (h) (o2)) : SWo QQ p l e R s m args below meth c cells slots nL D cA ad A (pc) (L) (.int y :: .int x :: st) (h) (if x = y then o1 else o2) := by
  intro r h' e1 H locs ls hP hS hl
  refine lv_icmp_eq X.1 X.2.1 d ht (fun hc => ?_) (fun hc => ?_)
  · exact k1 hc r h' (by rw [if_pos hc] at e1; exact e1) H locs ls hP hS hl
  · exact k2 hc r h' (by rw [if_neg hc] at e1; exact e1) H locs ls hP hS hl
theorem so_icmp_ne (X : Cx p s m args c own cc nL D cA ad A) {x y : Int32} {off : Int} (d : decode cc pc = .ok (.if_icmp .ne off, 3)) (ht : (pc : Int) + off = (tgt : Int)) (k1 : ¬ x = y → SWo QQ p l e R s m args below meth c cells slots nL D cA ad A (tgt) (L) (st) (h) (o1)) (k2 : x = y → SWo QQ p l e R s m args below meth c cells slots nL D cA ad A (pc + 3) (L) (st) (h) (o2)) : SWo QQ p l e R s m args below meth c cells slots nL D cA ad A (pc) (L) (.int y :: .int x :: st) (h) (if x = y then o2 else o1) := by
  intro r h' e1 H locs ls hP hS hl
  refine lv_icmp_ne X.1 X.2.1 d ht (fun hc => ?_) (fun hc => ?_)
  · exact k1 hc r h' (by rw [if_neg hc] at e1; exact e1) H locs ls hP hS hl
  · exact k2 hc r h' (by rw [if_pos hc] at e1; exact e1) H locs ls hP hS hl
theorem so_icmp_lt (X : Cx p s m args c own cc nL D cA ad A) {x y : Int32} {off : Int} (d : decode cc pc = .ok (.if_icmp .lt off, 3)) (ht : (pc : Int) + off = (tgt : Int)) (k1 : x < y → SWo QQ p l e R s m args below meth c cells slots nL D cA ad A (tgt) (L) (st) (h) (o1)) (k2 : ¬ x < y → SWo QQ p l e R s m args below meth c cells slots nL D cA ad A (pc + 3) (L) (st) (h) (o2)) : SWo QQ p l e R s m args below meth c cells slots nL D cA ad A (pc) (L) (.int y :: .int x :: st) (h) (if x < y then o1 else o2) := by
  intro r h' e1 H locs ls hP hS hl
  refine lv_icmp_lt X.1 X.2.1 d ht (fun hc => ?_) (fun hc => ?_)
  · exact k1 hc r h' (by rw [if_pos hc] at e1; exact e1) H locs ls hP hS hl
  · exact k2 hc r h' (by rw [if_neg hc] at e1; exact e1) H locs ls hP hS hl
theorem so_icmp_ge (X : Cx p s m args c own cc nL D cA ad A) {x y : Int32} {off : Int} (d : decode cc pc = .ok (.if_icmp .ge off, 3)) (ht : (pc : Int) + off = (tgt : Int)) (k1 : y ≤ x → SWo QQ p l e R s m args below meth c cells slots nL D cA ad A (tgt) (L) (st) (h) (o1)) (k2 : ¬ y ≤ x → SWo QQ p l e R s m args below meth c cells slots nL D cA ad A (pc + 3) (L) (st) (h) (o2)) : SWo QQ p l e R s m args below meth c cells slots nL D cA ad A (pc) (L) (.int y :: .int x :: st) (h) (if y ≤ x then o1 else o2) := by
  intro r h' e1 H locs ls hP hS hl
  refine lv_icmp_ge X.1 X.2.1 d ht (fun hc => ?_) (fun hc => ?_)
  · exact k1 hc r h' (by rw [if_pos hc] at e1; exact e1) H locs ls hP hS hl
  · exact k2 hc r h' (by rw [if_neg hc] at e1; exact e1) H locs ls hP hS hl
theorem so_icmp_gt (X : Cx p s m args c own cc nL D cA ad A) {x y : Int32} {off : Int} (d : decode cc pc = .ok (.if_icmp .gt off, 3)) (ht : (pc : Int) + off = (tgt : Int)) (k1 : y < x → SWo QQ p l e R s m args below meth c cells slots nL D cA ad A (tgt) (L) (st) (h) (o1)) (k2 : ¬ y < x → SWo QQ p l e R s m args below meth c cells slots nL D cA ad A (pc + 3) (L) (st) (h) (o2)) : SWo QQ p l e R s m args below meth c cells slots nL D cA ad A (pc) (L) (.int y :: .int x :: st) (h) (if y < x then o1 else o2) := by
  intro r h' e1 H locs ls hP hS hl
  refine lv_icmp_gt X.1 X.2.1 d ht (fun hc => ?_) (fun hc => ?_)
  · exact k1 hc r h' (by rw [if_pos hc] at e1; exact e1) H locs ls hP hS hl
  · exact k2 hc r h' (by rw [if_neg hc] at e1; exact e1) H locs ls hP hS hl
theorem so_icmp_le (X : Cx p s m args c own cc nL D cA ad A) {x y : Int32} {off : Int} (d : decode cc pc = .ok (.if_icmp .le off, 3)) (ht : (pc : Int) + off = (tgt : Int)) (k1 : x ≤ y → SWo QQ p l e R s m args below meth c cells slots nL D cA ad A (tgt) (L) (st) (h) (o1)) (k2 : ¬ x ≤ y → SWo QQ p l e R s m args below meth c cells slots nL D cA ad A (pc + 3) (L) (st) (h) (o2)) : SWo QQ p l e R s m args below meth c cells slots nL D cA ad A (pc) (L) (.int y :: .int x :: st) (h) (if x ≤ y then o1 else o2) := by
  intro r h' e1 H locs ls hP hS hl
  refine lv_icmp_le X.1 X.2.1 d ht (fun hc => ?_) (fun hc => ?_)
  · exact k1 hc r h' (by rw [if_pos hc] at e1; exact e1) H locs ls hP hS hl
  · exact k2 hc r h' (by rw [if_neg hc] at e1; exact e1) H locs ls hP hS hl
theorem so_goto (X : Cx p s m args c own cc nL D cA ad A) {off : Int} (d : decode cc pc = .ok (.goto off, 3)) (ht : (pc : Int) + off = (tgt : Int)) (k : SWo QQ p l e R s m args below meth c cells slots nL D cA ad A (tgt) (L) (st) (h) (o)) : SWo QQ p l e R s m args below meth c cells slots nL D cA ad A (pc) (L) (st) (h) (o) :=
  fun r h' e1 H locs ls hP hS hl => lv_goto X.1 X.2.1 d ht (k r h' e1 H locs ls hP hS hl)
theorem so_tsw (X : Cx p s m args c own cc nL D cA ad A) {x : Int32} {dflt lo hi : Int} {offs : Array Int} {len : Nat} {od : Option (α × PH)} {os : List (Option (α × PH))} (d : decode cc pc = .ok (.tableswitch dflt lo hi offs, len)) (ht : (pc : Int) + dflt = (tgt : Int)) (kd : SWo QQ p l e R s m args below meth c cells slots nL D cA ad A (tgt) (L) (st) (h) (od)) (hs : ∀ (k : Nat) (ok : Option (α × PH)), os[k]? = some ok → ∃ (off : Int) (tg : Nat), offs[k]? = some off ∧ (pc : Int) + off = (tg : Int) ∧ SWo QQ p l e R s m args below meth c cells slots nL D cA ad A (tg) (L) (st) (h) (ok)) (hlen : hi - lo + 1 = (os.length : Int)) : SWo QQ p l e R s m args below meth c cells slots nL D cA ad A (pc) (L) (.int x :: st) (h) (if x.toInt < lo ∨ hi < x.toInt then od else os.getD (x.toInt - lo).toNat none) := by
  intro r h' e1 H locs ls hP hS hl
  by_cases hc : x.toInt < lo ∨ hi < x.toInt
  · rw [if_pos hc] at e1
    exact lv_tableOut X.1 X.2.1 d hc ht (kd r h' e1 H locs ls hP hS hl)
  · rw [if_neg hc] at e1
    have h1 : ¬ x.toInt < lo := fun q => hc (Or.inl q)
    have h2 : ¬ hi < x.toInt := fun q => hc (Or.inr q)
    have h3 : (x.toInt - lo).toNat < os.length := by omega
    obtain ⟨off, tg, q1, q2, q3⟩ := hs (x.toInt - lo).toNat (os.getD (x.toInt - lo).toNat none) (by rw [List.getD_eq_getElem?_getD, List.getElem?_eq_getElem h3]; rfl)
    exact lv_tableIn X.1 X.2.1 d h1 h2 q1 q2 (q3 r h' e1 H locs ls hP hS hl)
theorem so_getI (X : Cx p s m args c own cc nL D cA ad A) {ci j N ix a : Nat} {C : String} {T : u_T} (hin : ∀ w ∈ u_ws C T N, w ∈ WSG) (hcl : vwCl[ci]? = some (C, T, N)) (hj : j < N) (hjl : j < (ft ci).length) (hft : (ft ci).getD j 0 = 0) (hci : ci < 13) (hlink : Cond.fieldLink own ix (T j).1 (T j).2.1 (T j).2.2.1 ∈ WSG) (hk : (kd a).1 = ci) (d : decode cc pc = .ok (.getfield ix, 3)) (k : SWo QQ p l e R s m args below meth c cells slots nL D cA ad A (pc + 3) (L) (.int (h.1 a j) :: st) (h) (o)) : SWo QQ p l e R s m args below meth c cells slots nL D cA ad A (pc) (L) (.ref a :: st) (h) (o) := by
  intro r h' e1 H locs ls hP hS hl
  refine va_get (v := .int (h.1 a j)) X.1 X.2.1 X.2.2.2.2.1 hin X.2.2.2.1 X.2.2.2.2.2.1 hP a (by rw [wd_get (kc_lt hk (by omega)), en_obj hk hci]) hcl j hj (X.2.2.2.2.1 _ hlink) (fun _ q => q) ?_ d (k r h' e1 H locs ls hP hS hl)
  rw [fl_get hjl, hft]
  rfl
theorem so_getL (X : Cx p s m args c own cc nL D cA ad A) {ci j N ix a : Nat} {C : String} {T : u_T} (hin : ∀ w ∈ u_ws C T N, w ∈ WSG) (hcl : vwCl[ci]? = some (C, T, N)) (hj : j < N) (hjl : j < (ft ci).length) (hft : (ft ci).getD j 0 = 1) (hci : ci < 13) (hlink : Cond.fieldLink own ix (T j).1 (T j).2.1 (T j).2.2.1 ∈ WSG) (hk : (kd a).1 = ci) (d : decode cc pc = .ok (.getfield ix, 3)) (k : SWo QQ p l e R s m args below meth c cells slots nL D cA ad A (pc + 3) (L) (.long (h.2 a j) :: st) (h) (o)) : SWo QQ p l e R s m args below meth c cells slots nL D cA ad A (pc) (L) (.ref a :: st) (h) (o) := by
  intro r h' e1 H locs ls hP hS hl
  refine va_get (v := .long (h.2 a j)) X.1 X.2.1 X.2.2.2.2.1 hin X.2.2.2.1 X.2.2.2.2.2.1 hP a (by rw [wd_get (kc_lt hk (by omega)), en_obj hk hci]) hcl j hj (X.2.2.2.2.1 _ hlink) (fun _ q => q) ?_ d (k r h' e1 H locs ls hP hS hl)
  rw [fl_get hjl, hft]
  rfl
theorem so_getR (X : Cx p s m args c own cc nL D cA ad A) {ci j N ix a : Nat} {C : String} {T : u_T} (hin : ∀ w ∈ u_ws C T N, w ∈ WSG) (hcl : vwCl[ci]? = some (C, T, N)) (hj : j < N) (hjl : j < (ft ci).length) (hft : (ft ci).getD j 0 = 2) (hci : ci < 13) (hlink : Cond.fieldLink own ix (T j).1 (T j).2.1 (T j).2.2.1 ∈ WSG) (hk : (kd a).1 = ci) (d : decode cc pc = .ok (.getfield ix, 3)) (k : SWo QQ p l e R s m args below meth c cells slots nL D cA ad A (pc + 3) (L) (.ref (rt a j) :: st) (h) (o)) : SWo QQ p l e R s m args below meth c cells slots nL D cA ad A (pc) (L) (.ref a :: st) (h) (o) := by
  intro r h' e1 H locs ls hP hS hl
  refine va_get (v := .ref (ad (rt a j))) X.1 X.2.1 X.2.2.2.2.1 hin X.2.2.2.1 X.2.2.2.2.2.1 hP a (by rw [wd_get (kc_lt hk (by omega)), en_obj hk hci]) hcl j hj (X.2.2.2.2.1 _ hlink) (fun _ q => q) ?_ d (k r h' e1 H locs ls hP hS hl)
  rw [fl_get hjl, hft]
  rfl
theorem so_putI (X : Cx p s m args c own cc nL D cA ad A) {ci j N ix a : Nat} {C : String} {T : u_T} (hin : ∀ w ∈ u_ws C T N, w ∈ WSG) (hcl : vwCl[ci]? = some (C, T, N)) (hj : j < N) (hjl : j < (ft ci).length) (hft : (ft ci).getD j 0 = 0) (hci : ci < 13) (ty0 : Nat → FieldType) (hty : ∀ k, k < N → parseFieldDescriptor (T k).2.2.1 = some (ty0 k)) (hnm : ∀ a, a < N → ∀ b, b < N → a ≠ b → (T a).2.1 ≠ (T b).2.1) (hfin : (T j).2.2.2 = false) (hlink : Cond.fieldLink own ix (T j).1 (T j).2.1 (T j).2.2.1 ∈ WSG) (hk : (kd a).1 = ci) {x : Int32} {g : PH → Option (α × PH)} (hn : narrow (ty0 j) (.int x) = .int x) (hfit : fits (ty0 j) (.int x) = true) (d : decode cc pc = .ok (.putfield ix, 3)) (k : ∀ h1, SWo QQ p l e R s m args below meth c cells slots nL D cA ad A (pc + 3) (L) (st) (h1) (g h1)) : SWo QQ p l e R s m args below meth c cells slots nL D cA ad A (pc) (L) (.int x :: .ref a :: st) (h) (lt (pI h a j x) g) := by
  intro r h' e1 H locs ls hP hS hl
  refine va_put (v := .int x) X.1 X.2.1 X.2.2.2.2.1 hin ty0 hty hnm X.2.2.2.1 X.2.2.2.2.2.1 hP (wd_D X.2.2.2.2.2.2.1 X.2.2.2.2.2.2.2.1) hS a (by rw [wd_get (kc_lt hk (by omega)), en_obj hk hci]) hcl j hj (X.2.2.2.2.1 _ hlink) (fun _ q => q) hfin (hty j hj) hn hfit (by rw [fl_len]; exact hjl) d (fun H1 locs1 hP1 _ hS1 => ?_)
  rw [wd_set (h' := pI h a j x) (by rw [en_obj hk hci, fl_pI hft]) pI_oth] at hP1
  exact k _ r h' e1 H1 locs1 ls hP1 hS1 hl
theorem so_putL (X : Cx p s m args c own cc nL D cA ad A) {ci j N ix a : Nat} {C : String} {T : u_T} (hin : ∀ w ∈ u_ws C T N, w ∈ WSG) (hcl : vwCl[ci]? = some (C, T, N)) (hj : j < N) (hjl : j < (ft ci).length) (hft : (ft ci).getD j 0 = 1) (hci : ci < 13) (ty0 : Nat → FieldType) (hty : ∀ k, k < N → parseFieldDescriptor (T k).2.2.1 = some (ty0 k)) (hnm : ∀ a, a < N → ∀ b, b < N → a ≠ b → (T a).2.1 ≠ (T b).2.1) (hfin : (T j).2.2.2 = false) (hlink : Cond.fieldLink own ix (T j).1 (T j).2.1 (T j).2.2.1 ∈ WSG) (hk : (kd a).1 = ci) {x : Int64} {g : PH → Option (α × PH)} (hn : narrow (ty0 j) (.long x) = .long x) (hfit : fits (ty0 j) (.long x) = true) (d : decode cc pc = .ok (.putfield ix, 3)) (k : ∀ h1, SWo QQ p l e R s m args below meth c cells slots nL D cA ad A (pc + 3) (L) (st) (h1) (g h1)) : SWo QQ p l e R s m args below meth c cells slots nL D cA ad A (pc) (L) (.long x :: .ref a :: st) (h) (lt (pL h a j x) g) := by
  intro r h' e1 H locs ls hP hS hl
  refine va_put (v := .long x) X.1 X.2.1 X.2.2.2.2.1 hin ty0 hty hnm X.2.2.2.1 X.2.2.2.2.2.1 hP (wd_D X.2.2.2.2.2.2.1 X.2.2.2.2.2.2.2.1) hS a (by rw [wd_get (kc_lt hk (by omega)), en_obj hk hci]) hcl j hj (X.2.2.2.2.1 _ hlink) (fun _ q => q) hfin (hty j hj) hn hfit (by rw [fl_len]; exact hjl) d (fun H1 locs1 hP1 _ hS1 => ?_)
  rw [wd_set (h' := pL h a j x) (by rw [en_obj hk hci, fl_pL hft]) pL_oth] at hP1
  exact k _ r h' e1 H1 locs1 ls hP1 hS1 hl
theorem so_iald (X : Cx p s m args c own cc nL D cA ad A) {a n : Nat} {i : Int32} {g : Int32 → Option (α × PH)} (hk : kd a = (13, n)) (d : decode cc pc = .ok (.iaload, 1)) (k : ∀ v, SWo QQ p l e R s m args below meth c cells slots nL D cA ad A (pc + 1) (L) (.int v :: st) (h) (g v)) : SWo QQ p l e R s m args below meth c cells slots nL D cA ad A (pc) (L) (.int i :: .ref a :: st) (h) (ldI h a n i g) := by
  intro r h' e1 H locs ls hP hS hl
  by_cases hx : 0 ≤ i.toInt ∧ i.toInt < (n : Int)
  · unfold ldI at e1; rw [if_pos hx] at e1
    exact va_iald X.1 X.2.1 X.2.2.2.2.2.1 hP a 0 (by rw [wd_get (kc_lt2 hk (by decide)), en_ints hk (by decide) (by decide)]) rfl (ix_in hx) d (k _ r h' e1 H locs ls hP hS hl)
  · unfold ldI at e1; rw [if_neg hx] at e1; cases e1
theorem so_bald (X : Cx p s m args c own cc nL D cA ad A) {a n : Nat} {i : Int32} {g : Int32 → Option (α × PH)} (hk : kd a = (14, n)) (d : decode cc pc = .ok (.baload, 1)) (k : ∀ v, SWo QQ p l e R s m args below meth c cells slots nL D cA ad A (pc + 1) (L) (.int v :: st) (h) (g v)) : SWo QQ p l e R s m args below meth c cells slots nL D cA ad A (pc) (L) (.int i :: .ref a :: st) (h) (ldI h a n i g) := by
  intro r h' e1 H locs ls hP hS hl
  by_cases hx : 0 ≤ i.toInt ∧ i.toInt < (n : Int)
  · unfold ldI at e1; rw [if_pos hx] at e1
    exact va_bald X.1 X.2.1 X.2.2.2.2.2.1 hP a 1 (by rw [wd_get (kc_lt2 hk (by decide)), en_ints hk (by decide) (by decide)]) rfl (ix_in hx) d (k _ r h' e1 H locs ls hP hS hl)
  · unfold ldI at e1; rw [if_neg hx] at e1; cases e1
theorem so_zald (X : Cx p s m args c own cc nL D cA ad A) {a n : Nat} {i : Int32} {g : Int32 → Option (α × PH)} (hk : kd a = (15, n)) (d : decode cc pc = .ok (.baload, 1)) (k : ∀ v, SWo QQ p l e R s m args below meth c cells slots nL D cA ad A (pc + 1) (L) (.int v :: st) (h) (g v)) : SWo QQ p l e R s m args below meth c cells slots nL D cA ad A (pc) (L) (.int i :: .ref a :: st) (h) (ldI h a n i g) := by
  intro r h' e1 H locs ls hP hS hl
  by_cases hx : 0 ≤ i.toInt ∧ i.toInt < (n : Int)
  · unfold ldI at e1; rw [if_pos hx] at e1
    exact va_zald X.1 X.2.1 X.2.2.2.2.2.1 hP a 2 (by rw [wd_get (kc_lt2 hk (by decide)), en_ints hk (by decide) (by decide)]) rfl (ix_in hx) d (k _ r h' e1 H locs ls hP hS hl)
  · unfold ldI at e1; rw [if_neg hx] at e1; cases e1
theorem so_lald (X : Cx p s m args c own cc nL D cA ad A) {a n : Nat} {i : Int32} {g : Int64 → Option (α × PH)} (hk : kd a = (16, n)) (d : decode cc pc = .ok (.laload, 1)) (k : ∀ v, SWo QQ p l e R s m args below meth c cells slots nL D cA ad A (pc + 1) (L) (.long v :: st) (h) (g v)) : SWo QQ p l e R s m args below meth c cells slots nL D cA ad A (pc) (L) (.int i :: .ref a :: st) (h) (ldL h a n i g) := by
  intro r h' e1 H locs ls hP hS hl
  by_cases hx : 0 ≤ i.toInt ∧ i.toInt < (n : Int)
  · unfold ldL at e1; rw [if_pos hx] at e1
    exact va_lald X.1 X.2.1 X.2.2.2.2.2.1 hP a 3 (by rw [wd_get (kc_lt2 hk (by decide)), en_longs hk]) rfl (ix_in hx) d (k _ r h' e1 H locs ls hP hS hl)
  · unfold ldL at e1; rw [if_neg hx] at e1; cases e1
theorem so_iast (X : Cx p s m args c own cc nL D cA ad A) {a n : Nat} {i : Int32} {x : Int32} {g : PH → Option (α × PH)} (hk : kd a = (13, n)) (d : decode cc pc = .ok (.iastore, 1)) (k : ∀ h1, SWo QQ p l e R s m args below meth c cells slots nL D cA ad A (pc + 1) (L) (st) (h1) (g h1)) : SWo QQ p l e R s m args below meth c cells slots nL D cA ad A (pc) (L) (.int x :: .int i :: .ref a :: st) (h) (stI h a n i (x) g) := by
  intro r h' e1 H locs ls hP hS hl
  by_cases hx : 0 ≤ i.toInt ∧ i.toInt < (n : Int)
  · unfold stI at e1; rw [if_pos hx] at e1
    refine va_iast X.1 X.2.1 X.2.2.2.2.2.1 hP (wd_D X.2.2.2.2.2.2.1 X.2.2.2.2.2.2.2.1) hS a 0 (by rw [wd_get (kc_lt2 hk (by decide)), en_ints hk (by decide) (by decide)]) rfl (ix_in hx) d (fun H1 locs1 hP1 _ hS1 => ?_)
    rw [wd_set (h' := pI h a i.toNatClampNeg (x)) (by rw [en_ints hk (by decide) (by decide), upd_pI]) pI_oth] at hP1
    exact k _ r h' e1 H1 locs1 ls hP1 hS1 hl
  · unfold stI at e1; rw [if_neg hx] at e1; cases e1
theorem so_bast (X : Cx p s m args c own cc nL D cA ad A) {a n : Nat} {i : Int32} {x : Int32} {g : PH → Option (α × PH)} (hk : kd a = (14, n)) (d : decode cc pc = .ok (.bastore, 1)) (k : ∀ h1, SWo QQ p l e R s m args below meth c cells slots nL D cA ad A (pc + 1) (L) (st) (h1) (g h1)) : SWo QQ p l e R s m args below meth c cells slots nL D cA ad A (pc) (L) (.int x :: .int i :: .ref a :: st) (h) (stI h a n i (vp_nar .byte x) g) := by
  intro r h' e1 H locs ls hP hS hl
  by_cases hx : 0 ≤ i.toInt ∧ i.toInt < (n : Int)
  · unfold stI at e1; rw [if_pos hx] at e1
    refine va_bast X.1 X.2.1 X.2.2.2.2.2.1 hP (wd_D X.2.2.2.2.2.2.1 X.2.2.2.2.2.2.2.1) hS a 1 (by rw [wd_get (kc_lt2 hk (by decide)), en_ints hk (by decide) (by decide)]) rfl (ix_in hx) d (fun H1 locs1 hP1 _ hS1 => ?_)
    rw [wd_set (h' := pI h a i.toNatClampNeg (vp_nar .byte x)) (by rw [en_ints hk (by decide) (by decide), upd_pI]) pI_oth] at hP1
    exact k _ r h' e1 H1 locs1 ls hP1 hS1 hl
  · unfold stI at e1; rw [if_neg hx] at e1; cases e1
theorem so_zast (X : Cx p s m args c own cc nL D cA ad A) {a n : Nat} {i : Int32} {x : Int32} {g : PH → Option (α × PH)} (hk : kd a = (15, n)) (d : decode cc pc = .ok (.bastore, 1)) (k : ∀ h1, SWo QQ p l e R s m args below meth c cells slots nL D cA ad A (pc + 1) (L) (st) (h1) (g h1)) : SWo QQ p l e R s m args below meth c cells slots nL D cA ad A (pc) (L) (.int x :: .int i :: .ref a :: st) (h) (stI h a n i (vp_nar .boolean x) g) := by
  intro r h' e1 H locs ls hP hS hl
  by_cases hx : 0 ≤ i.toInt ∧ i.toInt < (n : Int)
  · unfold stI at e1; rw [if_pos hx] at e1
    refine va_zast X.1 X.2.1 X.2.2.2.2.2.1 hP (wd_D X.2.2.2.2.2.2.1 X.2.2.2.2.2.2.2.1) hS a 2 (by rw [wd_get (kc_lt2 hk (by decide)), en_ints hk (by decide) (by decide)]) rfl (ix_in hx) d (fun H1 locs1 hP1 _ hS1 => ?_)
    rw [wd_set (h' := pI h a i.toNatClampNeg (vp_nar .boolean x)) (by rw [en_ints hk (by decide) (by decide), upd_pI]) pI_oth] at hP1
    exact k _ r h' e1 H1 locs1 ls hP1 hS1 hl
  · unfold stI at e1; rw [if_neg hx] at e1; cases e1
theorem so_last (X : Cx p s m args c own cc nL D cA ad A) {a n : Nat} {i : Int32} {x : Int64} {g : PH → Option (α × PH)} (hk : kd a = (16, n)) (d : decode cc pc = .ok (.lastore, 1)) (k : ∀ h1, SWo QQ p l e R s m args below meth c cells slots nL D cA ad A (pc + 1) (L) (st) (h1) (g h1)) : SWo QQ p l e R s m args below meth c cells slots nL D cA ad A (pc) (L) (.long x :: .int i :: .ref a :: st) (h) (stL h a n i (x) g) := by
  intro r h' e1 H locs ls hP hS hl
  by_cases hx : 0 ≤ i.toInt ∧ i.toInt < (n : Int)
  · unfold stL at e1; rw [if_pos hx] at e1
    refine va_last X.1 X.2.1 X.2.2.2.2.2.1 hP (wd_D X.2.2.2.2.2.2.1 X.2.2.2.2.2.2.2.1) hS a 3 (by rw [wd_get (kc_lt2 hk (by decide)), en_longs hk]) rfl (ix_in hx) d (fun H1 locs1 hP1 _ hS1 => ?_)
    rw [wd_set (h' := pL h a i.toNatClampNeg (x)) (by rw [en_longs hk, upd_pL]) pL_oth] at hP1
    exact k _ r h' e1 H1 locs1 ls hP1 hS1 hl
  · unfold stL at e1; rw [if_neg hx] at e1; cases e1
theorem so_aald (X : Cx p s m args c own cc nL D cA ad A) {a n c0 : Nat} {i : Int32} {g : Nat → Option (α × PH)} {ty : FieldType} (hk : kd a = (c0, n)) (h16 : 16 < c0) (h99 : c0 < 22) (t0 : Nat) (ht : ∀ cA : Nat → ClassId, (tyl cA)[t0]? = some (cA c0, ty)) (hty : ty.isReference = true) (d : decode cc pc = .ok (.aaload, 1)) (k : ∀ j, j < n → SWo QQ p l e R s m args below meth c cells slots nL D cA ad A (pc + 1) (L) (.ref (rt a j) :: st) (h) (g (rt a j))) : SWo QQ p l e R s m args below meth c cells slots nL D cA ad A (pc) (L) (.int i :: .ref a :: st) (h) (ldR a n i g) := by
  intro r h' e1 H locs ls hP hS hl
  by_cases hx : 0 ≤ i.toInt ∧ i.toInt < (n : Int)
  · unfold ldR at e1; rw [if_pos hx] at e1
    have hlt : i.toNatClampNeg < n := by have := ix_in hx; exact Nat.not_le.mp fun q => this (Or.inr q)
    have he := hP a _ (by rw [wd_get (kc_lt2 hk h99), en_refs hk h16 h99])
    exact W.aald (v := .ref (ad (rt a i.toNatClampNeg))) (ty := ty) X.1 X.2.1 he ((X.2.2.2.2.2.1.2 t0 _ (ht cA)).1 n (fun j => va_rf (some (ad (rt a j))))) hty (fun q => by cases q) (by show ¬ (i < 0 ∨ (arrV _ _ _).slots.size ≤ _); rw [arrV_size]; exact ix_in hx) (by show (arrV _ _ _).slots[_]? = _; rw [arrV_read _ _ hlt]; rfl) rfl rfl d (k _ hlt r h' e1 H locs ls hP hS hl)
  · unfold ldR at e1; rw [if_neg hx] at e1; cases e1
theorem so_pick (X : Cx p s m args c own cc nL D cA ad A) (ks : List Nat) (hL : lv_pick L ks = L') (k : SWo QQ p l e R s m args below meth c cells slots nL D cA ad A (pc) (L') (st) (h) (o)) : SWo QQ p l e R s m args below meth c cells slots nL D cA ad A (pc) (L) (st) (h) (o) :=
  fun r h' e1 H locs ls hP hS hl => k r h' e1 H locs ls hP hS (lv_sub hl ks (by rw [← hL]; simp [lv_pick, List.map_filterMap]))
end SO

abbrev RF : Type := Nat → Nat → Option Nat
def rU (Q : RF) (i j v : Nat) : RF := fun a k => if a = i ∧ k = j then some v else Q a k
def rM (Q : RF) (i N : Nat) : RF := fun a k => if a = i ∧ k < N then some (i + 1 + k) else Q a k
def fvR (ad : Nat → Nat) (h : PH) (Q : RF) (i j t : Nat) : Value := match t with
  | 0 => .int (h.1 i j)
  | 1 => .long (h.2 i j)
  | _ => va_rf ((Q i j).map ad)
def flR (ad : Nat → Nat) (h : PH) (Q : RF) (i : Nat) (ts : List Nat) : List Value := (List.range ts.length).map (fun j => fvR ad h Q i j (ts.getD j 0))
theorem flR_get {ad : Nat → Nat} {h : PH} {Q : RF} {i k : Nat} {ts : List Nat} (hk : k < ts.length) : (flR ad h Q i ts)[k]? = some (fvR ad h Q i k (ts.getD k 0)) := by
  simp [flR, hk]
theorem flR_len {ad : Nat → Nat} {h : PH} {Q : RF} {i : Nat} {ts : List Nat} : (flR ad h Q i ts).length = ts.length := by simp [flR]
def enkR (cA : Nat → ClassId) (ad : Nat → Nat) (h : PH) (Q : RF) (i : Nat) (k : Nat × Nat) : va_E :=
  if k.1 < 13 then .inr (k.1, flR ad h Q i (ft k.1))
  else if k.1 < 16 then .inl (cA k.1, k.2, .inl (h.1 i))
  else if k.1 = 16 then .inl (cA k.1, k.2, .inr (.inl (h.2 i)))
  else if k.1 = 22 then .inl (cA 16, k.2, .inr (.inl (h.2 i)))
  else .inl (cA k.1, k.2, .inr (.inr (.inr (.inr (fun j => (Q i j).map ad)))))
def enR (cA : Nat → ClassId) (ad : Nat → Nat) (h : PH) (Q : RF) (i : Nat) : va_E := enkR cA ad h Q i (kd i)
abbrev adb (b : Nat) : Nat → Nat := fun i => b + i
def wdR (b n : Nat) (cA : Nat → ClassId) (h : PH) (Q : RF) : va_W := (List.range n).map (fun i => (b + i, enR cA (adb b) h Q i))
def WN (D : va_G) (cA : Nat → ClassId) (b n : Nat) (h : PH) (Q : RF) (H : Heap) : Prop := H.size = b + n ∧ va_P D vwCl (wdR b n cA h Q) H
def Ab (b : Nat) : Nat → Prop := fun q => b ≤ q
theorem wdR_get {b n : Nat} {cA : Nat → ClassId} {h : PH} {Q : RF} {i : Nat} (hi : i < n) : (wdR b n cA h Q)[i]? = some (b + i, enR cA (adb b) h Q i) := by
  simp [wdR, hi]
theorem wdR_lt {b n : Nat} {cA : Nat → ClassId} {h : PH} {Q : RF} {i : Nat} {q : Nat × va_E} (hq : (wdR b n cA h Q)[i]? = some q) : i < n ∧ q = (b + i, enR cA (adb b) h Q i) := by
  have hl : i < (wdR b n cA h Q).length := (List.getElem?_eq_some_iff.mp hq).1
  have hi : i < n := by simpa [wdR] using hl
  exact ⟨hi, (Option.some.inj (hq.symm.trans (wdR_get hi)))⟩
theorem wdR_D {b n : Nat} {cA : Nat → ClassId} {h : PH} {Q : RF} : va_D (Ab b) (wdR b n cA h Q) := by
  refine ⟨fun i j p q hp hq e => ?_, fun k q hq => ?_⟩
  · obtain ⟨a1, rfl⟩ := wdR_lt hp
    obtain ⟨a2, rfl⟩ := wdR_lt hq
    have e : b + i = b + j := e
    omega
  · obtain ⟨a1, rfl⟩ := wdR_lt hq
    exact Nat.le_add_right _ _
theorem wdR_set {b n : Nat} {cA : Nat → ClassId} {h h' : PH} {Q Q' : RF} {i : Nat} {e : va_E} (he : enR cA (adb b) h' Q' i = e) (ho : ∀ a, a ≠ i → enR cA (adb b) h' Q' a = enR cA (adb b) h Q a) : (wdR b n cA h Q).set i (b + i, e) = wdR b n cA h' Q' := by
  apply List.ext_getElem?
  intro k
  by_cases hk : k < n
  · by_cases hki : k = i
    · subst hki
      rw [List.getElem?_set_self (by simp [wdR, hk]), wdR_get hk, he]
    · rw [List.getElem?_set_ne (Ne.symm hki), wdR_get hk, wdR_get hk, ho k hki]
  · have h1 : ((wdR b n cA h Q).set i (b + i, e))[k]? = none := by
      rw [List.getElem?_eq_none_iff]; simp [wdR]; omega
    have h2 : (wdR b n cA h' Q')[k]? = none := by
      rw [List.getElem?_eq_none_iff]; simp [wdR]; omega
    rw [h1, h2]
theorem wdR_push {b n : Nat} {cA : Nat → ClassId} {h : PH} {Q : RF} : wdR b (n + 1) cA h Q = wdR b n cA h Q ++ [(b + n, enR cA (adb b) h Q n)] := by
  simp [wdR, List.range_succ]
theorem fvR_other {ad : Nat → Nat} {h h' : PH} {Q Q' : RF} {a j t : Nat} (h1 : h'.1 a j = h.1 a j) (h2 : h'.2 a j = h.2 a j) (h3 : Q' a j = Q a j) : fvR ad h' Q' a j t = fvR ad h Q a j t := by
  unfold fvR
  split <;> simp [h1, h2, h3]
theorem enR_other {cA : Nat → ClassId} {ad : Nat → Nat} {h h' : PH} {Q Q' : RF} {a : Nat} (h1 : ∀ j, h'.1 a j = h.1 a j) (h2 : ∀ j, h'.2 a j = h.2 a j) (h3 : ∀ j, Q' a j = Q a j) : enR cA ad h' Q' a = enR cA ad h Q a := by
  have e1 : h'.1 a = h.1 a := funext h1
  have e2 : h'.2 a = h.2 a := funext h2
  unfold enR enkR
  rw [e1, e2]
  have e3 : flR ad h' Q' a (ft (kd a).1) = flR ad h Q a (ft (kd a).1) := by
    unfold flR
    apply List.map_congr_left
    intro j _
    exact fvR_other (h1 j) (h2 j) (h3 j)
  have e4 : (fun j => (Q' a j).map ad) = fun j => (Q a j).map ad := funext fun j => by rw [h3 j]
  rw [e3, e4]
theorem enR_obj {cA : Nat → ClassId} {ad : Nat → Nat} {h : PH} {Q : RF} {i c : Nat} (hk : (kd i).1 = c) (hc : c < 13) : enR cA ad h Q i = .inr (c, flR ad h Q i (ft c)) := by
  subst hk
  unfold enR enkR
  rw [if_pos hc]
theorem enR_ints {cA : Nat → ClassId} {ad : Nat → Nat} {h : PH} {Q : RF} {i c n : Nat} (hk : kd i = (c, n)) (h1 : ¬ c < 13) (h2 : c < 16) : enR cA ad h Q i = .inl (cA c, n, .inl (h.1 i)) := by
  unfold enR enkR
  rw [hk, if_neg h1, if_pos h2]
theorem enR_longs {cA : Nat → ClassId} {ad : Nat → Nat} {h : PH} {Q : RF} {i n : Nat} (hk : kd i = (16, n)) : enR cA ad h Q i = .inl (cA 16, n, .inr (.inl (h.2 i))) := by
  unfold enR enkR
  rw [hk]
  rfl
theorem enR_outk {cA : Nat → ClassId} {ad : Nat → Nat} {h : PH} {Q : RF} {i n : Nat} (hk : kd i = (22, n)) : enR cA ad h Q i = .inl (cA 16, n, .inr (.inl (h.2 i))) := by
  unfold enR enkR
  rw [hk]
  rfl
theorem enR_refs {cA : Nat → ClassId} {ad : Nat → Nat} {h : PH} {Q : RF} {i c n : Nat} (hk : kd i = (c, n)) (h1 : 16 < c) (h2 : c < 22) : enR cA ad h Q i = .inl (cA c, n, .inr (.inr (.inr (.inr (fun j => (Q i j).map ad))))) := by
  unfold enR enkR
  rw [hk, if_neg (by show ¬ c < 13; omega), if_neg (by show ¬ c < 16; omega), if_neg (by show ¬ c = 16; omega), if_neg (by show ¬ c = 22; omega)]
theorem flR_pI {ad : Nat → Nat} {h : PH} {Q : RF} {i k : Nat} {v : Int32} {ts : List Nat} (ht : ts.getD k 0 = 0) : (flR ad h Q i ts).set k (.int v) = flR ad (pI h i k v) Q i ts := by
  apply List.ext_getElem?
  intro j
  by_cases hj : j < ts.length
  · by_cases hjk : j = k
    · subst hjk
      rw [List.getElem?_set_self (by rw [flR_len]; exact hj), flR_get hj, ht]
      simp [fvR, pI]
    · rw [List.getElem?_set_ne (Ne.symm hjk), flR_get hj, flR_get hj]
      have e9 : fvR ad (pI h i k v) Q i j (ts.getD j 0) = fvR ad h Q i j (ts.getD j 0) := fvR_other (by simp [pI, hjk]) rfl rfl
      rw [e9]
  · rw [List.getElem?_eq_none_iff.mpr (by simp [flR]; omega), List.getElem?_eq_none_iff.mpr (by simp [flR]; omega)]
theorem flR_rU {ad : Nat → Nat} {h : PH} {Q : RF} {i k v : Nat} {ts : List Nat} (ht : ts.getD k 0 = 2) : (flR ad h Q i ts).set k (.ref (ad v)) = flR ad h (rU Q i k v) i ts := by
  apply List.ext_getElem?
  intro j
  by_cases hj : j < ts.length
  · by_cases hjk : j = k
    · subst hjk
      rw [List.getElem?_set_self (by rw [flR_len]; exact hj), flR_get hj, ht]
      simp [fvR, rU, va_rf]
    · rw [List.getElem?_set_ne (Ne.symm hjk), flR_get hj, flR_get hj]
      have e9 : fvR ad h (rU Q i k v) i j (ts.getD j 0) = fvR ad h Q i j (ts.getD j 0) := fvR_other rfl rfl (by simp [rU, hjk])
      rw [e9]
  · rw [List.getElem?_eq_none_iff.mpr (by simp [flR]; omega), List.getElem?_eq_none_iff.mpr (by simp [flR]; omega)]
/-- what is not made yet holds nothing -/
def ZZ (n : Nat) (h : PH) (Q : RF) : Prop := ∀ i, n ≤ i → ∀ j, h.1 i j = 0 ∧ h.2 i j = 0 ∧ Q i j = none
theorem ZZ.up {n m : Nat} {h : PH} {Q : RF} (z : ZZ n h Q) (hm : n ≤ m) : ZZ m h Q := fun i hi => z i (Nat.le_trans hm hi)
theorem ZZ_pI {n : Nat} {h : PH} {Q : RF} {a j : Nat} {x : Int32} (z : ZZ n h Q) (ha : a < n) : ZZ n (pI h a j x) Q := fun i hi k => by
  have e : i ≠ a := by omega
  have := z i hi k
  simpa [pI, e] using this
theorem ZZ_rU {n : Nat} {h : PH} {Q : RF} {a j v : Nat} (z : ZZ n h Q) (ha : a < n) : ZZ n h (rU Q a j v) := fun i hi k => by
  have e : i ≠ a := by omega
  have := z i hi k
  simpa [rU, e] using this
theorem ZZ_rM {n : Nat} {h : PH} {Q : RF} {a N : Nat} (z : ZZ n h Q) (ha : a < n) : ZZ n h (rM Q a N) := fun i hi k => by
  have e : i ≠ a := by omega
  have := z i hi k
  simpa [rM, e] using this
def nnL : List (Nat × MethodName) := [(19, ⟨"RainWishes$Sky", "<init>", "()V"⟩), (38, ⟨"RainWishes$Book", "<init>", "()V"⟩), (88, ⟨"RainWishes$Holding", "<init>", "()V"⟩), (99, ⟨"RainWishes$Tray", "<init>", "()V"⟩)]
def aoL : List FieldType := [.array .int, .array .long, .object "RainWishes$Tray", .object "RainWishes$Sky", .object "RainWishes$Book"]
def va_AOT (ty : FieldType) (U : State) : Prop := (Cond.arrayOver ty).before #[] U = true
theorem va_AOT.use {ty : FieldType} {A : Array Value} {U : State} (h : va_AOT ty U) : (Cond.arrayOver ty).before A U = true := h
theorem va_AOT.of {ty : FieldType} {A : Array Value} {U : State} (h : (Cond.arrayOver ty).before A U = true) : va_AOT ty U := h
theorem va_AOT.moved {ty : FieldType} {u U : State} (hvm : u.vm.Alike U.vm) (h : va_AOT ty u) : va_AOT ty U := by
  have e := Cond.arrayOver_setVmC (args := #[]) hvm ty
  exact (show (Cond.arrayOver ty).before #[] (u.setVm U.vm) = true from e.trans h)
def adx (b : Nat) (st : Nat → Nat) : Nat → Nat := fun i => if i < 178 then b + i else st i
def OO (b : Nat) (U : State) (H : Heap) : Prop := (∀ q ∈ nnL, va_Nw (.methodLinkNest "RainWishes" q.1 q.2 "RainWishes") U) ∧ (∀ ty ∈ aoL, va_AOT ty U) ∧ ∃ st : Nat → Nat, RO (adx b st) (Ab b) U H
theorem OO.same {b : Nat} {U V : State} {H : Heap} (h : OO b U H) (hv : V.vm = U.vm) : OO b V H :=
  ⟨fun q hq => va_Nw.same rfl hv.symm (h.1 q hq), fun ty hty => va_AOT.moved (by rw [hv]; exact Vm.Alike.refl _) (h.2.1 ty hty), h.2.2.elim fun st z => ⟨st, z.same hv⟩⟩
theorem OO.step {b : Nat} {s U : State} {H : Heap} {locs : List Loc} (h : OO b s s.heap) (hS : va_S (Ab b) s.heap H locs) (hW : s.WarmedH U.vm) : OO b U H :=
  ⟨fun q hq => va_Nw.warmM hW (h.1 q hq), fun ty hty => va_AOT.moved hW.alike (h.2.1 ty hty), h.2.2.elim fun st z => ⟨st, z.step hS (fun _ q => q) hW⟩⟩
def Cc (p : Program) (s : State) (m : MethodId) (args : Array Value) (c : Code) (own : String) (cc : ByteArray) (nL : Nat) (D : va_G) (cA : Nat → ClassId) (b : Nat) : Prop :=
  p.tables.exec = Jvm.exec ∧ c.code = cc ∧ c.maxLocals = nL ∧ s.vm.findClass own = some m.cls ∧ (∀ w ∈ WSG, w.before args s = true) ∧ va_K D vwCl (tyl cA) s ∧ b ≤ s.heap.size ∧ OO b s s.heap
def SWc (QQ : State → Prop) (p : Program) (l : Launch) (e : Env) (R : Room) (s : State) (m : MethodId) (args : Array Value) (below : List Frame) (meth : Method) (c : Code) (cells slots nL : Nat) (D : va_G) (cA : Nat → ClassId) (b : Nat) (pc : Nat) (L : List (Nat × Value)) (st : List Value) (n : Nat) (Q : RF) (h : PH) : Prop :=
  ZZ n h Q → ∀ (H : Heap) (locs : List Loc) (ls : Array Slot), WN D cA b n h Q H → va_S (Ab b) s.heap H locs → lv_has ls nL (L.map (tq (adb b))) → W p l e R s m args below meth c H locs cells slots QQ (F0 m pc ls (st.map (tv (adb b))))
section SCs
variable {p : Program} {l : Launch} {e : Env} {R : Room} {s : State} {m : MethodId} {args : Array Value} {below : List Frame} {meth : Method} {c : Code} {cells slots nL : Nat} {D : va_G} {cA : Nat → ClassId} {b : Nat} {own : String} {cc : ByteArray} {pc tgt n : Nat} {L L' : List (Nat × Value)} {st : List Value} {h : PH} {Q : RF} {QQ : State → Prop}
theorem sc_iconst (X : Cc p s m args c own cc nL D cA b) {z : Int} {v : Int32} (d : decode cc pc = .ok (.iconst z, 1)) (hv : Int32.ofInt z = v) (k : SWc QQ p l e R s m args below meth c cells slots nL D cA b (pc + 1) (L) (.int v :: st) (n) (Q) (h)) : SWc QQ p l e R s m args below meth c cells slots nL D cA b (pc) (L) (st) (n) (Q) (h) :=
  fun hZ H locs ls hN hS hl => lv_iconst X.1 X.2.1 d hv (k hZ H locs ls hN hS hl)
theorem sc_bipush (X : Cc p s m args c own cc nL D cA b) {z : Int} {v : Int32} (d : decode cc pc = .ok (.bipush z, 2)) (hv : (Int8.ofInt z).toInt32 = v) (k : SWc QQ p l e R s m args below meth c cells slots nL D cA b (pc + 2) (L) (.int v :: st) (n) (Q) (h)) : SWc QQ p l e R s m args below meth c cells slots nL D cA b (pc) (L) (st) (n) (Q) (h) :=
  fun hZ H locs ls hN hS hl => lv_bipush X.1 X.2.1 d hv (k hZ H locs ls hN hS hl)
theorem sc_sipush (X : Cc p s m args c own cc nL D cA b) {z : Int} {v : Int32} (d : decode cc pc = .ok (.sipush z, 3)) (hv : (Int16.ofInt z).toInt32 = v) (k : SWc QQ p l e R s m args below meth c cells slots nL D cA b (pc + 3) (L) (.int v :: st) (n) (Q) (h)) : SWc QQ p l e R s m args below meth c cells slots nL D cA b (pc) (L) (st) (n) (Q) (h) :=
  fun hZ H locs ls hN hS hl => lv_sipush X.1 X.2.1 d hv (k hZ H locs ls hN hS hl)
theorem sc_ldc (X : Cc p s m args c own cc nL D cA b) {ix : Nat} {v : Int32} (hc : Cond.constant own ix v ∈ WSG) (d : decode cc pc = .ok (.ldc ix, 2)) (k : SWc QQ p l e R s m args below meth c cells slots nL D cA b (pc + 2) (L) (.int v :: st) (n) (Q) (h)) : SWc QQ p l e R s m args below meth c cells slots nL D cA b (pc) (L) (st) (n) (Q) (h) :=
  fun hZ H locs ls hN hS hl => lv_ldc X.1 X.2.1 X.2.2.2.1 (X.2.2.2.2.1 _ hc) d (k hZ H locs ls hN hS hl)
theorem sc_iload_n (X : Cc p s m args c own cc nL D cA b) {k4 : Fin 4} {i : Nat} {x : Int32} (q : Nat) (d : decode cc pc = .ok (.iload_n k4, 1)) (hi : (k4 : Nat) = i) (hL : L[q]? = some (i, .int x)) (k : SWc QQ p l e R s m args below meth c cells slots nL D cA b (pc + 1) (L) (.int x :: st) (n) (Q) (h)) : SWc QQ p l e R s m args below meth c cells slots nL D cA b (pc) (L) (st) (n) (Q) (h) :=
  fun hZ H locs ls hN hS hl => lv_iload_n X.1 X.2.1 d hi (lv_at (v := .int x) hl q (by rw [List.getElem?_map, hL]; rfl)) (k hZ H locs ls hN hS hl)
theorem sc_aload_n (X : Cc p s m args c own cc nL D cA b) {k4 : Fin 4} {i : Nat} {x : Nat} (q : Nat) (d : decode cc pc = .ok (.aload_n k4, 1)) (hi : (k4 : Nat) = i) (hL : L[q]? = some (i, .ref x)) (k : SWc QQ p l e R s m args below meth c cells slots nL D cA b (pc + 1) (L) (.ref x :: st) (n) (Q) (h)) : SWc QQ p l e R s m args below meth c cells slots nL D cA b (pc) (L) (st) (n) (Q) (h) :=
  fun hZ H locs ls hN hS hl => lv_aload_n X.1 X.2.1 d hi (lv_at (v := .ref (b + x)) hl q (by rw [List.getElem?_map, hL]; rfl)) (k hZ H locs ls hN hS hl)
theorem sc_istore_n (X : Cc p s m args c own cc nL D cA b) {k4 : Fin 4} {i : Nat} {x : Int32} (d : decode cc pc = .ok (.istore_n k4, 1)) (hi : (k4 : Nat) = i) (hn : i < nL) (hL : lset L i (.int x) = L') (k : SWc QQ p l e R s m args below meth c cells slots nL D cA b (pc + 1) (L') (st) (n) (Q) (h)) : SWc QQ p l e R s m args below meth c cells slots nL D cA b (pc) (L) (.int x :: st) (n) (Q) (h) :=
  fun hZ H locs ls hN hS hl => lv_istore_n X.1 X.2.1 d hi hl hn (lv' := L'.map (tq (adb b))) (by rw [← hL]; exact lset_map (v := .int x)) (fun ls' hl' => k hZ H locs ls' hN hS hl')
theorem sc_astore_n (X : Cc p s m args c own cc nL D cA b) {k4 : Fin 4} {i : Nat} {x : Nat} (d : decode cc pc = .ok (.astore_n k4, 1)) (hi : (k4 : Nat) = i) (hn : i < nL) (hL : lset L i (.ref x) = L') (k : SWc QQ p l e R s m args below meth c cells slots nL D cA b (pc + 1) (L') (st) (n) (Q) (h)) : SWc QQ p l e R s m args below meth c cells slots nL D cA b (pc) (L) (.ref x :: st) (n) (Q) (h) :=
  fun hZ H locs ls hN hS hl => lv_astore_n X.1 X.2.1 d hi hl hn (lv' := L'.map (tq (adb b))) (by rw [← hL]; exact lset_map (v := .ref x)) (fun ls' hl' => k hZ H locs ls' hN hS hl')
theorem sc_iinc (X : Cc p s m args c own cc nL D cA b) {i : Nat} {z : Int} {x v : Int32} (q : Nat) (d : decode cc pc = .ok (.iinc i z, 3)) (hq : L[q]? = some (i, .int x)) (hv : x + Int32.ofInt z = v) (hn : i < nL) (hL : lset L i (.int v) = L') (k : SWc QQ p l e R s m args below meth c cells slots nL D cA b (pc + 3) (L') (st) (n) (Q) (h)) : SWc QQ p l e R s m args below meth c cells slots nL D cA b (pc) (L) (st) (n) (Q) (h) :=
  fun hZ H locs ls hN hS hl => lv_iinc (k := q) X.1 X.2.1 d hl (by rw [List.getElem?_map, hq]; rfl) hv hn (lv' := L'.map (tq (adb b))) (by rw [← hL]; exact lset_map (v := .int v)) (fun ls' hl' => k hZ H locs ls' hN hS hl')
theorem sc_dup (X : Cc p s m args c own cc nL D cA b) {va : Value} (d : decode cc pc = .ok (.dup, 1)) (h1 : va.category = 1) (k : SWc QQ p l e R s m args below meth c cells slots nL D cA b (pc + 1) (L) (va :: va :: st) (n) (Q) (h)) : SWc QQ p l e R s m args below meth c cells slots nL D cA b (pc) (L) (va :: st) (n) (Q) (h) :=
  fun hZ H locs ls hN hS hl => lv_dup X.1 X.2.1 d (by rw [tv_cat]; exact h1) (k hZ H locs ls hN hS hl)
theorem sc_goto (X : Cc p s m args c own cc nL D cA b) {off : Int} (d : decode cc pc = .ok (.goto off, 3)) (ht : (pc : Int) + off = (tgt : Int)) (k : SWc QQ p l e R s m args below meth c cells slots nL D cA b (tgt) (L) (st) (n) (Q) (h)) : SWc QQ p l e R s m args below meth c cells slots nL D cA b (pc) (L) (st) (n) (Q) (h) :=
  fun hZ H locs ls hN hS hl => lv_goto X.1 X.2.1 d ht (k hZ H locs ls hN hS hl)
theorem sc_geT (X : Cc p s m args c own cc nL D cA b) {x y : Int32} {off : Int} (d : decode cc pc = .ok (.if_icmp .ge off, 3)) (ht : (pc : Int) + off = (tgt : Int)) (hc : y ≤ x) (k : SWc QQ p l e R s m args below meth c cells slots nL D cA b (tgt) (L) (st) (n) (Q) (h)) : SWc QQ p l e R s m args below meth c cells slots nL D cA b (pc) (L) (.int y :: .int x :: st) (n) (Q) (h) :=
  fun hZ H locs ls hN hS hl => lv_icmp_ge X.1 X.2.1 d ht (fun _ => (k hZ H locs ls hN hS hl)) (fun hn => absurd hc hn)
theorem sc_geF (X : Cc p s m args c own cc nL D cA b) {x y : Int32} {off : Int} (d : decode cc pc = .ok (.if_icmp .ge off, 3)) (ht : (pc : Int) + off = (tgt : Int)) (hc : ¬ y ≤ x) (k : SWc QQ p l e R s m args below meth c cells slots nL D cA b (pc + 3) (L) (st) (n) (Q) (h)) : SWc QQ p l e R s m args below meth c cells slots nL D cA b (pc) (L) (.int y :: .int x :: st) (n) (Q) (h) :=
  fun hZ H locs ls hN hS hl => lv_icmp_ge X.1 X.2.1 d ht (fun hn => absurd hn hc) (fun _ => (k hZ H locs ls hN hS hl))
theorem sc_pick (X : Cc p s m args c own cc nL D cA b) (ks : List Nat) (hL : lv_pick L ks = L') (k : SWc QQ p l e R s m args below meth c cells slots nL D cA b (pc) (L') (st) (n) (Q) (h)) : SWc QQ p l e R s m args below meth c cells slots nL D cA b (pc) (L) (st) (n) (Q) (h) :=
  fun hZ H locs ls hN hS hl => k hZ H locs ls hN hS (lv_sub hl ks (by rw [← hL]; simp [lv_pick, List.map_filterMap]))
theorem sc_widen {c1 s1 : Nat} (h1 : cells ≤ c1) (h2 : slots ≤ s1) (k : SWc QQ p l e R s m args below meth c c1 s1 nL D cA b (pc) (L) (st) (n) (Q) (h)) : SWc QQ p l e R s m args below meth c cells slots nL D cA b (pc) (L) (st) (n) (Q) (h) :=
  fun hZ H locs ls hN hS hl => W.widen h1 h2 (k hZ H locs ls hN hS hl)
theorem sc_objInit (X : Cc p s m args c own cc nL D cA b) {idx i : Nat} (w1 : Cond.methodLink own idx Lib.objectInit ∈ WSG) (w2 : Cond.instanceMethod Lib.objectInit ∈ WSG) (w3 : Cond.code Lib.objectInit ⟨#[0xb1]⟩ 1 none ∈ WSG) (d : decode cc pc = .ok (.invokespecial idx, 3)) (hf : 1 ≤ R.frames) (hlo : (st.map fun v => v.category).sum + 12 ≤ R.locals) (k : SWc QQ p l e R s m args below meth c cells slots nL D cA b (pc + 3) (L) (st) (n) (Q) (h)) : SWc QQ p l e R s m args below meth c cells slots nL D cA b (pc) (L) (.ref i :: st) (n) (Q) (h) :=
  fun hZ H locs ls hN hS hl => W.objInit X.1 X.2.1 X.2.2.2.1 (X.2.2.2.2.1 _ w1) (X.2.2.2.2.1 _ w2) (X.2.2.2.2.1 _ w3) rfl (hl.1.trans X.2.2.1.symm) rfl d hf (by show 2 * 0 + _ + 12 ≤ _; rw [cat_tv]; omega) (k hZ H locs ls hN hS hl)
theorem W_bound {H : Heap} {locs : List Loc} {g : JFrame} (k : H.size ≤ s.heap.size + cells → W p l e R s m args below meth c H locs cells slots QQ g) : W p l e R s m args below meth c H locs cells slots QQ g := fun T hT X => k (by rw [← hT]; exact X.same.2.2.1) T hT X
theorem WN_of {H : Heap} (hP : va_P D vwCl (wdR b n cA h Q) H) (hn : 0 < n) (hz : H.size ≤ b + n) : WN D cA b n h Q H := by
  have h1 := (hP (n - 1) _ (wdR_get (by omega))).lt
  have h1 : b + (n - 1) < H.size := h1
  exact ⟨by omega, hP⟩
theorem WN_grow {H H1 : Heap} (hN : WN D cA b n h Q H) (hz : H1.size = H.size + 1) (ho : ∀ q, q < H.size → H1[q]? = H[q]?) (he : va_at D vwCl (b + n, enR cA (adb b) h Q n) H1) : WN D cA b (n + 1) h Q H1 := by
  refine ⟨by rw [hz, hN.1]; omega, ?_⟩
  rw [wdR_push]
  refine (hN.2.kept (fun k q hq => ho q.1 ((hN.2 k q hq).lt))).app (fun k q hq => ?_)
  have hk : k < 1 := (List.getElem?_eq_some_iff.mp hq).1
  rw [show k = 0 by omega] at hq
  cases hq
  exact he
theorem vaS_grow {H0 H H1 : Heap} {locs : List Loc} (hS : va_S (Ab b) H0 H locs) (hz : H.size ≤ H1.size) (ho : ∀ q, q < H.size → H1[q]? = H[q]?) : va_S (Ab b) H0 H1 locs :=
  ⟨Nat.le_trans hS.1 hz, fun x h1 h2 => (ho x (Nat.lt_of_lt_of_le h1 hS.1)).trans (hS.2.1 x h1 h2), hS.2.2⟩
def DV (ci N : Nat) (ty : Nat → FieldType) : Prop := ∀ j, j < N → j < (ft ci).length ∧ (((ft ci).getD j 0 = 0 ∧ defaultValue (ty j) = .int 0) ∨ ((ft ci).getD j 0 = 1 ∧ defaultValue (ty j) = .long 0) ∨ ((ft ci).getD j 0 = 2 ∧ defaultValue (ty j) = .null))
theorem dv_of {ci N : Nat} {ty : Nat → FieldType} (hd : DV ci N ty) {ad : Nat → Nat} {i : Nat} (hz : ∀ j, h.1 i j = 0 ∧ h.2 i j = 0 ∧ Q i j = none) (j : Nat) (hj : j < N) : defaultValue (ty j) = vp_V (flR ad h Q i (ft ci)) j := by
  obtain ⟨h1, h2⟩ := hd j hj
  unfold vp_V
  rw [List.getD_eq_getElem?_getD, flR_get h1]
  obtain ⟨z1, z2, z3⟩ := hz j
  rcases h2 with ⟨e1, e2⟩ | ⟨e1, e2⟩ | ⟨e1, e2⟩ <;> rw [e1, e2] <;> simp [fvR, z1, z2, z3, va_rf]
theorem mo_outer (c : ClassId) (N h0 : Nat) : ∀ i : Nat, Jvm.Free.Multi.outerC c N h0 i = arrV c N (fun j => va_rf (if j < i then some (h0 + 1 + j) else none))
  | 0 => by
    show ({ cls := c, slots := Array.replicate N .null, vm := .none } : Cell) = _
    rw [arrV_new]
    exact congrArg (arrV c N) (funext fun j => by simp [va_rf])
  | i + 1 => by
    show (Jvm.Free.Multi.outerC c N h0 i).setSlot i (.ref (h0 + 1 + i)) = _
    rw [mo_outer c N h0 i, arrV_store]
    refine congrArg (arrV c N) (funext fun j => ?_)
    by_cases e : j = i
    · subst e
      simp [updV, va_rf]
    · by_cases h : j < i
      · simp [updV, e, h, Nat.lt_succ_of_lt h]
      · simp [updV, e, h, show ¬ j < i + 1 by omega]
theorem sc_new (X : Cc p s m args c own cc nL D cA b) {ci N ix : Nat} {C : String} {T : u_T} {ty : Nat → FieldType} (hin : ∀ w ∈ u_ws C T N, w ∈ WSG) (hcl : vwCl[ci]? = some (C, T, N)) (hty : ∀ k, k < N → parseFieldDescriptor (T k).2.2.1 = some (ty k)) (hdv : DV ci N ty) (hci : ci < 13) (w1 : Cond.classLink own ix C ∈ WSG) (w2 : Cond.instantiable C N ∈ WSG) (w3 : Cond.initialized C ∈ WSG) (hk : (kd n).1 = ci) (hcells : cells + 1 ≤ R.cells) (hslots : slots + N ≤ R.slots) (d : decode cc pc = .ok (.new ix, 3)) (k : SWc QQ p l e R s m args below meth c (cells + 1) (slots + N) nL D cA b (pc + 3) (L) (.ref n :: st) (n + 1) (Q) (h)) : SWc QQ p l e R s m args below meth c cells slots nL D cA b (pc) (L) (st) (n) (Q) (h) := by
  intro hZ H locs ls hN hS hl
  have hKn := X.2.2.2.2.2.1.1 ci _ hcl
  refine W.newcK X.1 X.2.1 X.2.2.2.1 (X.2.2.2.2.1 _ w1) (X.2.2.2.2.1 _ w2) (X.2.2.2.2.1 _ w3) rfl d hcells hslots hKn.2.1 hN.1 fun H1 kC hkC e1 z1 o1 => ?_
  have z2 : H1.size = H.size + 1 := by rw [z1, hN.1]
  have o2 : ∀ q, q < H.size → H1[q]? = H[q]? := fun q hq => o1 q (by rw [← hN.1]; exact hq)
  refine k (hZ.up (Nat.le_succ n)) H1 locs ls (WN_grow hN z2 o2 ?_) (vaS_grow hS (by omega) o2) hl
  rw [enR_obj hk hci]
  exact ⟨_, hcl, (u_born ty X.2.2.2.2.1 hin hKn hkC e1 hty).to (fun j hj => dv_of hdv (hZ n (Nat.le_refl n)) j hj)⟩
theorem sc_newI (X : Cc p s m args c own cc nL D cA b) {v : Int32} {N : Nat} (w1 : Cond.arrayClass .int ∈ WSG) (hk : kd n = (13, N)) (hn : ¬ v < 0) (hv : v.toNatClampNeg = N) (hbytes : N * componentBytes .int ≤ 536870912) (hcells : cells + 1 ≤ R.cells) (hslots : slots + N ≤ R.slots) (d : decode cc pc = .ok (.newarray .int, 2)) (k : SWc QQ p l e R s m args below meth c (cells + 1) (slots + N) nL D cA b (pc + 2) (L) (.ref n :: st) (n + 1) (Q) (h)) : SWc QQ p l e R s m args below meth c cells slots nL D cA b (pc) (L) (.int v :: st) (n) (Q) (h) := by
  intro hZ H locs ls hN hS hl
  refine va_newaK (atype := .int) X.1 X.2.1 (X.2.2.2.2.1 _ w1) rfl d rfl hn hv hbytes hcells hslots hN.1 fun H1 cA1 e1 z1 o1 hAr hNm => ?_
  have z2 : H1.size = H.size + 1 := by rw [z1, hN.1]
  have o2 : ∀ q, q < H.size → H1[q]? = H[q]? := fun q hq => o1 q (by rw [← hN.1]; exact hq)
  refine k (hZ.up (Nat.le_succ n)) H1 locs ls (WN_grow hN z2 o2 ?_) (vaS_grow hS (by omega) o2) hl
  have hc : cA1 = cA 13 := Option.some.inj (hNm.symm.trans ((X.2.2.2.2.2.1.2 0 (cA 13, .int) rfl).2))
  have hf : h.1 n = fun _ => (0 : Int32) := funext fun j => (hZ n (Nat.le_refl n) j).1
  rw [enR_ints hk (by decide) (by decide), hf, ← hc]
  exact e1
theorem sc_newB (X : Cc p s m args c own cc nL D cA b) {v : Int32} {N : Nat} (w1 : Cond.arrayClass .byte ∈ WSG) (hk : kd n = (14, N)) (hn : ¬ v < 0) (hv : v.toNatClampNeg = N) (hbytes : N * componentBytes .byte ≤ 536870912) (hcells : cells + 1 ≤ R.cells) (hslots : slots + N ≤ R.slots) (d : decode cc pc = .ok (.newarray .byte, 2)) (k : SWc QQ p l e R s m args below meth c (cells + 1) (slots + N) nL D cA b (pc + 2) (L) (.ref n :: st) (n + 1) (Q) (h)) : SWc QQ p l e R s m args below meth c cells slots nL D cA b (pc) (L) (.int v :: st) (n) (Q) (h) := by
  intro hZ H locs ls hN hS hl
  refine va_newaK (atype := .byte) X.1 X.2.1 (X.2.2.2.2.1 _ w1) rfl d rfl hn hv hbytes hcells hslots hN.1 fun H1 cA1 e1 z1 o1 hAr hNm => ?_
  have z2 : H1.size = H.size + 1 := by rw [z1, hN.1]
  have o2 : ∀ q, q < H.size → H1[q]? = H[q]? := fun q hq => o1 q (by rw [← hN.1]; exact hq)
  refine k (hZ.up (Nat.le_succ n)) H1 locs ls (WN_grow hN z2 o2 ?_) (vaS_grow hS (by omega) o2) hl
  have hc : cA1 = cA 14 := Option.some.inj (hNm.symm.trans ((X.2.2.2.2.2.1.2 1 (cA 14, .byte) rfl).2))
  have hf : h.1 n = fun _ => (0 : Int32) := funext fun j => (hZ n (Nat.le_refl n) j).1
  rw [enR_ints hk (by decide) (by decide), hf, ← hc]
  exact e1
theorem sc_newZ (X : Cc p s m args c own cc nL D cA b) {v : Int32} {N : Nat} (w1 : Cond.arrayClass .boolean ∈ WSG) (hk : kd n = (15, N)) (hn : ¬ v < 0) (hv : v.toNatClampNeg = N) (hbytes : N * componentBytes .boolean ≤ 536870912) (hcells : cells + 1 ≤ R.cells) (hslots : slots + N ≤ R.slots) (d : decode cc pc = .ok (.newarray .boolean, 2)) (k : SWc QQ p l e R s m args below meth c (cells + 1) (slots + N) nL D cA b (pc + 2) (L) (.ref n :: st) (n + 1) (Q) (h)) : SWc QQ p l e R s m args below meth c cells slots nL D cA b (pc) (L) (.int v :: st) (n) (Q) (h) := by
  intro hZ H locs ls hN hS hl
  refine va_newaK (atype := .boolean) X.1 X.2.1 (X.2.2.2.2.1 _ w1) rfl d rfl hn hv hbytes hcells hslots hN.1 fun H1 cA1 e1 z1 o1 hAr hNm => ?_
  have z2 : H1.size = H.size + 1 := by rw [z1, hN.1]
  have o2 : ∀ q, q < H.size → H1[q]? = H[q]? := fun q hq => o1 q (by rw [← hN.1]; exact hq)
  refine k (hZ.up (Nat.le_succ n)) H1 locs ls (WN_grow hN z2 o2 ?_) (vaS_grow hS (by omega) o2) hl
  have hc : cA1 = cA 15 := Option.some.inj (hNm.symm.trans ((X.2.2.2.2.2.1.2 2 (cA 15, .boolean) rfl).2))
  have hf : h.1 n = fun _ => (0 : Int32) := funext fun j => (hZ n (Nat.le_refl n) j).1
  rw [enR_ints hk (by decide) (by decide), hf, ← hc]
  exact e1
theorem sc_newL (X : Cc p s m args c own cc nL D cA b) {v : Int32} {N : Nat} (w1 : Cond.arrayClass .long ∈ WSG) (hk : kd n = (16, N)) (hn : ¬ v < 0) (hv : v.toNatClampNeg = N) (hbytes : N * componentBytes .long ≤ 536870912) (hcells : cells + 1 ≤ R.cells) (hslots : slots + N ≤ R.slots) (d : decode cc pc = .ok (.newarray .long, 2)) (k : SWc QQ p l e R s m args below meth c (cells + 1) (slots + N) nL D cA b (pc + 2) (L) (.ref n :: st) (n + 1) (Q) (h)) : SWc QQ p l e R s m args below meth c cells slots nL D cA b (pc) (L) (.int v :: st) (n) (Q) (h) := by
  intro hZ H locs ls hN hS hl
  refine va_newaK (atype := .long) X.1 X.2.1 (X.2.2.2.2.1 _ w1) rfl d rfl hn hv hbytes hcells hslots hN.1 fun H1 cA1 e1 z1 o1 hAr hNm => ?_
  have z2 : H1.size = H.size + 1 := by rw [z1, hN.1]
  have o2 : ∀ q, q < H.size → H1[q]? = H[q]? := fun q hq => o1 q (by rw [← hN.1]; exact hq)
  refine k (hZ.up (Nat.le_succ n)) H1 locs ls (WN_grow hN z2 o2 ?_) (vaS_grow hS (by omega) o2) hl
  have hc : cA1 = cA 16 := Option.some.inj (hNm.symm.trans ((X.2.2.2.2.2.1.2 3 (cA 16, .long) rfl).2))
  have hf : h.2 n = fun _ => (0 : Int64) := funext fun j => (hZ n (Nat.le_refl n) j).2.1
  rw [enR_longs hk, hf, ← hc]
  exact e1
theorem sc_newO (X : Cc p s m args c own cc nL D cA b) {v : Int32} {N : Nat} (w1 : Cond.arrayClass .long ∈ WSG) (hk : kd n = (22, N)) (hn : ¬ v < 0) (hv : v.toNatClampNeg = N) (hbytes : N * componentBytes .long ≤ 536870912) (hcells : cells + 1 ≤ R.cells) (hslots : slots + N ≤ R.slots) (d : decode cc pc = .ok (.newarray .long, 2)) (k : SWc QQ p l e R s m args below meth c (cells + 1) (slots + N) nL D cA b (pc + 2) (L) (.ref n :: st) (n + 1) (Q) (h)) : SWc QQ p l e R s m args below meth c cells slots nL D cA b (pc) (L) (.int v :: st) (n) (Q) (h) := by
  intro hZ H locs ls hN hS hl
  refine va_newaK (atype := .long) X.1 X.2.1 (X.2.2.2.2.1 _ w1) rfl d rfl hn hv hbytes hcells hslots hN.1 fun H1 cA1 e1 z1 o1 hAr hNm => ?_
  have z2 : H1.size = H.size + 1 := by rw [z1, hN.1]
  have o2 : ∀ q, q < H.size → H1[q]? = H[q]? := fun q hq => o1 q (by rw [← hN.1]; exact hq)
  refine k (hZ.up (Nat.le_succ n)) H1 locs ls (WN_grow hN z2 o2 ?_) (vaS_grow hS (by omega) o2) hl
  have hc : cA1 = cA 16 := Option.some.inj (hNm.symm.trans ((X.2.2.2.2.2.1.2 3 (cA 16, .long) rfl).2))
  have hf : h.2 n = fun _ => (0 : Int64) := funext fun j => (hZ n (Nat.le_refl n) j).2.1
  rw [enR_outk hk, hf, ← hc]
  exact e1
theorem sc_newR (X : Cc p s m args c own cc nL D cA b) {ix c0 t0 N : Nat} {v : Int32} {C : String} (w1 : Cond.classLink own ix C ∈ WSG) (hao : .object C ∈ aoL) (h16 : 16 < c0) (h22 : c0 < 22) (ht : ∀ cA : Nat → ClassId, (tyl cA)[t0]? = some (cA c0, .object C)) (hk : kd n = (c0, N)) (hn : ¬ v < 0) (hv : v.toNatClampNeg = N) (hbytes : N * 4 ≤ 536870912) (hcells : cells + 1 ≤ R.cells) (hslots : slots + N ≤ R.slots) (d : decode cc pc = .ok (.anewarray ix, 3)) (k : SWc QQ p l e R s m args below meth c (cells + 1) (slots + N) nL D cA b (pc + 3) (L) (.ref n :: st) (n + 1) (Q) (h)) : SWc QQ p l e R s m args below meth c cells slots nL D cA b (pc) (L) (.int v :: st) (n) (Q) (h) := by
  intro hZ H locs ls hN hS hl
  subst hv
  refine W.anew X.1 X.2.1 X.2.2.2.1 (X.2.2.2.2.1 _ w1) (X.2.2.2.2.2.2.2.2.1 _ hao).use rfl d rfl hn hbytes hcells hslots fun cA1 kA comp f1 f2 f3 f4 => ?_
  generalize hH1 : H.push ({ cls := cA1, slots := Array.replicate v.toNatClampNeg .null, vm := .none } : Cell) = H1
  have z2 : H1.size = H.size + 1 := by rw [← hH1, Array.size_push]
  have e1 : H1[H.size]? = some (arrV cA1 v.toNatClampNeg (fun _ => .null)) := by rw [← hH1, Array.getElem?_push_size, ← arrV_new]
  have o2 : ∀ q : Nat, q < H.size → H1[q]? = H[q]? := fun q hq => by rw [← hH1, Array.getElem?_push, if_neg (Nat.ne_of_lt hq)]
  have hz : H.size = b + n := hN.1
  have hgoal : W p l e R s m args below meth c H1 locs (cells + 1) (slots + v.toNatClampNeg) QQ (F0 m (pc + 3) ls ((.ref n :: st).map (tv (adb b)))) := by
    refine k (hZ.up (Nat.le_succ n)) H1 locs ls (WN_grow hN z2 o2 ?_) (vaS_grow hS (by omega) o2) hl
    obtain ⟨kA2, comp2, -, -, -, f5⟩ := (X.2.2.2.2.2.1.2 t0 _ (ht cA)).2
    have hc : cA1 = cA c0 := Option.some.inj (f1.symm.trans f5)
    have hf : (fun j => (Q n j).map (adb b)) = fun _ => none := funext fun j => by rw [(hZ n (Nat.le_refl n) j).2.2]; rfl
    rw [enR_refs hk h16 h22, hf, ← hc]
    show H1[b + n]? = some (vp_cell _ _)
    rw [vp_cell_q, ← hz]
    exact e1
  rw [show H.size = b + n from hz]
  exact hgoal
theorem sc_mnaI (X : Cc p s m args c own cc nL D cA b) {ix N M : Nat} {v u : Int32} (w1 : Cond.classLink own ix ("[" ++ (FieldType.array .int).toString) ∈ WSG) (hao : .array .int ∈ aoL) (wa : Cond.arrayClass .int ∈ WSG) (hk : kd n = (17, N)) (hkj : ∀ j, j < N → kd (n + 1 + j) = (13, M)) (hn : ¬ v < 0) (hv : v.toNatClampNeg = N) (hn2 : ¬ u < 0) (hu : u.toNatClampNeg = M) (hb1 : N * 4 ≤ 536870912) (hb2 : M * componentBytes .int ≤ 536870912) (hb3 : M ≤ 536870912) (hcells : cells + (1 + N) ≤ R.cells) (hslots : slots + (N + N * M) ≤ R.slots) (d : decode cc pc = .ok (.multianewarray ix 2, 4)) (k : SWc QQ p l e R s m args below meth c (cells + 1 + N) (slots + N + N * M) nL D cA b (pc + 4) (L) (.ref n :: st) (n + 1 + N) (rM Q n N) (h)) : SWc QQ p l e R s m args below meth c cells slots nL D cA b (pc) (L) (.int u :: .int v :: st) (n) (Q) (h) := by
  subst hv
  subst hu
  intro hZ H locs ls hN hS hl T hT Xs
  obtain ⟨vm₁, cA1, comp, -, fA, fC, hO, -, X', step⟩ := Stand.multianewarray2F Xs X.1 X.2.2.2.1 (X.2.2.2.2.1 _ w1) (X.2.2.2.2.2.2.2.2.1 _ hao).use (X.2.2.2.2.1 _ wa) (g := F0 m pc ls (.int u :: .int v :: st.map (tv (adb b)))) rfl (by rw [X.2.1]; exact d) rfl hn hn2 hb1 hb2 hb3 rfl rfl hcells hslots
  generalize hF : Jvm.Free.Multi.fill (T.setVm vm₁) cA1 comp v.toNatClampNeg u.toNatClampNeg (defaultValue .int) v.toNatClampNeg = F at X' step
  have hTh : (T.setVm vm₁).heap = H := hT
  obtain ⟨f1, f2, -, -⟩ := Jvm.Free.Multi.fill_facts (T.setVm vm₁) cA1 comp v.toNatClampNeg u.toNatClampNeg (defaultValue .int) v.toNatClampNeg
  rw [hF, hTh] at f1 f2
  have hold : ∀ x : Nat, x < H.size → F.heap[x]? = H[x]? := fun x hx => by
    have := Jvm.Free.Multi.fill_old (T.setVm vm₁) cA1 comp v.toNatClampNeg u.toNatClampNeg (defaultValue .int) (a := x) (by rw [hTh]; exact hx) v.toNatClampNeg
    rw [hF, hTh] at this
    exact this
  have hrow : ∀ j : Nat, j < v.toNatClampNeg → F.heap[H.size + 1 + j]? = some (Jvm.Free.Multi.innerC comp u.toNatClampNeg (defaultValue .int)) := fun j hj => by
    have := Jvm.Free.Multi.fill_inner (T.setVm vm₁) cA1 comp v.toNatClampNeg u.toNatClampNeg (defaultValue .int) v.toNatClampNeg j hj
    rw [hF, hTh] at this
    exact this
  rw [mo_outer] at f2
  have hz : H.size = b + n := hN.1
  have hc1 : comp = cA 13 := Option.some.inj (fC.symm.trans ((X.2.2.2.2.2.1.2 0 (cA 13, .int) rfl).2))
  have hc2 : cA1 = cA 17 := Option.some.inj (fA.symm.trans ((X.2.2.2.2.2.1.2 4 (cA 17, .array .int) rfl).2))
  subst hc1
  subst hc2
  have hZ' : ZZ (n + 1 + v.toNatClampNeg) h (rM Q n v.toNatClampNeg) := ZZ_rM (hZ.up (by omega)) (by omega)
  have hfz : F.heap.size = b + (n + 1 + v.toNatClampNeg) := by rw [f1, hz]; omega
  have hWN : WN D cA b (n + 1 + v.toNatClampNeg) h (rM Q n v.toNatClampNeg) F.heap := by
    refine ⟨hfz, fun i q hq => ?_⟩
    obtain ⟨hi, rfl⟩ := wdR_lt hq
    by_cases hi1 : i < n
    · have e9 : enR cA (adb b) h (rM Q n v.toNatClampNeg) i = enR cA (adb b) h Q i := enR_other (fun _ => rfl) (fun _ => rfl) (fun j => by simp [rM, show i ≠ n by omega])
      rw [e9]
      have hq0 := hN.2 i _ (wdR_get hi1)
      exact hq0.kept (hold _ hq0.lt)
    · by_cases hi2 : i = n
      · subst hi2
        rw [enR_refs hk (by decide) (by decide)]
        show F.heap[b + i]? = some (vp_cell _ _)
        rw [vp_cell_q, ← hz, f2]
        refine congrArg (fun z => some (arrV _ _ z)) (funext fun j => ?_)
        by_cases hj : j < v.toNatClampNeg
        · rw [if_pos hj]
          have e9 : rM Q i v.toNatClampNeg i j = some (i + 1 + j) := if_pos ⟨rfl, hj⟩
          rw [e9]
          show Value.ref (H.size + 1 + j) = Value.ref (b + (i + 1 + j))
          rw [hz, show b + i + 1 + j = b + (i + 1 + j) by omega]
        · simp [rM, hj, va_rf, (hZ i (Nat.le_refl i) j).2.2]
      · obtain ⟨j, rfl⟩ : ∃ j, i = n + 1 + j := ⟨i - (n + 1), by omega⟩
        have hj : j < v.toNatClampNeg := by omega
        have hf : h.1 (n + 1 + j) = fun _ => 0 := funext fun k => (hZ (n + 1 + j) (by omega) k).1
        rw [enR_ints (hkj j hj) (by decide) (by decide), hf]
        show F.heap[b + (n + 1 + j)]? = some (vp_cell _ _)
        rw [show b + (n + 1 + j) = H.size + 1 + j by omega, hrow j hj]
        simp only [vp_cell, Jvm.Free.Multi.innerC]
        rw [arrV_new]
        rfl
  have hS1 : va_S (Ab b) s.heap F.heap locs := vaS_grow hS (by omega) hold
  obtain ⟨t, a1, b1⟩ := k hZ' F.heap locs ls hWN hS1 hl F rfl X'
  refine ⟨t, step t ?_, b1⟩
  rw [hT, hz]
  exact a1
theorem sc_mnaL (X : Cc p s m args c own cc nL D cA b) {ix N M : Nat} {v u : Int32} (w1 : Cond.classLink own ix ("[" ++ (FieldType.array .long).toString) ∈ WSG) (hao : .array .long ∈ aoL) (wa : Cond.arrayClass .long ∈ WSG) (hk : kd n = (18, N)) (hkj : ∀ j, j < N → kd (n + 1 + j) = (16, M)) (hn : ¬ v < 0) (hv : v.toNatClampNeg = N) (hn2 : ¬ u < 0) (hu : u.toNatClampNeg = M) (hb1 : N * 4 ≤ 536870912) (hb2 : M * componentBytes .long ≤ 536870912) (hb3 : M ≤ 536870912) (hcells : cells + (1 + N) ≤ R.cells) (hslots : slots + (N + N * M) ≤ R.slots) (d : decode cc pc = .ok (.multianewarray ix 2, 4)) (k : SWc QQ p l e R s m args below meth c (cells + 1 + N) (slots + N + N * M) nL D cA b (pc + 4) (L) (.ref n :: st) (n + 1 + N) (rM Q n N) (h)) : SWc QQ p l e R s m args below meth c cells slots nL D cA b (pc) (L) (.int u :: .int v :: st) (n) (Q) (h) := by
  subst hv
  subst hu
  intro hZ H locs ls hN hS hl T hT Xs
  obtain ⟨vm₁, cA1, comp, -, fA, fC, hO, -, X', step⟩ := Stand.multianewarray2F Xs X.1 X.2.2.2.1 (X.2.2.2.2.1 _ w1) (X.2.2.2.2.2.2.2.2.1 _ hao).use (X.2.2.2.2.1 _ wa) (g := F0 m pc ls (.int u :: .int v :: st.map (tv (adb b)))) rfl (by rw [X.2.1]; exact d) rfl hn hn2 hb1 hb2 hb3 rfl rfl hcells hslots
  generalize hF : Jvm.Free.Multi.fill (T.setVm vm₁) cA1 comp v.toNatClampNeg u.toNatClampNeg (defaultValue .long) v.toNatClampNeg = F at X' step
  have hTh : (T.setVm vm₁).heap = H := hT
  obtain ⟨f1, f2, -, -⟩ := Jvm.Free.Multi.fill_facts (T.setVm vm₁) cA1 comp v.toNatClampNeg u.toNatClampNeg (defaultValue .long) v.toNatClampNeg
  rw [hF, hTh] at f1 f2
  have hold : ∀ x : Nat, x < H.size → F.heap[x]? = H[x]? := fun x hx => by
    have := Jvm.Free.Multi.fill_old (T.setVm vm₁) cA1 comp v.toNatClampNeg u.toNatClampNeg (defaultValue .long) (a := x) (by rw [hTh]; exact hx) v.toNatClampNeg
    rw [hF, hTh] at this
    exact this
  have hrow : ∀ j : Nat, j < v.toNatClampNeg → F.heap[H.size + 1 + j]? = some (Jvm.Free.Multi.innerC comp u.toNatClampNeg (defaultValue .long)) := fun j hj => by
    have := Jvm.Free.Multi.fill_inner (T.setVm vm₁) cA1 comp v.toNatClampNeg u.toNatClampNeg (defaultValue .long) v.toNatClampNeg j hj
    rw [hF, hTh] at this
    exact this
  rw [mo_outer] at f2
  have hz : H.size = b + n := hN.1
  have hc1 : comp = cA 16 := Option.some.inj (fC.symm.trans ((X.2.2.2.2.2.1.2 3 (cA 16, .long) rfl).2))
  have hc2 : cA1 = cA 18 := Option.some.inj (fA.symm.trans ((X.2.2.2.2.2.1.2 5 (cA 18, .array .long) rfl).2))
  subst hc1
  subst hc2
  have hZ' : ZZ (n + 1 + v.toNatClampNeg) h (rM Q n v.toNatClampNeg) := ZZ_rM (hZ.up (by omega)) (by omega)
  have hfz : F.heap.size = b + (n + 1 + v.toNatClampNeg) := by rw [f1, hz]; omega
  have hWN : WN D cA b (n + 1 + v.toNatClampNeg) h (rM Q n v.toNatClampNeg) F.heap := by
    refine ⟨hfz, fun i q hq => ?_⟩
    obtain ⟨hi, rfl⟩ := wdR_lt hq
    by_cases hi1 : i < n
    · have e9 : enR cA (adb b) h (rM Q n v.toNatClampNeg) i = enR cA (adb b) h Q i := enR_other (fun _ => rfl) (fun _ => rfl) (fun j => by simp [rM, show i ≠ n by omega])
      rw [e9]
      have hq0 := hN.2 i _ (wdR_get hi1)
      exact hq0.kept (hold _ hq0.lt)
    · by_cases hi2 : i = n
      · subst hi2
        rw [enR_refs hk (by decide) (by decide)]
        show F.heap[b + i]? = some (vp_cell _ _)
        rw [vp_cell_q, ← hz, f2]
        refine congrArg (fun z => some (arrV _ _ z)) (funext fun j => ?_)
        by_cases hj : j < v.toNatClampNeg
        · rw [if_pos hj]
          have e9 : rM Q i v.toNatClampNeg i j = some (i + 1 + j) := if_pos ⟨rfl, hj⟩
          rw [e9]
          show Value.ref (H.size + 1 + j) = Value.ref (b + (i + 1 + j))
          rw [hz, show b + i + 1 + j = b + (i + 1 + j) by omega]
        · simp [rM, hj, va_rf, (hZ i (Nat.le_refl i) j).2.2]
      · obtain ⟨j, rfl⟩ : ∃ j, i = n + 1 + j := ⟨i - (n + 1), by omega⟩
        have hj : j < v.toNatClampNeg := by omega
        have hf : h.2 (n + 1 + j) = fun _ => 0 := funext fun k => (hZ (n + 1 + j) (by omega) k).2.1
        rw [enR_longs (hkj j hj), hf]
        show F.heap[b + (n + 1 + j)]? = some (vp_cell _ _)
        rw [show b + (n + 1 + j) = H.size + 1 + j by omega, hrow j hj]
        simp only [vp_cell, Jvm.Free.Multi.innerC]
        rw [arrV_new]
        rfl
  have hS1 : va_S (Ab b) s.heap F.heap locs := vaS_grow hS (by omega) hold
  obtain ⟨t, a1, b1⟩ := k hZ' F.heap locs ls hWN hS1 hl F rfl X'
  refine ⟨t, step t ?_, b1⟩
  rw [hT, hz]
  exact a1
theorem sc_getR (X : Cc p s m args c own cc nL D cA b) {ci j N ix a : Nat} {C : String} {T : u_T} (F : FF ci j C T N 2) (hlink : Cond.fieldLink own ix (T j).1 (T j).2.1 (T j).2.2.1 ∈ WSG) (hk : (kd a).1 = ci) (ha : a < n) {v : Nat} (hv : Q a j = some v) (d : decode cc pc = .ok (.getfield ix, 3)) (k : SWc QQ p l e R s m args below meth c cells slots nL D cA b (pc + 3) (L) (.ref v :: st) (n) (Q) (h)) : SWc QQ p l e R s m args below meth c cells slots nL D cA b (pc) (L) (.ref a :: st) (n) (Q) (h) := by
  intro hZ H locs ls hN hS hl
  obtain ⟨hin, hcl, hj, hjl, hft, hci⟩ := F
  refine va_get (v := .ref (b + v)) X.1 X.2.1 X.2.2.2.2.1 hin X.2.2.2.1 X.2.2.2.2.2.1 hN.2 a (by rw [wdR_get ha, enR_obj hk hci]) hcl j hj (X.2.2.2.2.1 _ hlink) (fun _ q => q) ?_ d (k hZ H locs ls hN hS hl)
  rw [flR_get hjl, hft]
  simp [fvR, hv, va_rf]
theorem sc_putI (X : Cc p s m args c own cc nL D cA b) {ci j N ix a : Nat} {C : String} {T : u_T} (F : FF ci j C T N 0) (hlink : Cond.fieldLink own ix (T j).1 (T j).2.1 (T j).2.2.1 ∈ WSG) (hk : (kd a).1 = ci) (ha : a < n) {ty0 : Nat → FieldType} (G : FT T N ty0) (hfin : (T j).2.2.2 = false) {x : Int32} (hn : narrow (ty0 j) (.int x) = .int x) (hfit : fits (ty0 j) (.int x) = true) (d : decode cc pc = .ok (.putfield ix, 3)) (hbn : s.heap.size + cells = b + n) (k : SWc QQ p l e R s m args below meth c cells slots nL D cA b (pc + 3) (L) (st) (n) (Q) (pI h a j x)) : SWc QQ p l e R s m args below meth c cells slots nL D cA b (pc) (L) (.int x :: .ref a :: st) (n) (Q) (h) := by
  intro hZ H locs ls hN hS hl
  obtain ⟨hin, hcl, hj, hjl, hft, hci⟩ := F
  refine va_put (v := .int x) X.1 X.2.1 X.2.2.2.2.1 hin ty0 G.1 G.2 X.2.2.2.1 X.2.2.2.2.2.1 hN.2 wdR_D hS a (by rw [wdR_get ha, enR_obj hk hci]) hcl j hj (X.2.2.2.2.1 _ hlink) (fun _ q => q) hfin (G.1 j hj) hn hfit (by rw [flR_len]; exact hjl) d (fun H1 locs1 hP1 _ hS1 => ?_)
  change va_P D vwCl ((wdR b n cA h Q).set a (b + a, _)) H1 at hP1
  rw [wdR_set (b := b) (n := n) (cA := cA) (h := h) (Q := Q) (i := a) (h' := pI h a j x) (Q' := Q) (by rw [enR_obj hk hci, flR_pI hft]) (fun a2 hne => enR_other (fun _ => by simp [pI, hne]) (fun _ => rfl) (fun _ => rfl))] at hP1
  exact W_bound (fun hsz => k (ZZ_pI hZ ha) H1 locs1 ls (WN_of hP1 (by omega) (by omega)) hS1 hl)
theorem sc_putR (X : Cc p s m args c own cc nL D cA b) {ci j N ix a : Nat} {C : String} {T : u_T} (F : FF ci j C T N 2) (hlink : Cond.fieldLink own ix (T j).1 (T j).2.1 (T j).2.2.1 ∈ WSG) (hk : (kd a).1 = ci) (ha : a < n) {ty0 : Nat → FieldType} (G : FT T N ty0) (hfin : (T j).2.2.2 = false) {v : Nat} (hn : ∀ z : Nat, narrow (ty0 j) (.ref z) = .ref z) (hfit : ∀ z : Nat, fits (ty0 j) (.ref z) = true) (d : decode cc pc = .ok (.putfield ix, 3)) (hbn : s.heap.size + cells = b + n) (k : SWc QQ p l e R s m args below meth c cells slots nL D cA b (pc + 3) (L) (st) (n) (rU Q a j v) (h)) : SWc QQ p l e R s m args below meth c cells slots nL D cA b (pc) (L) (.ref v :: .ref a :: st) (n) (Q) (h) := by
  intro hZ H locs ls hN hS hl
  obtain ⟨hin, hcl, hj, hjl, hft, hci⟩ := F
  refine va_put (v := .ref (b + v)) X.1 X.2.1 X.2.2.2.2.1 hin ty0 G.1 G.2 X.2.2.2.1 X.2.2.2.2.2.1 hN.2 wdR_D hS a (by rw [wdR_get ha, enR_obj hk hci]) hcl j hj (X.2.2.2.2.1 _ hlink) (fun _ q => q) hfin (G.1 j hj) (hn _) (hfit _) (by rw [flR_len]; exact hjl) d (fun H1 locs1 hP1 _ hS1 => ?_)
  change va_P D vwCl ((wdR b n cA h Q).set a (b + a, _)) H1 at hP1
  rw [wdR_set (b := b) (n := n) (cA := cA) (h := h) (Q := Q) (i := a) (h' := h) (Q' := rU Q a j v) (by rw [enR_obj hk hci, ← flR_rU hft]) (fun a2 hne => enR_other (fun _ => rfl) (fun _ => rfl) (fun _ => by simp [rU, hne]))] at hP1
  exact W_bound (fun hsz => k (ZZ_rU hZ ha) H1 locs1 ls (WN_of hP1 (by omega) (by omega)) hS1 hl)
theorem sc_putFI (X : Cc p s m args c own cc nL D cA b) {ci j N ix a : Nat} {C : String} {T : u_T} (F : FF ci j C T N 0) (hlink : Cond.fieldLink own ix (T j).1 (T j).2.1 (T j).2.2.1 ∈ WSG) (hk : (kd a).1 = ci) (ha : a < n) {ty0 : Nat → FieldType} (G : FT T N ty0) (hfin : (T j).2.2.2 = true) (hmi : meth.name = "<init>") (hdecl : (T j).1 = own) {x : Int32} (hn : narrow (ty0 j) (.int x) = .int x) (hfit : fits (ty0 j) (.int x) = true) (d : decode cc pc = .ok (.putfield ix, 3)) (hbn : s.heap.size + cells = b + n) (k : SWc QQ p l e R s m args below meth c cells slots nL D cA b (pc + 3) (L) (st) (n) (Q) (pI h a j x)) : SWc QQ p l e R s m args below meth c cells slots nL D cA b (pc) (L) (.int x :: .ref a :: st) (n) (Q) (h) := by
  intro hZ H locs ls hN hS hl
  obtain ⟨hin, hcl, hj, hjl, hft, hci⟩ := F
  refine va_putF (v := .int x) X.1 X.2.1 X.2.2.2.2.1 hin ty0 G.1 G.2 X.2.2.2.1 X.2.2.2.2.2.1 hN.2 wdR_D hS a (by rw [wdR_get ha, enR_obj hk hci]) hcl j hj (X.2.2.2.2.1 _ hlink) (fun _ q => q) hfin hmi hdecl (G.1 j hj) hn hfit (by rw [flR_len]; exact hjl) d (fun H1 locs1 hP1 _ hS1 => ?_)
  change va_P D vwCl ((wdR b n cA h Q).set a (b + a, _)) H1 at hP1
  rw [wdR_set (b := b) (n := n) (cA := cA) (h := h) (Q := Q) (i := a) (h' := pI h a j x) (Q' := Q) (by rw [enR_obj hk hci, flR_pI hft]) (fun a2 hne => enR_other (fun _ => by simp [pI, hne]) (fun _ => rfl) (fun _ => rfl))] at hP1
  exact W_bound (fun hsz => k (ZZ_pI hZ ha) H1 locs1 ls (WN_of hP1 (by omega) (by omega)) hS1 hl)
theorem sc_putFR (X : Cc p s m args c own cc nL D cA b) {ci j N ix a : Nat} {C : String} {T : u_T} (F : FF ci j C T N 2) (hlink : Cond.fieldLink own ix (T j).1 (T j).2.1 (T j).2.2.1 ∈ WSG) (hk : (kd a).1 = ci) (ha : a < n) {ty0 : Nat → FieldType} (G : FT T N ty0) (hfin : (T j).2.2.2 = true) (hmi : meth.name = "<init>") (hdecl : (T j).1 = own) {v : Nat} (hn : ∀ z : Nat, narrow (ty0 j) (.ref z) = .ref z) (hfit : ∀ z : Nat, fits (ty0 j) (.ref z) = true) (d : decode cc pc = .ok (.putfield ix, 3)) (hbn : s.heap.size + cells = b + n) (k : SWc QQ p l e R s m args below meth c cells slots nL D cA b (pc + 3) (L) (st) (n) (rU Q a j v) (h)) : SWc QQ p l e R s m args below meth c cells slots nL D cA b (pc) (L) (.ref v :: .ref a :: st) (n) (Q) (h) := by
  intro hZ H locs ls hN hS hl
  obtain ⟨hin, hcl, hj, hjl, hft, hci⟩ := F
  refine va_putF (v := .ref (b + v)) X.1 X.2.1 X.2.2.2.2.1 hin ty0 G.1 G.2 X.2.2.2.1 X.2.2.2.2.2.1 hN.2 wdR_D hS a (by rw [wdR_get ha, enR_obj hk hci]) hcl j hj (X.2.2.2.2.1 _ hlink) (fun _ q => q) hfin hmi hdecl (G.1 j hj) (hn _) (hfit _) (by rw [flR_len]; exact hjl) d (fun H1 locs1 hP1 _ hS1 => ?_)
  change va_P D vwCl ((wdR b n cA h Q).set a (b + a, _)) H1 at hP1
  rw [wdR_set (b := b) (n := n) (cA := cA) (h := h) (Q := Q) (i := a) (h' := h) (Q' := rU Q a j v) (by rw [enR_obj hk hci, ← flR_rU hft]) (fun a2 hne => enR_other (fun _ => rfl) (fun _ => rfl) (fun _ => by simp [rU, hne]))] at hP1
  exact W_bound (fun hsz => k (ZZ_rU hZ ha) H1 locs1 ls (WN_of hP1 (by omega) (by omega)) hS1 hl)
theorem sc_iast (X : Cc p s m args c own cc nL D cA b) {a N iN : Nat} {i x : Int32} (hiN : i.toNatClampNeg = iN) (hk : kd a = (13, N)) (ha : a < n) (hx : 0 ≤ i.toInt ∧ i.toInt < (N : Int)) (d : decode cc pc = .ok (.iastore, 1)) (hbn : s.heap.size + cells = b + n) (k : SWc QQ p l e R s m args below meth c cells slots nL D cA b (pc + 1) (L) (st) (n) (Q) (pI h a iN x)) : SWc QQ p l e R s m args below meth c cells slots nL D cA b (pc) (L) (.int x :: .int i :: .ref a :: st) (n) (Q) (h) := by
  subst hiN
  intro hZ H locs ls hN hS hl
  refine va_iast X.1 X.2.1 X.2.2.2.2.2.1 hN.2 wdR_D hS a 0 (by rw [wdR_get ha, enR_ints hk (by decide) (by decide)]) rfl (ix_in hx) d (fun H1 locs1 hP1 _ hS1 => ?_)
  change va_P D vwCl ((wdR b n cA h Q).set a (b + a, _)) H1 at hP1
  rw [wdR_set (b := b) (n := n) (cA := cA) (h := h) (Q := Q) (i := a) (h' := pI h a i.toNatClampNeg x) (Q' := Q) (by rw [enR_ints hk (by decide) (by decide), upd_pI]) (fun a2 hne => enR_other (fun _ => by simp [pI, hne]) (fun _ => rfl) (fun _ => rfl))] at hP1
  exact W_bound (fun hsz => k (ZZ_pI hZ ha) H1 locs1 ls (WN_of hP1 (by omega) (by omega)) hS1 hl)
theorem sc_alen (X : Cc p s m args c own cc nL D cA b) {a N : Nat} (hk : kd a = (13, N)) (ha : a < n) (d : decode cc pc = .ok (.arraylength, 1)) (k : SWc QQ p l e R s m args below meth c cells slots nL D cA b (pc + 1) (L) (.int (Int32.ofNat N) :: st) (n) (Q) (h)) : SWc QQ p l e R s m args below meth c cells slots nL D cA b (pc) (L) (.ref a :: st) (n) (Q) (h) := by
  intro hZ H locs ls hN hS hl
  exact va_alen (x := ((N, .inl (h.1 a)) : vp_A)) X.1 X.2.1 X.2.2.2.2.2.1 hN.2 a 0 (by rw [wdR_get ha, enR_ints hk (by decide) (by decide)]) rfl rfl d (k hZ H locs ls hN hS hl)
theorem sc_aast (X : Cc p s m args c own cc nL D cA b) {a N v c0 ci t0 iN : Nat} {i : Int32} {r : vw_C} (hiN : i.toNatClampNeg = iN) (hk : kd a = (c0, N)) (h16 : 16 < c0) (h22 : c0 < 22) (ha : a < n) (hkv : (kd v).1 = ci) (hci : ci < 13) (hv : v < n) (hcl : vwCl[ci]? = some r) (ht : ∀ cA : Nat → ClassId, (tyl cA)[t0]? = some (cA c0, .object r.1)) (hx : 0 ≤ i.toInt ∧ i.toInt < (N : Int)) (d : decode cc pc = .ok (.aastore, 1)) (hbn : s.heap.size + cells = b + n) (k : SWc QQ p l e R s m args below meth c cells slots nL D cA b (pc + 1) (L) (st) (n) (rU Q a iN v) (h)) : SWc QQ p l e R s m args below meth c cells slots nL D cA b (pc) (L) (.ref v :: .int i :: .ref a :: st) (n) (Q) (h) := by
  subst hiN
  intro hZ H locs ls hN hS hl
  refine va_astq X.1 X.2.1 X.2.2.2.2.2.1 hN.2 wdR_D hS a t0 v ci (by rw [wdR_get ha, enR_refs hk h16 h22]) (ht cA) (by rw [wdR_get hv, enR_obj hkv hci]) hcl (ix_in hx) d (fun H1 locs1 hP1 _ hS1 => ?_)
  change va_P D vwCl ((wdR b n cA h Q).set a (b + a, _)) H1 at hP1
  rw [wdR_set (b := b) (n := n) (cA := cA) (h := h) (Q := Q) (i := a) (h' := h) (Q' := rU Q a i.toNatClampNeg v) (by rw [enR_refs hk h16 h22]; congr; funext j; by_cases hj : j = i.toNatClampNeg <;> simp [rU, va_up, hj]) (fun a2 hne => enR_other (fun _ => rfl) (fun _ => rfl) (fun _ => by simp [rU, hne]))] at hP1
  exact W_bound (fun hsz => k (ZZ_rU hZ ha) H1 locs1 ls (WN_of hP1 (by omega) (by omega)) hS1 hl)
end SCs
def PreK (D : va_G) (cA : Nat → ClassId) (b : Nat) (As : List Value) (n : Nat) (Q : RF) (h : PH) : Array Value → State → Prop := va_Pc (As.map (tv (adb b))) (fun U => WN D cA b n h Q U.heap ∧ va_K D vwCl (tyl cA) U ∧ OO b U U.heap)
def PstK (D : va_G) (cA : Nat → ClassId) (b : Nat) (n : Nat) (Q : RF) (h : PH) : Array Value → State → Outcome → State → Prop := fun _ st oc t => oc = .returned none ∧ WN D cA b n h Q t.heap ∧ va_F (Ab b) st t
/-- a constructor (or another method that answers nothing), called where n cells are made, over h and Q: then n' are, over h' and Q' -/
def CTc (l : Launch) (y : MethodName) (bytes : ByteArray) (maxL : Nat) (rm : Room) (As : List Value) (n : Nat) (Q : RF) (h : PH) (n' : Nat) (Q' : RF) (h' : PH) (mc ms : Nat) : Prop :=
  ZZ n h Q → ZZ n' h' Q' ∧ ∀ (D : va_G) (cA : Nat → ClassId) (b : Nat), nc cA = NC → Met l y (.code y bytes maxL none :: WSG) rm (PreK D cA b As n Q h) (PstK D cA b n' Q' h') mc ms (Ab b)
theorem ctc_of {l : Launch} {y : MethodName} {bytes : ByteArray} {maxL : Nat} {rm : Room} {As : List Value} {n n' mc ms : Nat} {Q Q' : RF} {h h' : PH} (hy : plainName y.cls = true) (hlen : (lg_sl As).length ≤ maxL) (hzz : ZZ n h Q → ZZ n' h' Q')
    (body : ∀ (p : Program) (e : Env) (s : State) (m : MethodId) (args : Array Value) (below : List Frame) (meth : Method) (c : Code) (D : va_G) (cA : Nat → ClassId) (b : Nat), nc cA = NC → Cc p s m args c y.cls bytes maxL D cA b → meth.sig.returnType = none → meth.locks = false → meth.name = y.name → s.heap.size = b + n → SWc (MQ below (PstK D cA b n' Q' h') args s mc ms (Ab b)) p l e rm s m args below meth c 0 0 maxL D cA b 0 (lv_args 0 As) [] n Q h) : CTc l y bytes maxL rm As n Q h n' Q' h' mc ms := by
  intro hZ
  refine ⟨hzz hZ, fun D cA b hnc => ?_⟩
  refine Met.ofW (cc := bytes) (maxL := maxL) (ret := none) hy rfl ?_
  intro p e s m args below meth c s₁ B hml hv
  obtain ⟨rfl, hN, hK, hO⟩ := hv
  have hts := atoms_spec (ws := .code y bytes maxL none :: WSG) B.pre
  have hown : s.vm.findClass y.cls = some m.cls := findClass_of_methodNamed B.named
  have hl := lv_entry (As.map (tv (adb b))) (n := maxL) (by rw [lg_sl_tv]; exact hlen)
  rw [lg_entry_eq]
  rw [lv_args_tq] at hl
  exact body p e s m _ below meth c D cA b hnc ⟨B.exec, B.bytes, hml, hown, fun w hw => hts w (List.mem_cons_of_mem _ hw), hK, by rw [hN.1]; exact Nat.le_add_right _ _, hO⟩ B.returns B.notSynchronized (name_of_methodNamed B.named B.method).1 hN.1 hZ s.heap [] _ hN va_S.rf hl
theorem preK_blind {D : va_G} {cA : Nat → ClassId} {b n : Nat} {As : List Value} {h : PH} {Q : RF} : FrameBlind (PreK D cA b As n Q h) := fun a U g mk q => by
  obtain ⟨q0, qP, qK, qO⟩ := q
  exact ⟨q0, qP, va_K.moved (u := U) (U := U.calling g mk a) (Vm.Alike.refl U.vm) qK, qO.same (U := U) (V := U.calling g mk a) rfl⟩
section SCk
variable {p : Program} {l : Launch} {e : Env} {R : Room} {s : State} {m : MethodId} {args : Array Value} {below : List Frame} {meth : Method} {c : Code} {cells slots nL : Nat} {D : va_G} {cA : Nat → ClassId} {b : Nat} {own : String} {cc : ByteArray} {pc tgt n : Nat} {L L' : List (Nat × Value)} {st : List Value} {h : PH} {Q : RF} {QQ : State → Prop}
theorem sc_vret (X : Cc p s m args c own cc nL D cA b) (hr : meth.sig.returnType = none) (hlk : meth.locks = false) (d : decode cc pc = .ok (.return_, 1)) : SWc (MQ below (PstK D cA b n Q h) args s cells slots (Ab b)) p l e R s m args below meth c cells slots nL D cA b pc L [] n Q h := by
  intro hZ H locs ls hN hS hl
  exact W.vret X.1 X.2.1 hr (fun t ht hW => ⟨rfl, by rw [ht]; exact hN, hS.F ht⟩) hS.2.2 d hlk
theorem sc_callI (X : Cc p s m args c own cc nL D cA b) (hnc : nc cA = NC) {y : MethodName} {bytes : ByteArray} {maxL ix na n1 mc1 ms1 : Nat} {rm : Room} {As : List Value} {Q1 : RF} {h1 : PH} {a : Nat} (hM : CTc l y bytes maxL rm (.ref a :: As) n Q h n1 Q1 h1 mc1 ms1) (hw1 : Cond.methodLink own ix y ∈ WSG) (hw2 : Cond.instanceMethod y ∈ WSG) (hw4 : Cond.initialized y.cls ∈ WSG) (hw5 : Cond.code y bytes maxL none ∈ WSG) (hy1 : y.name = "<init>") (hd : y.cls ≠ "java/lang/invoke/MethodHandle" ∧ y.cls ≠ "java/lang/invoke/VarHandle" ∧ (parseMethodDescriptor y.desc).map (fun d => d.parameters.length) = some na) (hn : As.length = na) (hrc : rm.cells = mc1) (hrs : rm.slots = ms1) (hR : rm.frames + 1 ≤ R.frames ∧ 8 + (maxL + 11) + rm.locals ≤ R.locals) (hcs : cells + mc1 ≤ R.cells ∧ slots + ms1 ≤ R.slots) (hst : (st.map fun v => v.category).sum ≤ 8) (d : decode cc pc = .ok (.invokespecial ix, 3)) (k : SWc QQ p l e R s m args below meth c (cells + mc1) (slots + ms1) nL D cA b (pc + 3) (L) (st) (n1) (Q1) (h1)) {st0 : List Value} (hs0 : st0 = As.reverse ++ .ref a :: st) : SWc QQ p l e R s m args below meth c cells slots nL D cA b (pc) (L) (st0) (n) (Q) (h) := by
  subst hs0
  intro hZ H locs ls hN hS hl
  obtain ⟨hZ1, hM⟩ := hM hZ
  intro T hT XS
  obtain ⟨v, st₀, t, T', Lc, h0, X', hLc, e1', e2', ⟨hv, hN1, hF⟩, go⟩ := (va_runI (p := p) (l := l) (e := e) (R := R) (below := below) (meth := meth) (locs := locs) (cells := cells) (slots := slots) (b := b + a) (As := As.map (tv (adb b))) (rest := st.map (tv (adb b))) (g := F0 m pc ls ((As.reverse ++ .ref a :: st).map (tv (adb b)))) ⟨X.1, X.2.1, X.2.2.1, X.2.2.2.1, X.2.2.2.2.1⟩ (hM D cA b hnc) (cwI na X.2.2.2.2.1 (wsg_cons hw5) rfl hrc hrs (X.2.2.2.2.1 _ hw4) (X.2.2.2.2.1 _ hw1) (X.2.2.2.2.1 _ hw2) hy1 hd hR) ⟨preK_blind, fun U hU hW => ⟨rfl, by rw [hU]; exact hN, va_K.moved hW.alike X.2.2.2.2.2.1, by rw [hU]; exact OO.step X.2.2.2.2.2.2.2 hS hW⟩⟩ rfl (by rw [List.length_map]; exact hn) hl.1 (by show List.map _ _ = _; simp [tv]) (lv_room (by rw [cat_tv]; exact hst)) d ⟨hcs.1, hcs.2⟩) T hT XS
  cases hv
  obtain ⟨k1, k2, k3⟩ := vx_keep h0 e1' hS (fun q _ hq => hq) (fun q hq => hq) hLc hF
  obtain ⟨t2, a1, b1⟩ := k hZ1 T'.heap (locs ++ Lc) ls (by rw [e1']; exact hN1) k3 hl T' rfl X'
  exact ⟨t2, go t2 a1, b1⟩
theorem sc_callN (X : Cc p s m args c own cc nL D cA b) (hnc : nc cA = NC) {y : MethodName} {bytes : ByteArray} {maxL ix na n1 mc1 ms1 : Nat} {rm : Room} {As : List Value} {Q1 : RF} {h1 : PH} {a : Nat} (hM : CTc l y bytes maxL rm (.ref a :: As) n Q h n1 Q1 h1 mc1 ms1) (hown : "RainWishes" = own) (hw1 : (ix, y) ∈ nnL) (hw2 : Cond.instanceMethod y ∈ WSG) (hw4 : Cond.initialized y.cls ∈ WSG) (hw5 : Cond.code y bytes maxL none ∈ WSG) (hy1 : y.name = "<init>") (hd : y.cls ≠ "java/lang/invoke/MethodHandle" ∧ y.cls ≠ "java/lang/invoke/VarHandle" ∧ (parseMethodDescriptor y.desc).map (fun d => d.parameters.length) = some na) (hn : As.length = na) (hrc : rm.cells = mc1) (hrs : rm.slots = ms1) (hR : rm.frames + 1 ≤ R.frames ∧ 8 + (maxL + 11) + rm.locals ≤ R.locals) (hcs : cells + mc1 ≤ R.cells ∧ slots + ms1 ≤ R.slots) (hst : (st.map fun v => v.category).sum ≤ 8) (d : decode cc pc = .ok (.invokespecial ix, 3)) (k : SWc QQ p l e R s m args below meth c (cells + mc1) (slots + ms1) nL D cA b (pc + 3) (L) (st) (n1) (Q1) (h1)) {st0 : List Value} (hs0 : st0 = As.reverse ++ .ref a :: st) : SWc QQ p l e R s m args below meth c cells slots nL D cA b (pc) (L) (st0) (n) (Q) (h) := by
  subst hs0
  intro hZ H locs ls hN hS hl
  obtain ⟨hZ1, hM⟩ := hM hZ
  intro T hT XS
  obtain ⟨v, st₀, t, T', Lc, h0, X', hLc, e1', e2', ⟨hv, hN1, hF⟩, go⟩ := (va_runIN (p := p) (l := l) (e := e) (R := R) (below := below) (meth := meth) (locs := locs) (cells := cells) (slots := slots) (b := b + a) (As := As.map (tv (adb b))) (rest := st.map (tv (adb b))) (g := F0 m pc ls ((As.reverse ++ .ref a :: st).map (tv (adb b)))) ⟨X.1, X.2.1, X.2.2.1, X.2.2.2.1, X.2.2.2.2.1⟩ (hM D cA b hnc) (⟨va_cnB na X.2.2.2.2.1 (wsg_cons hw5) rfl hrc hrs (hown ▸ X.2.2.2.2.2.2.2.1 _ hw1) (X.2.2.2.2.1 _ hw4) hd hR, hy1, X.2.2.2.2.1 _ hw2⟩) ⟨preK_blind, fun U hU hW => ⟨rfl, by rw [hU]; exact hN, va_K.moved hW.alike X.2.2.2.2.2.1, by rw [hU]; exact OO.step X.2.2.2.2.2.2.2 hS hW⟩⟩ rfl (by rw [List.length_map]; exact hn) hl.1 (by show List.map _ _ = _; simp [tv]) (lv_room (by rw [cat_tv]; exact hst)) d ⟨hcs.1, hcs.2⟩) T hT XS
  cases hv
  obtain ⟨k1, k2, k3⟩ := vx_keep h0 e1' hS (fun q _ hq => hq) (fun q hq => hq) hLc hF
  obtain ⟨t2, a1, b1⟩ := k hZ1 T'.heap (locs ++ Lc) ls (by rw [e1']; exact hN1) k3 hl T' rfl X'
  exact ⟨t2, go t2 a1, b1⟩
theorem sc_callS (X : Cc p s m args c own cc nL D cA b) (hnc : nc cA = NC) {y : MethodName} {bytes : ByteArray} {maxL ix na n1 mc1 ms1 : Nat} {rm : Room} {As : List Value} {Q1 : RF} {h1 : PH} (hM : CTc l y bytes maxL rm As n Q h n1 Q1 h1 mc1 ms1) (hw1 : Cond.methodLink own ix y ∈ WSG) (hw2 : Cond.static y ∈ WSG) (hw4 : Cond.initialized y.cls ∈ WSG) (hw5 : Cond.code y bytes maxL none ∈ WSG) (hd : y.cls ≠ "java/lang/invoke/MethodHandle" ∧ y.cls ≠ "java/lang/invoke/VarHandle" ∧ (parseMethodDescriptor y.desc).map (fun d => d.parameters.length) = some na) (hn : As.length = na) (hrc : rm.cells = mc1) (hrs : rm.slots = ms1) (hR : rm.frames + 1 ≤ R.frames ∧ 8 + (maxL + 11) + rm.locals ≤ R.locals) (hcs : cells + mc1 ≤ R.cells ∧ slots + ms1 ≤ R.slots) (hst : (st.map fun v => v.category).sum ≤ 8) (d : decode cc pc = .ok (.invokestatic ix, 3)) (k : SWc QQ p l e R s m args below meth c (cells + mc1) (slots + ms1) nL D cA b (pc + 3) (L) (st) (n1) (Q1) (h1)) {st0 : List Value} (hs0 : st0 = As.reverse ++ st) : SWc QQ p l e R s m args below meth c cells slots nL D cA b (pc) (L) (st0) (n) (Q) (h) := by
  subst hs0
  intro hZ H locs ls hN hS hl
  obtain ⟨hZ1, hM⟩ := hM hZ
  intro T hT XS
  obtain ⟨v, st₀, t, T', Lc, h0, X', hLc, e1', e2', ⟨hv, hN1, hF⟩, go⟩ := (va_runS (p := p) (l := l) (e := e) (R := R) (below := below) (meth := meth) (locs := locs) (cells := cells) (slots := slots) (As := As.map (tv (adb b))) (rest := st.map (tv (adb b))) (g := F0 m pc ls ((As.reverse ++ st).map (tv (adb b)))) ⟨X.1, X.2.1, X.2.2.1, X.2.2.2.1, X.2.2.2.2.1⟩ (hM D cA b hnc) ⟨callB_of na X.2.2.2.2.1 (wsg_cons hw5) rfl hrc hrs (X.2.2.2.2.1 _ hw4) (X.2.2.2.2.1 _ hw1) hd hR, X.2.2.2.2.1 _ hw2⟩ ⟨preK_blind, fun U hU hW => ⟨rfl, by rw [hU]; exact hN, va_K.moved hW.alike X.2.2.2.2.2.1, by rw [hU]; exact OO.step X.2.2.2.2.2.2.2 hS hW⟩⟩ rfl (by rw [List.length_map]; exact hn) hl.1 (by show List.map _ _ = _; simp) (lv_room (by rw [cat_tv]; exact hst)) d ⟨hcs.1, hcs.2⟩) T hT XS
  cases hv
  obtain ⟨k1, k2, k3⟩ := vx_keep h0 e1' hS (fun q _ hq => hq) (fun q hq => hq) hLc hF
  obtain ⟨t2, a1, b1⟩ := k hZ1 T'.heap (locs ++ Lc) ls (by rw [e1']; exact hN1) k3 hl T' rfl X'
  exact ⟨t2, go t2 a1, b1⟩
theorem sc_callV (X : Cc p s m args c own cc nL D cA b) (hnc : nc cA = NC) {y : MethodName} {bytes : ByteArray} {maxL ix na n1 mc1 ms1 : Nat} {rm : Room} {As : List Value} {Q1 : RF} {h1 : PH} {a ci N : Nat} {C : String} {T : u_T} (hM : CTc l y bytes maxL rm (.ref a :: As) n Q h n1 Q1 h1 mc1 ms1) (hk : (kd a).1 = ci) (ha : a < n) (hci : ci < 13) (hcl : vwCl[ci]? = some (C, T, N)) (hC : y.cls = C) (hw1 : Cond.methodLink own ix y ∈ WSG) (hw2 : Cond.instanceMethod y ∈ WSG) (hw3 : Cond.selects C y y ∈ WSG) (hw4 : Cond.initialized C ∈ WSG) (hw5 : Cond.code y bytes maxL none ∈ WSG) (hd : y.cls ≠ "java/lang/invoke/MethodHandle" ∧ y.cls ≠ "java/lang/invoke/VarHandle" ∧ (parseMethodDescriptor y.desc).map (fun d => d.parameters.length) = some na) (hn : As.length = na) (hrc : rm.cells = mc1) (hrs : rm.slots = ms1) (hR : rm.frames + 1 ≤ R.frames ∧ 8 + (maxL + 11) + rm.locals ≤ R.locals) (hcs : cells + mc1 ≤ R.cells ∧ slots + ms1 ≤ R.slots) (hst : (st.map fun v => v.category).sum ≤ 8) (d : decode cc pc = .ok (.invokevirtual ix, 3)) (k : SWc QQ p l e R s m args below meth c (cells + mc1) (slots + ms1) nL D cA b (pc + 3) (L) (st) (n1) (Q1) (h1)) {st0 : List Value} (hs0 : st0 = As.reverse ++ .ref a :: st) : SWc QQ p l e R s m args below meth c cells slots nL D cA b (pc) (L) (st0) (n) (Q) (h) := by
  subst hs0
  intro hZ H locs ls hN hS hl
  have hG : GoodIn WSG (wsV own ix C y (.code y bytes maxL none :: WSG)) := by
    intro w hw
    simp only [wsV, List.mem_append, List.mem_cons, List.not_mem_nil, or_false] at hw
    rcases hw with (rfl | rfl | rfl | rfl) | rfl | hw
    · exact wsg_in hw1
    · exact wsg_in hw2
    · exact wsg_in hw3
    · exact wsg_in hw4
    · exact wsg_in hw5
    · exact wsg_in hw
  obtain ⟨hZ1, hM⟩ := hM hZ
  intro T hT XS
  obtain ⟨v, st₀, t, T', Lc, h0, X', hLc, e1', e2', ⟨hv, hN1, hF⟩, go⟩ := (va_runV (p := p) (l := l) (e := e) (R := R) (below := below) (meth := meth) (locs := locs) (cells := cells) (slots := slots) (C := C) (b := b + a) (As := As.map (tv (adb b))) (rest := st.map (tv (adb b))) (g := F0 m pc ls ((As.reverse ++ .ref a :: st).map (tv (adb b)))) ⟨X.1, X.2.1, X.2.2.1, X.2.2.2.1, X.2.2.2.2.1⟩ (hM D cA b hnc) (cwV na X.2.2.2.2.1 hG rfl hrc hrs ⟨hC, hd⟩ hR) ⟨preK_blind, va_recv X.2.2.2.2.2.1 hN.2 hcl (by rw [wdR_get ha, enR_obj hk hci]), fun U hU hW => ⟨rfl, by rw [hU]; exact hN, va_K.moved hW.alike X.2.2.2.2.2.1, by rw [hU]; exact OO.step X.2.2.2.2.2.2.2 hS hW⟩⟩ rfl (by rw [List.length_map]; exact hn) hl.1 (by show List.map _ _ = _; simp [tv]) (lv_room (by rw [cat_tv]; exact hst)) d ⟨hcs.1, hcs.2⟩) T hT XS
  cases hv
  obtain ⟨k1, k2, k3⟩ := vx_keep h0 e1' hS (fun q _ hq => hq) (fun q hq => hq) hLc hF
  obtain ⟨t2, a1, b1⟩ := k hZ1 T'.heap (locs ++ Lc) ls (by rw [e1']; exact hN1) k3 hl T' rfl X'
  exact ⟨t2, go t2 a1, b1⟩
end SCk

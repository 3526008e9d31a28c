/-! ===== lines: what they say ===== -/
abbrev Wsh : Type := Nat × Nat × Nat × Nat
abbrev LnS : Type := Nat × Nat × List Wsh × List Nat
def wz : Wsh := (0, 0, 0, 0)
def frm (V : List Wsh) (i : Nat) : Nat := if i = 0 then 0 else (V.getD (i - 1) wz).2.2.2
def mkW (V : List Wsh) : Nat := orTo V.length (fun i => decide ((V.getD i wz).2.2.1 = 1))
def stopG (n : Nat) (X : Nat → Nat) (p : Nat) : (Nat × Nat) ⊕ Nat := if tc n X p = 3 then .inr (nx n X p) else .inl (flt n X 2 p)
def wtG (n : Nat) (X : Nat → Nat) (p : Nat) : (Nat × Nat) ⊕ (Nat × Nat) := if tc n X p = 6 then num n X 1 9 (nx n X p) else .inr (p, 1)
def muP (n : Nat) (X : Nat → Nat) (p : Nat) : Nat := if tc n X p = 7 then nx n X p else p
def muV (n : Nat) (X : Nat → Nat) (p : Nat) : Nat := if tc n X p = 7 then 1 else 0
def clnG (n : Nat) (X : Nat → Nat) (p : Nat) : (Nat × Nat) ⊕ Nat := if tc n X p = 8 then .inr (nx n X p) else .inl (flt n X 2 p)
/- by whom, how weighty, whether it must be -/
def headG (n : Nat) (X : Nat → Nat) (p : Nat) : (Nat × Nat) ⊕ (Nat × Nat × Nat × Nat) :=
  if tc n X (nx n X p) = 5 then bnd (num n X 0 5 (nx n X (nx n X p))) (fun a => bnd (wtG n X a.1) (fun b => bnd (clnG n X (muP n X b.1)) (fun q => .inr (q, a.2, b.2, muV n X b.1))))
  else .inl (flt n X 2 (nx n X p))
def wishG (n : Nat) (X : Nat → Nat) (np nd p : Nat) (s : LnS) : (Nat × Nat) ⊕ (Nat × LnS) :=
  bnd (headG n X p) (fun q => bnd (rTruth n X np nd 6 q.1 s.2.2.2) (fun r => bnd (stopG n X r.1) (fun e => .inr (e, s.1, s.2.1, s.2.2.1 ++ [(q.2.1, q.2.2.1, q.2.2.2, r.2.length)], r.2))))
def lineG (n : Nat) (X : Nat → Nat) (np nd p : Nat) (s : LnS) : (Nat × Nat) ⊕ (Nat × LnS) :=
  if tc n X p = 4 then (if 10 ≤ s.2.2.1.length then .inl (flt n X 4 p) else wishG n X np nd p s)
  else if tc n X p = 9 then bnd (num n X 0 6 (nx n X p)) (fun a => bnd (stopG n X a.1) (fun e => .inr (e, a.2, s.2.1, s.2.2.1, s.2.2.2)))
  else if tc n X p = 10 then bnd (num n X 0 3 (nx n X p)) (fun a => bnd (stopG n X a.1) (fun e => .inr (e, s.1, a.2, s.2.2.1, s.2.2.2)))
  else .inl (flt n X 2 p)
set_option maxRecDepth 16384 in
theorem wd_app {V : List Wsh} {x : Wsh} {i : Nat} (hi : i < V.length) : (V ++ [x]).getD i wz = V.getD i wz := by
  rw [List.getD_eq_getElem?_getD, List.getD_eq_getElem?_getD, List.getElem?_append_left hi]
set_option maxRecDepth 16384 in
theorem wd_last {V : List Wsh} {x : Wsh} : (V ++ [x]).getD V.length wz = x := by
  rw [List.getD_eq_getElem?_getD, List.getElem?_concat_length]
  rfl
set_option maxRecDepth 16384 in
theorem mkW_app {V : List Wsh} {x : Wsh} : mkW (V ++ [x]) = mkW V ||| (if x.2.2.1 = 1 then 2 ^ V.length else 0) := by
  unfold mkW
  rw [List.length_append, List.length_singleton, orTo]
  have e : orTo V.length (fun i => decide (((V ++ [x]).getD i wz).2.2.1 = 1)) = orTo V.length (fun i => decide ((V.getD i wz).2.2.1 = 1)) := orTo_congr _ (fun i hi => by
    show decide (((V ++ [x]).getD i wz).2.2.1 = 1) = _
    rw [wd_app hi])
  rw [e, wd_last]
  by_cases c : x.2.2.1 = 1
  · simp [c]
  · simp [c]
set_option maxRecDepth 16384 in
theorem frm_app {V : List Wsh} {x : Wsh} {i : Nat} (hi : i ≤ V.length) : frm (V ++ [x]) i = frm V i := by
  unfold frm
  by_cases c : i = 0
  · rw [if_pos c, if_pos c]
  · rw [if_neg c, if_neg c, wd_app (by omega)]
set_option maxRecDepth 16384 in
theorem frm_last {V : List Wsh} {x : Wsh} : frm (V ++ [x]) (V.length + 1) = x.2.2.2 := by
  unfold frm
  rw [if_neg (by omega), Nat.add_sub_cancel, wd_last]
/-! ===== the class: a wish's head ===== -/
def FrD (h h' : PH) : Prop := eqx [8, 9, 10, 11, 12, 13, 14, 15] h h'
set_option maxRecDepth 16384 in
theorem FrD_C {h h' : PH} (f : FrC h h') : FrD h h' := eqx_mono f.1 (by decide)
def LX (n : Nat) (X : Nat → Nat) (np nd p : Nat) (C : List Nat) (h : PH) : Prop := TX n X h ∧ TC n X p h ∧ SB np nd h ∧ CC C h ∧ NF h
set_option maxRecDepth 16384 in
theorem LX.to {n : Nat} {X : Nat → Nat} {np nd p : Nat} {C : List Nat} {h h' : PH} {S : List Nat} (l : LX n X np nd p C h) (e : eqx S h h') (a : 158 ∉ S) (b : 1 ∉ S) (c : 8 ∉ S) (d : 12 ∉ S) (f : 13 ∉ S) (g : 15 ∉ S) : LX n X np nd p C h' := by
  obtain ⟨l1, l2, l3, l4, l5⟩ := l
  have e8 := (e 8 c).1
  have e13 := (e 13 f).1
  exact ⟨TX_to e a b l1, TC_to e g l2, SB_to (fun j _ => by rw [e8]) l3, CC_to e d (by rw [e8]) l4, NF_of (by rw [e13]) (by rw [e13]) l5⟩
set_option maxRecDepth 16384 in
theorem LX.adv {n : Nat} {X : Nat → Nat} {np nd p p' : Nat} {C : List Nat} {h h' : PH} (l : LX n X np nd p C h) (e : eqx [15] h h') (t : TC n X p' h') : LX n X np nd p' C h' := by
  obtain ⟨l1, l2, l3, l4, l5⟩ := l
  have e8 := (e 8 (by decide)).1
  have e13 := (e 13 (by decide)).1
  exact ⟨TX_to e (by decide) (by decide) l1, t, SB_to (fun j _ => by rw [e8]) l3, CC_to e (by decide) (by rw [e8]) l4, NF_of (by rw [e13]) (by rw [e13]) l5⟩
set_option maxRecDepth 16384 in
theorem LX.num {n : Nat} {X : Nat → Nat} {np nd p p' : Nat} {C : List Nat} {h h' : PH} (l : LX n X np nd p C h) (e : eqx [13, 15] h h') (o : ∀ j, j ≠ 9 → h'.1 13 j = h.1 13 j) (t : TC n X p' h') : LX n X np nd p' C h' := by
  obtain ⟨l1, l2, l3, l4, l5⟩ := l
  have e8 := (e 8 (by decide)).1
  exact ⟨TX_to e (by decide) (by decide) l1, t, SB_to (fun j _ => by rw [e8]) l3, CC_to e (by decide) (by rw [e8]) l4, NF_of (o 10 (by decide)) (o 11 (by decide)) l5⟩
/- a store into the draft's places that are neither shape nor number of codes -/
set_option maxRecDepth 16384 in
theorem LX.p8 {n : Nat} {X : Nat → Nat} {np nd p j : Nat} {C : List Nat} {h : PH} {v : Int32} (l : LX n X np nd p C h) (hj : j ≠ 1 ∧ j ≠ 2 ∧ j ≠ 8 ∧ j ≠ 9) : LX n X np nd p C (pI h 8 j v) := by
  obtain ⟨l1, l2, l3, l4, l5⟩ := l
  have e : eqx [8] h (pI h 8 j v) := eqx_pI (by simp)
  exact ⟨TX_to e (by decide) (by decide) l1, TC_to e (by decide) l2, ⟨by rw [pw_pIo (by omega)]; exact l3.1, by rw [pw_pIo (by omega)]; exact l3.2.1, by rw [pw_pIo (by omega)]; exact l3.2.2⟩, CC_to e (by decide) (pw_pIo (by omega)) l4, NF_of (pw_pIo (by omega)) (pw_pIo (by omega)) l5⟩
/- the draft's places and rows, but for the musts -/
def DR (s : LnS) (ln : Nat) (h : PH) : Prop := h.1 8 0 = nI ln ∧ h.1 8 3 = nI s.1 ∧ h.1 8 4 = nI s.2.1 ∧ h.1 8 5 = nI s.2.2.1.length ∧ (∀ i, i < s.2.2.1.length → h.1 9 i = nI (s.2.2.1.getD i wz).1 ∧ h.1 10 i = nI (s.2.2.1.getD i wz).2.1) ∧ ∀ i, i ≤ s.2.2.1.length → 0 < s.2.2.1.length → h.1 11 i = nI (frm s.2.2.1 i)
set_option maxRecDepth 16384 in
theorem DR.to {s : LnS} {ln : Nat} {h h' : PH} {S : List Nat} (d : DR s ln h) (e : eqx S h h') (a : 8 ∉ S) (b : 9 ∉ S) (c : 10 ∉ S) (f : 11 ∉ S) : DR s ln h' := by
  unfold DR
  rw [(e 8 a).1, (e 9 b).1, (e 10 c).1, (e 11 f).1]
  exact d
set_option maxRecDepth 16384 in
theorem DR.of {s : LnS} {ln : Nat} {h h' : PH} (d : DR s ln h) (a : h'.1 8 0 = h.1 8 0 ∧ h'.1 8 3 = h.1 8 3 ∧ h'.1 8 4 = h.1 8 4 ∧ h'.1 8 5 = h.1 8 5) (b : ∀ i, i < s.2.2.1.length → h'.1 9 i = h.1 9 i ∧ h'.1 10 i = h.1 10 i) (c : ∀ i, i ≤ s.2.2.1.length → 0 < s.2.2.1.length → h'.1 11 i = h.1 11 i) : DR s ln h' := by
  obtain ⟨d1, d2, d3, d4, d5, d6⟩ := d
  exact ⟨by rw [a.1]; exact d1, by rw [a.2.1]; exact d2, by rw [a.2.2.1]; exact d3, by rw [a.2.2.2]; exact d4, fun i hi => by rw [(b i hi).1, (b i hi).2]; exact d5 i hi, fun i hi h0 => by rw [c i hi h0]; exact d6 i hi h0⟩
/- while a wish is read -/
def DO (s : LnS) (b w m ln : Nat) (h : PH) : Prop := DR s ln h ∧ h.1 8 6 = nI (mkW s.2.2.1 ||| (if m = 1 then 2 ^ s.2.2.1.length else 0)) ∧ h.1 9 s.2.2.1.length = nI b ∧ h.1 10 s.2.2.1.length = nI w ∧ ∀ i, i ≤ s.2.2.1.length → h.1 11 i = nI (frm s.2.2.1 i)
set_option maxRecDepth 16384 in
theorem DO.C {s : LnS} {b w m ln : Nat} {h h' : PH} (d : DO s b w m ln h) (f : FrC h h') : DO s b w m ln h' := by
  obtain ⟨d1, d2, d3, d4, d5⟩ := d
  have e9 := (f.1 9 (by decide)).1
  have e10 := (f.1 10 (by decide)).1
  have e11 := (f.1 11 (by decide)).1
  exact ⟨d1.of ⟨f.2 0 (by decide), f.2 3 (by decide), f.2 4 (by decide), f.2 5 (by decide)⟩ (fun i _ => by rw [e9, e10]; exact ⟨rfl, rfl⟩) (fun i _ _ => by rw [e11]), by rw [f.2 6 (by decide)]; exact d2, by rw [e9]; exact d3, by rw [e10]; exact d4, fun i hi => by rw [e11]; exact d5 i hi⟩
set_option maxRecDepth 16384 in
theorem mkW_lt {V : List Wsh} (h : V.length ≤ 10) : mkW V < 1024 := by
  have h1 := orTo_lt (fun i => decide ((V.getD i wz).2.2.1 = 1)) V.length
  have h2 : 2 ^ V.length ≤ 2 ^ 10 := Nat.pow_le_pow_right (by decide) h
  exact Nat.lt_of_lt_of_le h1 h2
set_option maxRecDepth 16384 in
theorem CFt_o {e : Nat × Nat} {h h' : PH} (c : CFt e h) (a : h'.1 13 = h.1 13) : CFt e h' := by
  unfold CFt
  rw [a]
  exact c
/- the shape can be measured -/
def MS (h : PH) : Prop := ∃ np nd wi, np ≤ 4 ∧ nd ≤ 6 ∧ np * nd ≤ 12 ∧ wi ≤ 3 ∧ h.1 8 1 = nI np ∧ h.1 8 2 = nI nd ∧ h.1 8 4 = nI wi
set_option maxRecDepth 16384 in
theorem MS.C {h h' : PH} (m : MS h) (f : f8 h h') : MS h' := by
  obtain ⟨np, nd, wi, m1, m2, m3, m4, m5, m6, m7⟩ := m
  exact ⟨np, nd, wi, m1, m2, m3, m4, by rw [f 1 (by decide)]; exact m5, by rw [f 2 (by decide)]; exact m6, by rw [f 4 (by decide)]; exact m7⟩
/- what bounds the shape -/
def BS (np nd wi : Nat) : Prop := np ≤ 4 ∧ nd ≤ 6 ∧ np * nd ≤ 12 ∧ wi ≤ 3
set_option maxRecDepth 16384 in
theorem BS.ms {np nd wi : Nat} {h : PH} (b : BS np nd wi) (s : SB np nd h) (v : h.1 8 4 = nI wi) : MS h := ⟨np, nd, wi, b.1, b.2.1, b.2.2.1, b.2.2.2, s.1, s.2.1, v⟩
set_option maxRecDepth 16384 in
theorem c_readWish {n : Nat} {X : Nat → Nat} {np nd p ln : Nat} {C : List Nat} {s : LnS} {h : PH} (L : LX n X np nd p C h) (D : DR s ln h) (m6 : h.1 8 6 = nI (mkW s.2.2.1)) (hi : s.2.2.1.length < 10) (ht : tc n X p = 4) (hC : C.length = frm s.2.2.1 s.2.2.1.length) (hB : BS np nd s.2.1) : ok (f_X6_readWish 13 h) (fun r h' => FrD h h' ∧ match headG n X p with
  | .inl e => r = bI false ∧ CFt e h' ∧ MS h'
  | .inr q => r = bI true ∧ CF n X np nd 1 q.1 [] C 0 h' ∧ DO s q.2.1 q.2.2.1 q.2.2.2 ln h') := by
  obtain ⟨cl, wd, V, l⟩ := s
  have hB : BS np nd wd := hB
  have hi : V.length < 10 := hi
  have m6 : h.1 8 6 = nI (mkW V) := m6
  have hC : C.length = frm V V.length := hC
  have d5 : h.1 8 5 = nI V.length := D.2.2.2.1
  have hml := mkW_lt (V := V) (by omega)
  unfold f_X6_readWish
  simp only [r_13_0, r_13_1, r_8_12, r_8_13, r_8_14]
  refine ok_lt ?_
  have hc : (nI V.length < (10 : Int32)) = (V.length < 10) := pw_ltI (a := V.length) (b := 10) (by omega) (by omega)
  simp only [d5, hc]
  rw [if_pos hi]
  refine ok_cb (c_adv L.1 L.2.1) ?_
  rintro r3 h3 ⟨e3, t3⟩
  have L3 := L.adv e3 t3
  have D3 := D.to e3 (by decide) (by decide) (by decide) (by decide)
  have m3 : h3.1 8 6 = nI (mkW V) := by rw [(e3 8 (by decide)).1]; exact m6
  have F3 : FrD h h3 := eqx_mono e3 (by decide)
  refine ok_cb (c_take (w := 5) L3.1 L3.2.1 (by decide) (by decide)) ?_
  rintro r5 h5 ⟨rfl, y1, y2⟩
  unfold headG
  by_cases q5 : tc n X (nx n X p) = 5
  · obtain ⟨e5, t5⟩ := y1 q5
    have L5 := L3.adv e5 t5
    have D5 := D3.to e5 (by decide) (by decide) (by decide) (by decide)
    have m5 : h5.1 8 6 = nI (mkW V) := by rw [(e5 8 (by decide)).1]; exact m3
    have F5 : FrD h h5 := eqx_trans F3 (eqx_mono e5 (by decide))
    rw [if_pos q5, decide_eq_true q5]
    refine ok_join (fun h6 => ∃ e, num n X 0 5 (nx n X (nx n X p)) = .inl e ∧ FrD h h6 ∧ CFt e h6 ∧ MS h6) ?_ (fun j45 hj45 => ?_)
    · rintro h6 ⟨e, he, f6, l6⟩
      rw [he]
      exact ok_some ⟨f6, rfl, l6⟩
    · rw [if_neg (show ¬ bI true = (0 : Int32) by decide)]
      refine ok_cb (c_takeNumber (lo := 0) (hi := 5) L5.1 L5.2.1 (by decide) (by decide)) ?_
      rintro r8 h8 m8
      cases hq : num n X 0 5 (nx n X (nx n X p)) with
      | inl e =>
        rw [hq] at m8
        obtain ⟨rfl, f8', l8⟩ := m8
        rw [if_pos (show bI false = (0 : Int32) from rfl)]
        have := hj45 h8 ⟨e, hq, eqx_trans F5 (FrD_C f8'), l8, (hB.ms L5.2.2.1 D5.2.2.1).C f8'.2⟩
        rw [hq] at this
        exact this
      | inr a =>
        rw [hq] at m8
        obtain ⟨rfl, e8, o8, v8, t8⟩ := m8
        have L8 := L5.num e8 o8 t8
        have D8 := D5.to e8 (by decide) (by decide) (by decide) (by decide)
        have m8 : h8.1 8 6 = nI (mkW V) := by rw [(e8 8 (by decide)).1]; exact m5
        have F8 : FrD h h8 := eqx_trans F5 (eqx_mono e8 (by decide))
        rw [if_neg (show ¬ bI true = (0 : Int32) by decide), v8]
        simp (disch := omega) only [pw_stI]
        have e10 : eqx [9, 10] h8 (pI (pI h8 9 V.length (nI a.2)) 10 V.length (1 : Int32)) := eqx_trans (eqx_pI (by simp)) (eqx_pI (by simp))
        have L10 := L8.to e10 (by decide) (by decide) (by decide) (by decide) (by decide) (by decide)
        have D10 : DR (cl, wd, V, l) ln (pI (pI h8 9 V.length (nI a.2)) 10 V.length (1 : Int32)) := D8.of (by rw [(e10 8 (by decide)).1]; exact ⟨rfl, rfl, rfl, rfl⟩) (fun i hi2 => by
          have hi2 : i < V.length := hi2
          exact ⟨by rw [pw_pIo (by omega), pw_pIo (by omega)], by rw [pw_pIo (by omega), pw_pIo (by omega)]⟩) (fun i _ _ => by rw [(e10 11 (by decide)).1])
        have m10 : (pI (pI h8 9 V.length (nI a.2)) 10 V.length (1 : Int32)).1 8 6 = nI (mkW V) := by rw [(e10 8 (by decide)).1]; exact m8
        have b10 : (pI (pI h8 9 V.length (nI a.2)) 10 V.length (1 : Int32)).1 9 V.length = nI a.2 := by rw [pw_pIo (by omega), pw_pIs]
        have w10 : (pI (pI h8 9 V.length (nI a.2)) 10 V.length (1 : Int32)).1 10 V.length = nI 1 := pw_pIs
        have F10 : FrD h (pI (pI h8 9 V.length (nI a.2)) 10 V.length (1 : Int32)) := eqx_trans F8 (eqx_mono e10 (by decide))
        generalize pI (pI h8 9 V.length (nI a.2)) 10 V.length (1 : Int32) = h10 at *
        rw [c_atw (w := 6) L10.1 L10.2.1 (by decide) (by decide)]
        simp only [pw_cb]
        show ok _ (fun r h' => FrD h h' ∧ match bnd (wtG n X a.1) (fun b => bnd (clnG n X (muP n X b.1)) (fun q => .inr (q, a.2, b.2, muV n X b.1))) with
          | .inl e => r = bI false ∧ CFt e h' ∧ MS h'
          | .inr q => r = bI true ∧ CF n X np nd 1 q.1 [] C 0 h' ∧ DO (cl, wd, V, l) q.2.1 q.2.2.1 q.2.2.2 ln h')
        refine ok_join (fun h13 => ∃ b : Nat × Nat, wtG n X a.1 = .inr b ∧ LX n X np nd b.1 C h13 ∧ DR (cl, wd, V, l) ln h13 ∧ h13.1 8 6 = nI (mkW V) ∧ h13.1 9 V.length = nI a.2 ∧ h13.1 10 V.length = nI b.2 ∧ FrD h h13) ?_ (fun j114 hj114 => ?_)
        · rintro h13 ⟨b, hb, L13, D13, m13, b13, w13, F13⟩
          rw [hb]
          show ok _ (fun r h' => FrD h h' ∧ match bnd (clnG n X (muP n X b.1)) (fun q => .inr (q, a.2, b.2, muV n X b.1)) with
            | .inl e => r = bI false ∧ CFt e h' ∧ MS h'
            | .inr q => r = bI true ∧ CF n X np nd 1 q.1 [] C 0 h' ∧ DO (cl, wd, V, l) q.2.1 q.2.2.1 q.2.2.2 ln h')
          rw [c_atw (w := 7) L13.1 L13.2.1 (by decide) (by decide)]
          simp only [pw_cb]
          refine ok_join (fun h16 => LX n X np nd (muP n X b.1) C h16 ∧ DR (cl, wd, V, l) ln h16 ∧ h16.1 8 6 = nI (mkW V ||| (if muV n X b.1 = 1 then 2 ^ V.length else 0)) ∧ h16.1 9 V.length = nI a.2 ∧ h16.1 10 V.length = nI b.2 ∧ FrD h h16) ?_ (fun j148 hj148 => ?_)
          · rintro h16 ⟨L16, D16, m16, b16, w16, F16⟩
            have k9 : h16.1 8 9 = nI C.length := L16.2.2.2.1.1
            rw [k9]
            refine ok_lt (ok_lt (ok_lt (ok_lt (ok_lt ?_))))
            have e17 : eqx [11] h16 (pI h16 11 V.length (nI C.length)) := eqx_pI (by simp)
            have L17 := L16.to e17 (by decide) (by decide) (by decide) (by decide) (by decide) (by decide)
            have D17 : DO (cl, wd, V, l) a.2 b.2 (muV n X b.1) ln (pI h16 11 V.length (nI C.length)) := by
              refine ⟨D16.of (by rw [(e17 8 (by decide)).1]; exact ⟨rfl, rfl, rfl, rfl⟩) (fun i _ => by rw [(e17 9 (by decide)).1, (e17 10 (by decide)).1]; exact ⟨rfl, rfl⟩) (fun i hi2 h0 => ?_), by rw [(e17 8 (by decide)).1]; exact m16, by rw [(e17 9 (by decide)).1]; exact b16, by rw [(e17 10 (by decide)).1]; exact w16, fun i hi2 => ?_⟩
              · have hi2 : i ≤ V.length := hi2
                have h0 : 0 < V.length := h0
                by_cases c : i = V.length
                · rw [c, pw_pIs, hC]
                  exact (D16.2.2.2.2.2 V.length (Nat.le_refl _) h0).symm
                · rw [pw_pIo (by omega)]
              · have hi2 : i ≤ V.length := hi2
                by_cases c : i = V.length
                · show (pI h16 11 V.length (nI C.length)).1 11 i = nI (frm V i)
                  rw [c, pw_pIs, hC]
                · rw [pw_pIo (by omega)]
                  exact D16.2.2.2.2.2 i hi2 (by show 0 < V.length; omega)
            have F17 : FrD h (pI h16 11 V.length (nI C.length)) := eqx_trans F16 (eqx_mono e17 (by decide))
            generalize pI h16 11 V.length (nI C.length) = h17 at *
            have e22 : eqx [13] h17 (pI (pI (pI (pI (pI h17 13 3 (0 : Int32)) 13 4 (0 : Int32)) 13 5 (0 : Int32)) 13 6 (0 : Int32)) 13 8 (1 : Int32)) := eqx_trans (eqx_pI (by simp)) (eqx_trans (eqx_pI (by simp)) (eqx_trans (eqx_pI (by simp)) (eqx_trans (eqx_pI (by simp)) (eqx_pI (by simp)))))
            have x8 : (pI (pI (pI (pI (pI h17 13 3 (0 : Int32)) 13 4 (0 : Int32)) 13 5 (0 : Int32)) 13 6 (0 : Int32)) 13 8 (1 : Int32)).1 13 8 = nI 1 := pw_pIs
            have x6 : (pI (pI (pI (pI (pI h17 13 3 (0 : Int32)) 13 4 (0 : Int32)) 13 5 (0 : Int32)) 13 6 (0 : Int32)) 13 8 (1 : Int32)).1 13 6 = nI 0 := by rw [pw_pIo (by omega)]; exact pw_pIs
            have x5 : (pI (pI (pI (pI (pI h17 13 3 (0 : Int32)) 13 4 (0 : Int32)) 13 5 (0 : Int32)) 13 6 (0 : Int32)) 13 8 (1 : Int32)).1 13 5 = nI 0 := by rw [pw_pIo (by omega), pw_pIo (by omega)]; exact pw_pIs
            have x4 : (pI (pI (pI (pI (pI h17 13 3 (0 : Int32)) 13 4 (0 : Int32)) 13 5 (0 : Int32)) 13 6 (0 : Int32)) 13 8 (1 : Int32)).1 13 4 = nI 0 := by rw [pw_pIo (by omega), pw_pIo (by omega), pw_pIo (by omega)]; exact pw_pIs
            have x3 : (pI (pI (pI (pI (pI h17 13 3 (0 : Int32)) 13 4 (0 : Int32)) 13 5 (0 : Int32)) 13 6 (0 : Int32)) 13 8 (1 : Int32)).1 13 3 = nI 0 := by rw [pw_pIo (by omega), pw_pIo (by omega), pw_pIo (by omega), pw_pIo (by omega)]; exact pw_pIs
            have xN : NF (pI (pI (pI (pI (pI h17 13 3 (0 : Int32)) 13 4 (0 : Int32)) 13 5 (0 : Int32)) 13 6 (0 : Int32)) 13 8 (1 : Int32)) := NF_of (by rw [pw_pIo (by omega), pw_pIo (by omega), pw_pIo (by omega), pw_pIo (by omega), pw_pIo (by omega)]) (by rw [pw_pIo (by omega), pw_pIo (by omega), pw_pIo (by omega), pw_pIo (by omega), pw_pIo (by omega)]) L17.2.2.2.2
            generalize pI (pI (pI (pI (pI h17 13 3 (0 : Int32)) 13 4 (0 : Int32)) 13 5 (0 : Int32)) 13 6 (0 : Int32)) 13 8 (1 : Int32) = h22 at *
            have F22 : FrD h h22 := eqx_trans F17 (eqx_mono e22 (by decide))
            have d8 := (e22 8 (by decide)).1
            have DO22 : DO (cl, wd, V, l) a.2 b.2 (muV n X b.1) ln h22 := D17.C ⟨eqx_mono e22 (by decide), fun _ _ => by rw [d8]⟩
            have T22 := TX_to e22 (by decide) (by decide) L17.1
            have K22 := TC_to e22 (by decide) L17.2.1
            have S22 : SB np nd h22 := SB_to (fun j _ => by rw [d8]) L17.2.2.1
            have C22 : CC C h22 := CC_to e22 (by decide) (by rw [d8]) L17.2.2.2.1
            refine ok_cb (c_take (w := 8) T22 K22 (by decide) (by decide)) ?_
            rintro r24 h24 ⟨rfl, z1, z2⟩
            rw [zr_b]
            unfold clnG
            by_cases q8 : tc n X (muP n X b.1) = 8
            · obtain ⟨e24, t24⟩ := z1 q8
              rw [if_pos q8, decide_eq_true q8]
              have g13 := (e24 13 (by decide)).1
              have g8 := (e24 8 (by decide)).1
              refine ok_some ⟨eqx_trans F22 (eqx_mono e24 (by decide)), rfl, ⟨TX_to e24 (by decide) (by decide) T22, t24, ⟨by rw [g13]; exact x3, trivial, by rw [g13]; exact x4⟩, CC_to e24 (by decide) (by rw [g8]) C22, SB_to (fun j _ => by rw [g8]) S22, by rw [g13]; exact x8, by rw [g13]; exact x5, by rw [g13]; exact x6, Or.inl rfl, Nat.zero_le _, Nat.le_refl _, by show 1 ≤ 4; decide, NF_of (by rw [g13]) (by rw [g13]) xN⟩, DO22.C (FrC_15 e24)⟩
            · obtain ⟨f24, l24⟩ := z2 q8
              rw [if_neg q8, decide_eq_false q8]
              exact ok_some ⟨eqx_trans F22 (FrD_C f24), rfl, l24, (hB.ms S22 DO22.1.2.2.1).C f24.2⟩
          · by_cases q7 : tc n X b.1 = 7
            · rw [decide_eq_true q7, if_neg (show ¬ bI true = (0 : Int32) by decide)]
              refine ok_cb (c_adv L13.1 L13.2.1) ?_
              rintro r26 h26 ⟨e26, t26⟩
              refine ok_lt ?_
              have L26 := L13.adv e26 t26
              have D26 := D13.to e26 (by decide) (by decide) (by decide) (by decide)
              have m26 : h26.1 8 6 = nI (mkW V) := by rw [(e26 8 (by decide)).1]; exact m13
              have hsh : (1 : Int32) <<< (nI V.length &&& 31) = nI (2 ^ V.length) := by
                rw [pw_lit, pw_lit, pw_and]
                exact pw_shl1 (by omega)
              rw [m26, hsh, pw_or]
              have e27 : eqx [8] h26 (pI h26 8 6 (nI (mkW V ||| 2 ^ V.length))) := eqx_pI (by simp)
              have hmu : muV n X b.1 = 1 := if_pos q7
              have hmp : muP n X b.1 = nx n X b.1 := if_pos q7
              refine hj148 _ ⟨by rw [hmp]; exact L26.p8 (by omega), D26.of ⟨pw_pIo (by omega), pw_pIo (by omega), pw_pIo (by omega), pw_pIo (by omega)⟩ (fun i _ => ⟨pw_pIo (by omega), pw_pIo (by omega)⟩) (fun i _ _ => pw_pIo (by omega)), by rw [hmu, pw_pIs, if_pos rfl], by rw [pw_pIo (by omega), (e26 9 (by decide)).1]; exact b13, by rw [pw_pIo (by omega), (e26 10 (by decide)).1]; exact w13, eqx_trans F13 (eqx_trans (eqx_mono e26 (by decide)) (eqx_mono e27 (by decide)))⟩
            · rw [decide_eq_false q7, if_pos (show bI false = (0 : Int32) from rfl)]
              have hmu : muV n X b.1 = 0 := if_neg q7
              have hmp : muP n X b.1 = b.1 := if_neg q7
              exact hj148 _ ⟨by rw [hmp]; exact L13, D13, by rw [hmu, if_neg (by decide), Nat.or_zero]; exact m13, b13, w13, F13⟩
        · by_cases q6 : tc n X a.1 = 6
          · have hwt : wtG n X a.1 = num n X 1 9 (nx n X a.1) := if_pos q6
            rw [decide_eq_true q6, if_neg (show ¬ bI true = (0 : Int32) by decide)]
            refine ok_cb (c_adv L10.1 L10.2.1) ?_
            rintro r29 h29 ⟨e29, t29⟩
            have L29 := L10.adv e29 t29
            have D29 := D10.to e29 (by decide) (by decide) (by decide) (by decide)
            refine ok_cb (c_takeNumber (lo := 1) (hi := 9) L29.1 L29.2.1 (by decide) (by decide)) ?_
            rintro r31 h31 m31
            cases hq2 : num n X 1 9 (nx n X a.1) with
            | inl e =>
              rw [hq2] at m31
              obtain ⟨rfl, f31, l31⟩ := m31
              rw [if_pos (show bI false = (0 : Int32) from rfl), hwt, hq2]
              exact ok_some ⟨eqx_trans F10 (eqx_trans (eqx_mono e29 (by decide)) (FrD_C f31)), rfl, l31, (hB.ms L29.2.2.1 D29.2.2.1).C f31.2⟩
            | inr b =>
              rw [hq2] at m31
              obtain ⟨rfl, e31, o31, v31, t31⟩ := m31
              rw [if_neg (show ¬ bI true = (0 : Int32) by decide), v31]
              have L31 := L29.num e31 o31 t31
              have D31 := D29.to e31 (by decide) (by decide) (by decide) (by decide)
              have e32 : eqx [10] h31 (pI h31 10 V.length (nI b.2)) := eqx_pI (by simp)
              refine hj114 _ ⟨b, by rw [hwt, hq2], L31.to e32 (by decide) (by decide) (by decide) (by decide) (by decide) (by decide), D31.of (by rw [(e32 8 (by decide)).1]; exact ⟨rfl, rfl, rfl, rfl⟩) (fun i hi2 => ?_) (fun i _ _ => by rw [(e32 11 (by decide)).1]), by rw [(e32 8 (by decide)).1, (e31 8 (by decide)).1, (e29 8 (by decide)).1]; exact m10, by rw [(e32 9 (by decide)).1, (e31 9 (by decide)).1, (e29 9 (by decide)).1]; exact b10, pw_pIs, eqx_trans F10 (eqx_trans (eqx_mono e29 (by decide)) (eqx_trans (eqx_mono e31 (by decide)) (eqx_mono e32 (by decide))))⟩
              have hi2 : i < V.length := hi2
              exact ⟨pw_pIo (by omega), pw_pIo (by omega)⟩
          · rw [decide_eq_false q6, if_pos (show bI false = (0 : Int32) from rfl)]
            exact hj114 _ ⟨(a.1, 1), if_neg q6, L10, D10, m10, b10, w10, F10⟩
  · obtain ⟨f5, l5⟩ := y2 q5
    rw [if_neg q5, decide_eq_false q5]
    refine ok_join (fun h6 => h6 = h5) ?_ (fun j45 hj45 => ?_)
    · rintro h6 rfl
      exact ok_some ⟨eqx_trans F3 (FrD_C f5), rfl, l5, (hB.ms L3.2.2.1 D3.2.2.1).C f5.2⟩
    · rw [if_pos (show bI false = (0 : Int32) from rfl)]
      exact hj45 _ rfl

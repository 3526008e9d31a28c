/-! ===== the class reads: its steps on the real cells ===== -/
def stW : List Nat → PH → Prop
  | [], _ => True
  | w :: W, h => w ≤ 10 ∧ h.1 14 W.length = nI w ∧ stW W h
set_option maxRecDepth 16384 in
theorem stW_to {S : List Nat} {h h' : PH} (e : eqx S h h') (a : 14 ∉ S) : ∀ {W : List Nat}, stW W h → stW W h'
  | [], _ => trivial
  | _ :: _, s => ⟨s.1, by rw [(e 14 a).1]; exact s.2.1, stW_to e a s.2.2⟩
set_option maxRecDepth 16384 in
theorem stW_pI {h : PH} {j : Nat} {v : Int32} : ∀ {W : List Nat}, W.length ≤ j → stW W h → stW W (pI h 14 j v)
  | [], _, _ => trivial
  | w :: W, hj, s => by
    rw [List.length_cons] at hj
    exact ⟨s.1, by rw [pw_pIo (by omega)]; exact s.2.1, stW_pI (by omega) s.2.2⟩
/- what waits -/
def WS (W : List Nat) (h : PH) : Prop := h.1 13 3 = nI W.length ∧ stW W h ∧ h.1 13 4 = nI (cO W)
/- the codes -/
def CC (C : List Nat) (h : PH) : Prop := h.1 8 9 = nI C.length ∧ ∀ k, k < C.length → h.1 12 k = nI (C.getD k 0)
set_option maxRecDepth 16384 in
theorem WS_to {S : List Nat} {W : List Nat} {h h' : PH} (e : eqx S h h') (a : 14 ∉ S) (f3 : h'.1 13 3 = h.1 13 3) (f4 : h'.1 13 4 = h.1 13 4) (s : WS W h) : WS W h' := ⟨by rw [f3]; exact s.1, stW_to e a s.2.1, by rw [f4]; exact s.2.2⟩
set_option maxRecDepth 16384 in
theorem CC_to {S : List Nat} {C : List Nat} {h h' : PH} (e : eqx S h h') (a : 12 ∉ S) (f9 : h'.1 8 9 = h.1 8 9) (s : CC C h) : CC C h' := ⟨by rw [f9]; exact s.1, fun k hk => by rw [(e 12 a).1]; exact s.2 k hk⟩
set_option maxRecDepth 16384 in
theorem pw_ldT {γ : Type} {w : Nat} {g : Int32 → Option γ} (h : w ≤ 10) : ldT (nI w) g = g (nI (tgh w)) := by
  have hd : tgL.getD w 0 = nI (tgh w) := (by decide +kernel : ∀ w, w < 11 → tgL.getD w 0 = nI (tgh w)) w (by omega)
  unfold ldT
  rw [pw_toInt (by omega), pw_clamp (by omega), if_pos ⟨by omega, by omega⟩, hd]
set_option maxRecDepth 16384 in
theorem tgh_le (w : Nat) (h : w ≤ 10) : tgh w ≤ 6 := (by decide : ∀ w, w < 11 → tgh w ≤ 6) w (by omega)
set_option maxRecDepth 16384 in
theorem or_sh {a b : Nat} (h : b < 4096) : a <<< 12 ||| b = a * 4096 + b := by
  have h1 : b < 2 ^ 12 := h
  rw [← Nat.shiftLeft_add_eq_or_of_lt h1, Nat.shiftLeft_eq]
/- all but the codes -/
def f8 (h h' : PH) : Prop := ∀ j, j ≠ 9 → h'.1 8 j = h.1 8 j
set_option maxRecDepth 16384 in
theorem c_emit {op a : Nat} {C : List Nat} {h : PH} (hC : C.length < 900) (s : CC C h) (ha : a < 4096) : ok (f_X8_emit 8 (nI op) (nI a) h) (fun _ h' => eqx [8, 12] h h' ∧ f8 h h' ∧ CC (C ++ [op * 4096 + a]) h') := by
  obtain ⟨s1, s2⟩ := s
  unfold f_X8_emit
  refine ok_join (fun h' => eqx [8, 12] h h' ∧ f8 h h' ∧ CC (C ++ [op * 4096 + a]) h') (fun h' q => ok_some q) (fun j hj => ?_)
  have hc : ¬ ((900 : Int32) ≤ nI C.length) := by
    rw [pw_lit, pw_leI (by omega) (by omega)]
    omega
  have hv : ((nI op <<< ((12 : Int32) &&& 31)) ||| nI a) = nI (op * 4096 + a) := by
    rw [← or_sh ha, ← pw_or]
    exact congrArg (fun z => z ||| nI a) (pw_shl op (i := 12) (by decide))
  rw [s1, if_neg hc, hv]
  simp (disch := omega) only [r_8_15, pw_stI]
  refine ok_lt ?_
  refine hj _ ⟨eqx_trans (eqx_pI (by simp)) (eqx_pI (by simp)), fun j hj => ?_, ?_, fun k hk => ?_⟩
  · rw [pw_pIo (by omega), pw_pIo (by omega)]
  · rw [pw_pIs, pw_pIo (by omega), s1, List.length_append, List.length_singleton]
    exact nI_add _ 1
  · rw [List.length_append, List.length_singleton] at hk
    rw [pw_pIo (by omega), getD_snoc hk]
    by_cases e : k = C.length
    · rw [if_pos e, e, pw_pIs]
    · rw [if_neg e, pw_pIo (by omega)]
      exact s2 k (by omega)
/- all the parser's own, but for the places 3, 4 -/
def f13 (h h' : PH) : Prop := ∀ j, j ≠ 3 → j ≠ 4 → h'.1 13 j = h.1 13 j
set_option maxRecDepth 16384 in
theorem cO_c {w : Nat} {W : List Nat} : cO (w :: W) = cO W + (if w = 0 ∨ w = 1 ∨ w = 4 then 1 else 0) := by
  unfold cO
  by_cases c : w = 0 ∨ w = 1 ∨ w = 4
  · rw [List.countP_cons_of_pos (by rw [decide_eq_true_eq]; exact c), if_pos c]
  · rw [List.countP_cons_of_neg (by rw [decide_eq_true_eq]; exact c), if_neg c, Nat.add_zero]
set_option maxRecDepth 16384 in
theorem c0_c {w : Nat} {W : List Nat} : c0 (w :: W) = c0 W + (if w = 0 then 1 else 0) := by
  unfold c0
  by_cases c : w = 0
  · rw [List.countP_cons_of_pos (by rw [decide_eq_true_eq]; exact c), if_pos c]
  · rw [List.countP_cons_of_neg (by rw [decide_eq_true_eq]; exact c), if_neg c, Nat.add_zero]
set_option maxRecDepth 16384 in
theorem c1_c {w : Nat} {W : List Nat} : c1 (w :: W) = c1 W + (if w = 1 then 1 else 0) := by
  unfold c1
  by_cases c : w = 1
  · rw [List.countP_cons_of_pos (by rw [decide_eq_true_eq]; exact c), if_pos c]
  · rw [List.countP_cons_of_neg (by rw [decide_eq_true_eq]; exact c), if_neg c, Nat.add_zero]
set_option maxRecDepth 16384 in
theorem cO_le : ∀ (W : List Nat), cO W ≤ W.length := fun W => List.countP_le_length
set_option maxRecDepth 16384 in
theorem c0_le : ∀ (W : List Nat), c0 W ≤ W.length := fun W => List.countP_le_length
set_option maxRecDepth 16384 in
theorem c1_le : ∀ (W : List Nat), c1 W ≤ W.length := fun W => List.countP_le_length
set_option maxRecDepth 16384 in
theorem tgh_pos {w : Nat} (h : w ≤ 10) (h1 : 1 ≤ tgh w) : w ≠ 0 ∧ w ≠ 1 := (by decide : ∀ w, w < 11 → 1 ≤ tgh w → w ≠ 0 ∧ w ≠ 1) w (by omega) h1
set_option maxRecDepth 16384 in
theorem c_settleD {t : Nat} {W C : List Nat} {h : PH} (ht : 1 ≤ t) (ht2 : t ≤ 6) (s : WS W h) (c : CC C h) (hl : C.length + W.length ≤ 900) : ok (f_X6_settleDownTo 13 (nI t) h) (fun _ h' => eqx [8, 12, 13] h h' ∧ f8 h h' ∧ f13 h h' ∧ WS (stl t W C).1 h' ∧ CC (stl t W C).2 h' ∧ (stl t W C).2.length + (stl t W C).1.length = C.length + W.length ∧ c0 (stl t W C).1 = c0 W ∧ c1 (stl t W C).1 = c1 W) := by
  unfold f_X6_settleDownTo
  refine ok_join (fun h' => eqx [8, 12, 13] h h' ∧ f8 h h' ∧ f13 h h' ∧ WS (stl t W C).1 h' ∧ CC (stl t W C).2 h' ∧ (stl t W C).2.length + (stl t W C).1.length = C.length + W.length ∧ c0 (stl t W C).1 = c0 W ∧ c1 (stl t W C).1 = c1 W) (fun h' q => ok_some q) (fun j hj => ?_)
  refine lp_ok (fun m _ h1 => ∃ W1 C1, W1.length = m ∧ stl t W1 C1 = stl t W C ∧ C1.length + W1.length = C.length + W.length ∧ c0 W1 = c0 W ∧ c1 W1 = c1 W ∧ WS W1 h1 ∧ CC C1 h1 ∧ eqx [8, 12, 13] h h1 ∧ f8 h h1 ∧ f13 h h1) ?_ FU W.length _ h ⟨W, C, rfl, rfl, rfl, rfl, rfl, s, c, eqx_rfl _ _, fun _ _ => rfl, fun _ _ _ => rfl⟩ (fu_lt (by omega))
  rintro m rec u h1 ⟨W1, C1, hm, hs, hlen, q0, q1, s1, cc1, e1, e8, e13⟩ hrec
  unfold b_X6_settleDownTo_0
  cases W1 with
  | nil =>
    have h3 : h1.1 13 3 = nI 0 := s1.1
    rw [h3, if_pos (show nI 0 ≤ (0 : Int32) by decide)]
    have hst : stl t [] C1 = ([], C1) := rfl
    rw [hst] at hs
    exact hj h1 ⟨e1, e8, e13, by rw [← hs]; exact s1, by rw [← hs]; exact cc1, by rw [← hs]; exact hlen, by rw [← hs]; exact q0, by rw [← hs]; exact q1⟩
  | cons w W1 =>
    obtain ⟨a1, ⟨a2, a3, a4⟩, a5⟩ := s1
    rw [List.length_cons] at hlen a1 hm
    have hnp : ¬ (nI (W1.length + 1) ≤ (0 : Int32)) := by
      rw [pw_lit, pw_leI (by omega) (by omega)]
      omega
    have hsub : nI (W1.length + 1) - (1 : Int32) = nI W1.length := by
      rw [pw_lit, pw_sub (by omega), Nat.add_sub_cancel]
    rw [a1, if_neg hnp, hsub]
    simp (disch := omega) only [r_13_1, r_13_2, pw_ldI, a3, pw_ldT]
    have htl := tgh_le w a2
    by_cases ct : t ≤ tgh w
    · have hst : stl t (w :: W1) C1 = stl t W1 (C1 ++ [w * 4096]) := by rw [stl, if_pos ct]
      rw [hst] at hs
      have hw01 := tgh_pos a2 (by omega)
      rw [cO_c] at a5
      rw [c0_c, if_neg hw01.1, Nat.add_zero] at q0
      rw [c1_c, if_neg hw01.2, Nat.add_zero] at q1
      have hlt : ¬ (nI (tgh w) < nI t) := by
        rw [pw_ltI (by omega) (by omega)]
        omega
      rw [if_neg hlt]
      refine ok_lt ?_
      have y3 : (pI h1 13 3 (nI W1.length)).1 13 3 = nI W1.length := pw_pIs
      have y14 : (pI h1 13 3 (nI W1.length)).1 14 W1.length = nI w := by rw [pw_pIo (by omega)]; exact a3
      have y4 : (pI h1 13 3 (nI W1.length)).1 13 4 = nI (cO W1 + (if w = 0 ∨ w = 1 ∨ w = 4 then 1 else 0)) := by rw [pw_pIo (by omega)]; exact a5
      have e2 : eqx [8, 12, 13] h (pI h1 13 3 (nI W1.length)) := eqx_trans e1 (eqx_pI (by simp))
      have e82 : f8 h (pI h1 13 3 (nI W1.length)) := fun j hj => by rw [pw_pIo (by omega)]; exact e8 j hj
      have e132 : f13 h (pI h1 13 3 (nI W1.length)) := fun j h3 h4 => by rw [pw_pIo (by omega)]; exact e13 j h3 h4
      have st2 : stW W1 (pI h1 13 3 (nI W1.length)) := stW_to (eqx_pI (S := [13]) (by simp)) (by decide) a4
      have cc2 : CC C1 (pI h1 13 3 (nI W1.length)) := CC_to (eqx_pI (S := [13]) (by simp)) (by decide) (pw_pIo (by omega)) cc1
      rw [y3]
      generalize pI h1 13 3 (nI W1.length) = h2 at *
      simp (disch := omega) only [pw_ldI, y14]
      refine ok_join (fun h4 => eqx [8, 12, 13] h h4 ∧ f8 h h4 ∧ f13 h h4 ∧ WS W1 h4 ∧ CC C1 h4) ?_ (fun j2 hj2 => ?_)
      · rintro h4 ⟨f1, f2, f3, ⟨f4, f5, f6⟩, f7⟩
        have f14 : h4.1 14 W1.length = nI w := by rw [(f1 14 (by decide)).1, ← (e1 14 (by decide)).1]; exact a3
        rw [f4]
        simp (disch := omega) only [pw_ldI, f14]
        refine ok_cb (c_emit (op := w) (a := 0) (by omega) f7 (by decide)) ?_
        rintro r h5 ⟨g1, g2, g3⟩
        rw [Nat.add_zero] at g3
        have f13a : ∀ j, h5.1 13 j = h4.1 13 j := fun j => by rw [(g1 13 (by decide)).1]
        exact hrec W1.length () h5 (by omega) ⟨W1, C1 ++ [w * 4096], rfl, hs, by rw [List.length_append, List.length_singleton]; omega, q0, q1, WS_to g1 (by decide) (f13a 3) (f13a 4) ⟨f4, f5, f6⟩, g3, eqx_trans f1 (eqx_mono g1 (by decide)), fun j hj => by rw [g2 j hj]; exact f2 j hj, fun j z3 z4 => by rw [f13a]; exact f3 j z3 z4⟩
      · have hw4 : (nI w = (4 : Int32)) = (w = 4) := pw_eqI (a := w) (b := 4) (by omega) (by omega)
        by_cases c4 : w = 4
        · rw [if_pos (by rw [c4]; rfl)]
          refine ok_lt ?_
          rw [if_pos (by omega)] at y4
          have hv : h2.1 13 4 - (1 : Int32) = nI (cO W1) := by rw [y4, pw_lit, pw_sub (by omega), Nat.add_sub_cancel]
          rw [hv]
          exact hj2 _ ⟨eqx_trans e2 (eqx_pI (by simp)), fun j hj => by rw [pw_pIo (by omega)]; exact e82 j hj, fun j z3 z4 => by rw [pw_pIo (by omega)]; exact e132 j z3 z4, ⟨by rw [pw_pIo (by omega)]; exact y3, stW_to (eqx_pI (S := [13]) (by simp)) (by decide) st2, pw_pIs⟩, CC_to (eqx_pI (S := [13]) (by simp)) (by decide) (pw_pIo (by omega)) cc2⟩
        · rw [if_neg (by rw [hw4]; exact c4)]
          rw [if_neg (by omega), Nat.add_zero] at y4
          exact hj2 _ ⟨e2, e82, e132, ⟨y3, st2, y4⟩, cc2⟩
    · have hst : stl t (w :: W1) C1 = (w :: W1, C1) := by rw [stl, if_neg ct]
      rw [hst] at hs
      have hlt : nI (tgh w) < nI t := by
        rw [pw_ltI (by omega) (by omega)]
        omega
      rw [if_pos hlt]
      exact hj h1 ⟨e1, e8, e13, by rw [← hs]; exact ⟨by rw [List.length_cons]; exact a1, ⟨a2, a3, a4⟩, a5⟩, by rw [← hs]; exact cc1, by rw [← hs, List.length_cons]; omega, by rw [← hs]; exact q0, by rw [← hs]; exact q1⟩
/- the shape of the draft: parishes, days -/
def SB (np nd : Nat) (h : PH) : Prop := h.1 8 1 = nI np ∧ h.1 8 2 = nI nd ∧ h.1 8 8 = nI (2 ^ (np * nd) - 1)
set_option maxRecDepth 16384 in
theorem SB_to {np nd : Nat} {h h' : PH} (e : f8 h h') (s : SB np nd h) : SB np nd h' := ⟨by rw [e 1 (by decide)]; exact s.1, by rw [e 2 (by decide)]; exact s.2.1, by rw [e 8 (by decide)]; exact s.2.2⟩
/- all that a wish's truth leaves as it was -/
def FrC (h h' : PH) : Prop := eqx [8, 12, 13, 14, 15] h h' ∧ f8 h h'
set_option maxRecDepth 16384 in
theorem FrC_rfl (h : PH) : FrC h h := ⟨eqx_rfl _ _, fun _ _ => rfl⟩
set_option maxRecDepth 16384 in
theorem FrC_trans {a b c : PH} (x : FrC a b) (y : FrC b c) : FrC a c := ⟨eqx_trans x.1 y.1, fun j hj => by rw [y.2 j hj]; exact x.2 j hj⟩
set_option maxRecDepth 16384 in
theorem FrC_13 {h : PH} {j : Nat} {v : Int32} : FrC h (pI h 13 j v) := ⟨eqx_pI (by simp), fun _ _ => pw_pIo (by omega)⟩
set_option maxRecDepth 16384 in
theorem FrC_15 {h h' : PH} (e : eqx [15] h h') : FrC h h' := ⟨eqx_mono e (by decide), fun _ _ => by rw [(e 8 (by decide)).1]⟩
set_option maxRecDepth 16384 in
theorem FrC_TX {n : Nat} {X : Nat → Nat} {h h' : PH} (f : FrC h h') (t : TX n X h) : TX n X h' := TX_to f.1 (by decide) (by decide) t
/- no fault is noted -/
def NF (h : PH) : Prop := h.1 13 10 = nI 0 ∧ h.1 13 11 = mI
set_option maxRecDepth 16384 in
theorem NF_of {h h' : PH} (a : h'.1 13 10 = h.1 13 10) (b : h'.1 13 11 = h.1 13 11) (f : NF h) : NF h' := ⟨by rw [a]; exact f.1, by rw [b]; exact f.2⟩
/- where the class stands -/
def CF (n : Nat) (X : Nat → Nat) (np nd st p : Nat) (W C : List Nat) (cm : Nat) (h : PH) : Prop := TX n X h ∧ TC n X p h ∧ WS W h ∧ CC C h ∧ SB np nd h ∧ h.1 13 8 = nI st ∧ h.1 13 5 = nI (c0 W) ∧ h.1 13 6 = nI (c1 W) ∧ (st = 1 ∨ h.1 13 7 = nI cm) ∧ cm ≤ 1 ∧ 1 ≤ st ∧ st ≤ 4 ∧ NF h
/- a fault is noted -/
def CFt (e : Nat × Nat) (h : PH) : Prop := h.1 13 10 = nI e.1 ∧ h.1 13 11 = nI e.2
set_option maxRecDepth 16384 in
theorem c_refuse {n : Nat} {X : Nat → Nat} {p k : Nat} {h : PH} (C : TC n X p h) : ok (f_X6_refuse 13 (nI k) h) (fun r h' => r = bI false ∧ FrC h h' ∧ CFt (flt n X k p) h') := by
  obtain ⟨c1, c2, c3, c4, hb⟩ := C
  have htk := tkd_le n X p
  have hkr : (nI (tkd n X p) = (1 : Int32)) = (tkd n X p = 1) := pw_eqI (a := tkd n X p) (b := 1) (by omega) (by omega)
  unfold f_X6_refuse
  refine ok_joinT (fun t h2 => h2 = h ∧ t = nI (flt n X k p).1) ?_ (fun j hj => ?_)
  · rintro t h2 ⟨rfl, rfl⟩
    refine ok_lt (ok_lt ?_)
    have q3 : (pI h2 13 10 (nI (flt n X k p).1)).1 15 3 = nI p := by rw [pw_pIo (by omega)]; exact c3
    have q3 : (pI h2 13 10 (nI (flt n X k p).1)).1 (rt 13 0) 3 = nI p := q3
    rw [q3]
    exact ok_some ⟨rfl, FrC_trans FrC_13 FrC_13, by rw [pw_pIo (by omega), pw_pIs], pw_pIs⟩
  · have c4 : h.1 (rt 13 0) 4 = nI (tkd n X p) := c4
    simp only [c4, hkr]
    unfold flt at hj
    by_cases c : tkd n X p = 1
    · rw [if_pos c]
      exact hj _ _ ⟨rfl, by rw [if_pos c]; rfl⟩
    · rw [if_neg c]
      exact hj _ _ ⟨rfl, by rw [if_neg c]⟩
set_option maxRecDepth 16384 in
theorem c_atw {n : Nat} {X : Nat → Nat} {b w : Nat} {h : PH} (T : TX n X h) (C : TC n X b h) (h1 : 2 ≤ w) (h2 : w ≤ 27) : f_X9_at 15 w h = some (bI (decide (tc n X b = w)), h) := by
  rw [c_at' T C (by omega), tc_w h1 h2]
/- from a token to the next, all else as it was -/
set_option maxRecDepth 16384 in
theorem CF.adv {n : Nat} {X : Nat → Nat} {np nd st p : Nat} {W C : List Nat} {cm p' : Nat} {h h' : PH} (c : CF n X np nd st p W C cm h) (e : eqx [15] h h') (t : TC n X p' h') : CF n X np nd st p' W C cm h' := by
  obtain ⟨a1, a2, a3, a4, a5, a6, a7, a8, a9, a11, a12, a13, a14⟩ := c
  have e13 := (e 13 (by decide)).1
  have e8 := (e 8 (by decide)).1
  exact ⟨TX_to e (by decide) (by decide) a1, t, WS_to e (by decide) (by rw [e13]) (by rw [e13]) a3, CC_to e (by decide) (by rw [e8]) a4, SB_to (fun j _ => by rw [e8]) a5, by rw [e13]; exact a6, by rw [e13]; exact a7, by rw [e13]; exact a8, by rw [e13]; exact a9, a11, a12, a13, NF_of (by rw [e13]) (by rw [e13]) a14⟩
set_option maxRecDepth 16384 in
theorem c_take {n : Nat} {X : Nat → Nat} {p w : Nat} {h : PH} (T : TX n X h) (C : TC n X p h) (h1 : 2 ≤ w) (h2 : w ≤ 27) : ok (f_X6_take 13 w h) (fun r h' => r = bI (decide (tc n X p = w)) ∧ (tc n X p = w → eqx [15] h h' ∧ TC n X (nx n X p) h') ∧ (tc n X p ≠ w → FrC h h' ∧ CFt (flt n X 2 p) h')) := by
  have hat := c_atw T C h1 h2
  have hat : f_X9_at (rt 13 0) w h = some (bI (decide (tc n X p = w)), h) := hat
  unfold f_X6_take
  rw [hat]
  simp only [pw_cb]
  by_cases c : tc n X p = w
  · rw [decide_eq_true c, if_neg (show ¬ bI true = (0 : Int32) by decide)]
    refine ok_cb (c_adv T C) ?_
    rintro r h' ⟨e, t⟩
    exact ok_some ⟨rfl, fun _ => ⟨e, t⟩, fun z => absurd c z⟩
  · rw [decide_eq_false c, if_pos (show bI false = (0 : Int32) from rfl)]
    refine ok_cb (c_refuse (k := 2) C) ?_
    rintro r h' ⟨rfl, f, l⟩
    rw [zr_b]
    exact ok_some ⟨rfl, fun z => absurd z c, fun _ => ⟨f, l⟩⟩
/- a number -/
set_option maxRecDepth 16384 in
theorem c_takeNumber {n : Nat} {X : Nat → Nat} {p lo hi : Nat} {h : PH} (T : TX n X h) (C : TC n X p h) (hlo : lo < 2147483648) (hhi : hi < 2147483648) : ok (f_X6_takeNumber 13 (nI lo) (nI hi) h) (fun r h' => match num n X lo hi p with
  | .inl e => r = bI false ∧ FrC h h' ∧ CFt e h'
  | .inr q => r = bI true ∧ eqx [13, 15] h h' ∧ (∀ j, j ≠ 9 → h'.1 13 j = h.1 13 j) ∧ h'.1 13 9 = nI q.2 ∧ TC n X q.1 h') := by
  have htk := tkd_le n X p
  have hkr : (nI (tkd n X p) = (3 : Int32)) = (tkd n X p = 3) := pw_eqI (a := tkd n X p) (b := 3) (by omega) (by omega)
  have c4 : h.1 (rt 13 0) 4 = nI (tkd n X p) := C.2.2.2.1
  unfold f_X6_takeNumber
  simp only [c4, hkr]
  by_cases c : tkd n X p = 3
  · rw [if_pos c]
    obtain ⟨v1, v2⟩ := c_value T C c
    have v1 : f_X9_value (rt 13 0) h = some (nI (vl n X p), h) := v1
    rw [v1]
    simp only [pw_cb]
    refine ok_lt ?_
    have e1 : eqx [13] h (pI h 13 9 (nI (vl n X p))) := eqx_pI (by simp)
    have T1 := TX_to e1 (by decide) (by decide) T
    have C1 := TC_to e1 (by decide) C
    have y9 : (pI h 13 9 (nI (vl n X p))).1 13 9 = nI (vl n X p) := pw_pIs
    have o9 : ∀ j, j ≠ 9 → (pI h 13 9 (nI (vl n X p))).1 13 j = h.1 13 j := fun j hj => pw_pIo (by omega)
    generalize pI h 13 9 (nI (vl n X p)) = h1 at *
    have f1 : FrC h h1 := ⟨eqx_mono e1 (by decide), fun _ _ => by rw [(e1 8 (by decide)).1]⟩
    have l1 : (nI (vl n X p) < nI lo) = (vl n X p < lo) := pw_ltI (by omega) (by omega)
    have l2 : (nI (vl n X p) ≤ nI hi) = (vl n X p ≤ hi) := pw_leI (by omega) (by omega)
    by_cases d : lo ≤ vl n X p ∧ vl n X p ≤ hi
    · have hnum : num n X lo hi p = .inr (nx n X p, vl n X p) := by
        unfold num
        rw [if_pos (tc_40.mpr c), if_pos d]
      rw [hnum]
      refine ok_join (fun _ => False) (fun _ q => q.elim) (fun j hj => ?_)
      simp only [y9, l1, l2]
      rw [if_neg (by omega), if_pos d.2]
      refine ok_cb (c_adv T1 C1) ?_
      rintro r h2 ⟨e2, t2⟩
      exact ok_some ⟨rfl, eqx_trans (eqx_mono e1 (by decide)) (eqx_mono e2 (by decide)), fun j hj => by rw [(e2 13 (by decide)).1]; exact o9 j hj, by rw [(e2 13 (by decide)).1]; exact y9, t2⟩
    · have hnum : num n X lo hi p = .inl (3, p) := by
        unfold num
        rw [if_pos (tc_40.mpr c), if_neg d]
      have hfl : flt n X 3 p = (3, p) := by
        unfold flt
        rw [if_neg (by rw [c]; decide)]
      rw [hnum]
      refine ok_join (fun h2 => h2 = h1) ?_ (fun j hj => ?_)
      · rintro h2 rfl
        refine ok_cb (c_refuse (k := 3) C1) ?_
        rintro r h3 ⟨rfl, f3, l3⟩
        rw [hfl] at l3
        rw [zr_b]
        exact ok_some ⟨rfl, FrC_trans f1 f3, l3⟩
      · simp only [y9, l1, l2]
        by_cases d1 : vl n X p < lo
        · rw [if_pos d1]
          exact hj _ rfl
        · rw [if_neg d1, if_neg (by omega)]
          exact hj _ rfl
  · rw [if_neg c]
    have hnum : num n X lo hi p = .inl (flt n X 2 p) := by
      unfold num
      rw [if_neg (fun z => c (tc_40.mp z))]
    rw [hnum]
    refine ok_cb (c_refuse (k := 2) C) ?_
    rintro r h3 ⟨rfl, f3, l3⟩
    rw [zr_b]
    exact ok_some ⟨rfl, f3, l3⟩

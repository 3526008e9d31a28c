/-! ===== the reference: lines ===== -/
/- what reading leaves, line by line -/
def FrW (h h' : PH) : Prop := eqx [152, 154] h h' ∧ ∀ j, (j < 9 ∨ j = 15 ∨ j = 16 ∨ 18 ≤ j) → h'.1 152 j = h.1 152 j
set_option maxRecDepth 16384 in
theorem FrW_rfl (h : PH) : FrW h h := ⟨eqx_rfl _ _, fun _ _ => rfl⟩
set_option maxRecDepth 16384 in
theorem FrW_trans {a b c : PH} (x : FrW a b) (y : FrW b c) : FrW a c := ⟨eqx_trans x.1 y.1, fun j hj => by rw [y.2 j hj]; exact x.2 j hj⟩
set_option maxRecDepth 16384 in
theorem FrW_R {h h' : PH} (x : FrR h h') : FrW h h' := ⟨x.1, x.2.1⟩
set_option maxRecDepth 16384 in
theorem FrW_4 {h : PH} {j : Nat} {v : Int32} : FrW h (pI h 154 j v) := ⟨eqx_pI (by simp), fun _ _ => pw_pIo (by omega)⟩
/- the fresh row, but for shape and steps -/
def FH (s : LnS) (ln : Nat) (h : PH) : Prop := h.1 154 0 = nI ln ∧ h.1 154 3 = nI s.1 ∧ h.1 154 4 = nI s.2.1 ∧ h.1 154 5 = nI s.2.2.1.length ∧ h.1 154 6 = nI 0 ∧ h.1 154 7 = nI (2 ^ s.2.2.1.length - 1) ∧ (∀ i, i < s.2.2.1.length → h.1 154 (24 + i) = nI (s.2.2.1.getD i wz).1 ∧ h.1 154 (34 + i) = nI (s.2.2.1.getD i wz).2.1 ∧ h.1 154 (44 + i) = nI (s.2.2.1.getD i wz).2.2.1) ∧ (∀ i, i ≤ s.2.2.1.length → h.1 154 (54 + i) = nI (frm s.2.2.1 i)) ∧ ∀ j, 8 ≤ j → j < 24 → h.1 154 j = nI 0
set_option maxRecDepth 16384 in
theorem FH.R {s : LnS} {ln : Nat} {h h' : PH} (d : FH s ln h) (hl : s.2.2.1.length ≤ 10) (f : ∀ j, j < 65 → h'.1 154 j = h.1 154 j) : FH s ln h' := by
  obtain ⟨d1, d2, d3, d4, d5, d6, d7, d8, d9⟩ := d
  exact ⟨by rw [f 0 (by decide)]; exact d1, by rw [f 3 (by decide)]; exact d2, by rw [f 4 (by decide)]; exact d3, by rw [f 5 (by decide)]; exact d4, by rw [f 6 (by decide)]; exact d5, by rw [f 7 (by decide)]; exact d6, fun i hi => by rw [f _ (by omega), f _ (by omega), f _ (by omega)]; exact d7 i hi, fun i hi => by rw [f _ (by omega)]; exact d8 i hi, fun j h1 h2 => by rw [f _ (by omega)]; exact d9 j h1 h2⟩
def RLn (n : Nat) (X : Nat → Nat) (np nd p : Nat) (s : LnS) (ln : Nat) (h : PH) : Prop := ST n X np nd 0 p s.2.2.2 h ∧ FH s ln h
set_option maxRecDepth 16384 in
theorem e_mustWordB {w : Nat} {h : PH} (B : BX h) : f_X12_mustWord 152 w h = some ((), h) := by
  unfold f_X12_mustWord
  rw [e_tookB B]
  simp only [pw_cb, pw_lt]
  rw [if_pos (show bI false = (0 : Int32) from rfl), e_blamesB B]
  rfl
set_option maxRecDepth 16384 in
theorem e_mustWord {n : Nat} {X : Nat → Nat} {p w w' : Nat} {h : PH} (T : TX n X h) (R : TR n X p h) (B : h.1 152 13 = nI 0) (h1 : 2 ≤ w) (h2 : w ≤ 27) (hw : w' < 66) (hs : sb w' = sb w) (hL : isL (wbN w 0) = true) : ok (f_X12_mustWord 152 w' h) (fun _ h' => FrR h h' ∧ (tc n X p = w → fT h h' ∧ TR n X (nx n X p) h') ∧ (tc n X p ≠ w → FLt (flt n X 2 p) h')) := by
  unfold f_X12_mustWord
  refine ok_cb (e_took T R B h1 h2 hw hs hL) ?_
  rintro r h' ⟨rfl, f, t1, t2⟩
  by_cases c : tc n X p = w
  · refine ok_join (fun h3 => h3 = h') (fun h3 q => ?_) (fun j hj => ?_)
    · rw [q]
      exact ok_some ⟨FrR_fT f, fun _ => ⟨f, t1 c⟩, fun z => absurd c z⟩
    · rw [if_neg (show ¬ bI (decide (tc n X p = w)) = (0 : Int32) by rw [decide_eq_true c]; decide)]
      exact hj _ rfl
  · have e := t2 c
    subst e
    refine ok_join (fun h3 => FrR h' h3 ∧ FLt (flt n X 2 p) h3) (fun h3 q => ok_some ⟨q.1, fun z => absurd z c, fun _ => q.2⟩) (fun j hj => ?_)
    rw [if_pos (show bI (decide (tc n X p = w)) = (0 : Int32) by rw [decide_eq_false c]; rfl)]
    refine ok_cb (e_blames (k := 2) T R B) ?_
    rintro r2 h3 ⟨f3, l3, -⟩
    exact hj _ ⟨f3, l3⟩
/- the semicolon -/
set_option maxRecDepth 16384 in
theorem e_stopB {h : PH} (B : BX h) : f_X12_readStop 152 h = some ((), h) := by
  unfold f_X12_readStop
  rw [e_mustSignB B]
  simp only [pw_cb, pw_lt]
  rw [if_neg B]
set_option maxRecDepth 16384 in
theorem e_stop {n : Nat} {X : Nat → Nat} {np nd p ln : Nat} {s : LnS} {h : PH} (r : RLn n X np nd p s ln h) (hl : s.2.2.1.length ≤ 10) : ok (f_X12_readStop 152 h) (fun _ h' => FrW h h' ∧ match stopG n X p with
  | .inl e => FLt e h'
  | .inr e => RLn n X np nd e s (ln + 1) h') := by
  obtain ⟨S, F⟩ := r
  unfold f_X12_readStop stopG
  refine ok_cb (e_mustSign (w := 3) (c := 59) S.1 S.2.1 S.2.2.1 (by decide) (by decide) (by decide) (by decide) (by decide)) ?_
  rintro r1 h2 ⟨f2, d2, y1, y2⟩
  by_cases q3 : tc n X p = 3
  · have hnx := tc_nx (X := X) (b := p) (n := n) (by omega)
    obtain ⟨g2, R2⟩ := y1 q3
    have S2 := S.on g2 R2 (by omega)
    have F2 := F.R hl f2.2.2
    rw [if_pos q3]
    refine ok_join (fun h3 => FrW h h3 ∧ RLn n X np nd (nx n X p) s (ln + 1) h3) (fun h3 q => ok_some q) (fun j hj => ?_)
    rw [if_pos (show h2.1 152 13 = 0 from S2.2.2.1)]
    have x0 : h2.1 154 0 = nI ln := F2.1
    simp (disch := omega) only [pw_lit, r_152_1, pw_ldI, x0, nI_add, pw_stI]
    refine hj _ ⟨FrW_trans (FrW_R f2) FrW_4, ?_, ?_⟩
    · obtain ⟨s1, s2, s3, s4, s5, s6, s7, s8, s9⟩ := S2
      have e : eqx [154] h2 (pI h2 154 0 (nI (ln + 1))) := eqx_pI (by simp)
      have e152 := (e 152 (by decide)).1
      exact ⟨TX_to e (by decide) (by decide) s1, by unfold TR; rw [e152]; exact s2, by rw [e152]; exact s3, by rw [e152]; exact s4, by rw [pw_pIo (by omega)]; exact s5, by rw [pw_pIo (by omega)]; exact s6, by rw [pw_pIo (by omega)]; exact s7, fun k hk => by rw [pw_pIo (by omega)]; exact s8 k hk, s9⟩
    · obtain ⟨d1, d2, d3, d4, d5, d6, d7, d8, d9⟩ := F2
      exact ⟨pw_pIs, by rw [pw_pIo (by omega)]; exact d2, by rw [pw_pIo (by omega)]; exact d3, by rw [pw_pIo (by omega)]; exact d4, by rw [pw_pIo (by omega)]; exact d5, by rw [pw_pIo (by omega)]; exact d6, fun i hi => by rw [pw_pIo (by omega), pw_pIo (by omega), pw_pIo (by omega)]; exact d7 i hi, fun i hi => by rw [pw_pIo (by omega)]; exact d8 i hi, fun j h1 h2 => by rw [pw_pIo (by omega)]; exact d9 j h1 h2⟩
  · have l2 := y2 q3
    have hB : BX h2 := FLt_B (flt_ok (by decide) (by decide)) l2
    rw [if_neg q3]
    refine ok_join (fun h3 => h3 = h2) (fun h3 q => by rw [q]; exact ok_some ⟨FrW_R f2, l2⟩) (fun j hj => ?_)
    rw [if_neg hB]
    exact hj _ rfl
/- a store of clouds or wind -/
set_option maxRecDepth 16384 in
theorem RLn.put {n : Nat} {X : Nat → Nat} {np nd p ln v : Nat} {bx : Bool} {s : LnS} {h : PH} (r : RLn n X np nd p s ln h) (hl : s.2.2.1.length ≤ 10) : RLn n X np nd p (upS bx v s) ln (pI h 154 (if bx then 3 else 4) (nI v)) := by
  obtain ⟨⟨s1, s2, s3, s4, s5, s6, s7, s8, s9⟩, d1, d2, d3, d4, d5, d6, d7, d8, d9⟩ := r
  have e : eqx [154] h (pI h 154 (if bx then 3 else 4) (nI v)) := eqx_pI (by simp)
  have e152 := (e 152 (by decide)).1
  have ol : ∀ j, j ≠ 3 → j ≠ 4 → (pI h 154 (if bx then 3 else 4) (nI v)).1 154 j = h.1 154 j := fun j h3 h4 => by
    cases bx with
    | true => exact pw_pIo (by show ¬ (154 = 154 ∧ j = 3); omega)
    | false => exact pw_pIo (by show ¬ (154 = 154 ∧ j = 4); omega)
  have hS : ST n X np nd 0 p s.2.2.2 (pI h 154 (if bx then 3 else 4) (nI v)) := ⟨TX_to e (by decide) (by decide) s1, by unfold TR; rw [e152]; exact s2, by rw [e152]; exact s3, by rw [e152]; exact s4, by rw [ol 1 (by decide) (by decide)]; exact s5, by rw [ol 2 (by decide) (by decide)]; exact s6, by rw [ol 65 (by decide) (by decide)]; exact s7, fun k hk => by rw [ol _ (by omega) (by omega)]; exact s8 k hk, s9⟩
  cases bx with
  | true => exact ⟨hS, by rw [ol 0 (by decide) (by decide)]; exact d1, pw_pIs, by show (pI h 154 3 (nI v)).1 154 4 = _; rw [pw_pIo (by omega)]; exact d3, by rw [ol 5 (by decide) (by decide)]; exact d4, by rw [ol 6 (by decide) (by decide)]; exact d5, by rw [ol 7 (by decide) (by decide)]; exact d6, fun i hi => by rw [ol _ (by omega) (by omega), ol _ (by omega) (by omega), ol _ (by omega) (by omega)]; exact d7 i hi, fun i hi => by rw [ol _ (by omega) (by omega)]; exact d8 i hi, fun j h1 h2 => by rw [ol _ (by omega) (by omega)]; exact d9 j h1 h2⟩
  | false => exact ⟨hS, by rw [ol 0 (by decide) (by decide)]; exact d1, by show (pI h 154 4 (nI v)).1 154 3 = _; rw [pw_pIo (by omega)]; exact d2, pw_pIs, by rw [ol 5 (by decide) (by decide)]; exact d4, by rw [ol 6 (by decide) (by decide)]; exact d5, by rw [ol 7 (by decide) (by decide)]; exact d6, fun i hi => by rw [ol _ (by omega) (by omega), ol _ (by omega) (by omega), ol _ (by omega) (by omega)]; exact d7 i hi, fun i hi => by rw [ol _ (by omega) (by omega)]; exact d8 i hi, fun j h1 h2 => by rw [ol _ (by omega) (by omega)]; exact d9 j h1 h2⟩
set_option maxRecDepth 16384 in
theorem RLn.on {n : Nat} {X : Nat → Nat} {np nd p p' ln : Nat} {s : LnS} {h h' : PH} (r : RLn n X np nd p s ln h) (hl : s.2.2.1.length ≤ 10) (f : fT h h') (R : TR n X p' h') (hp : p ≤ p') : RLn n X np nd p' s ln h' := ⟨r.1.on f R hp, r.2.R hl (FrR_fT f).2.2⟩
/- clouds, wind -/
set_option maxRecDepth 16384 in
theorem e_lineNum {n : Nat} {X : Nat → Nat} {np nd p ln hi : Nat} {bx : Bool} {s : LnS} {h : PH} {K : PH → Option (Unit × PH)} {Q : Unit → PH → Prop} (hv : VL n X) (r : RLn n X np nd p s ln h) (hl : s.2.2.1.length ≤ 10) (hhi : hi < 10) (hk : ∀ h', FrW h h' → (match num n X 0 hi p with
  | .inl e => FLt e h'
  | .inr a => RLn n X np nd a.1 (upS bx a.2 s) ln h') → ok (K h') Q) : ok (cb (f_X12_number 152 (nI 0) (nI hi) h) (fun (r17 : Int32) (h18 : PH) => stI h18 154 1200 (nI (if bx then 3 else 4)) r17 (fun (h19 : PH) => K h19))) Q := by
  refine ok_cb (e_number (lo := 0) (hi := hi) r.1.1 r.1.2.1 r.1.2.2.1 (by decide) (by omega) hv) ?_
  rintro r17 h18 ⟨f18, d18, q⟩
  have hj : (if bx then 3 else 4) < 1200 := by cases bx <;> decide
  rw [pw_stI hj (by omega)]
  refine hk _ (FrW_trans (FrW_R f18) FrW_4) ?_
  cases hq : num n X 0 hi p with
  | inl e =>
    rw [hq] at q
    exact ⟨by rw [pw_pIo (by omega)]; exact q.1, by rw [pw_pIo (by omega)]; exact q.2⟩
  | inr a =>
    rw [hq] at q
    obtain ⟨rfl, q2, q3, q4⟩ := q
    have hon := num_on hq
    exact (r.on hl q2 q3 (by omega)).put hl

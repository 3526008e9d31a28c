set_option maxRecDepth 16384 in
theorem c_operand {n : Nat} {X : Nat → Nat} {np nd st p : Nat} {W C : List Nat} {cm : Nat} {h : PH} (hv : VL n X) (h1 : 1 ≤ np) (h2 : 1 ≤ nd) (hnp : np ≤ 4) (hnd : nd ≤ 6) (hg : np * nd ≤ 12) (c : CF n X np nd st p W C cm h) (hb : C.length + W.length ≤ p) (hst : st = 1 ∨ st = 2) : ok (f_X6_readOperand 13 h) (PA n X np nd (AU n X np nd st p W C cm) h) := by
  unfold f_X6_readOperand AU
  rw [if_pos hst]
  have h8 : h.1 13 8 = nI st := c.2.2.2.2.2.1
  have e8 : (nI st = (1 : Int32)) = (st = 1) := pw_eqI (a := st) (b := 1) (by omega) (by omega)
  refine ok_join (fun hh => ∃ cm', cm' = (if st = 1 then 0 else cm) ∧ FrC h hh ∧ CF n X np nd st p W C cm' hh ∧ hh.1 13 7 = nI cm' ∧ ¬ (st = 1 ∧ tc n X p = 11) ∧ ¬ (st = 1 ∧ tc n X p = 12)) ?_ (fun j hj => ?_)
  · rintro hh ⟨cm', rfl, F, c', h7, n11, n12⟩
    rw [if_neg n11, if_neg n12]
    generalize (if st = 1 then 0 else cm) = cm' at *
    have hat : f_X9_at (rt 13 0) 13 hh = some (bI (decide (tc n X p = 13)), hh) := c'.at (by decide) (by decide)
    rw [hat]
    simp only [pw_cb]
    refine ok_joinT (fun t h5 => PA n X np nd (if tc n X p = 13 then opnA n X 0 2 p W C cm' else atomA n X np nd p W C cm') h t h5) (fun t h5 q => PA_zr q) (fun j hj => ?_)
    by_cases q13 : tc n X p = 13
    · rw [if_pos q13] at hj ⊢
      rw [decide_eq_true q13, if_neg (show ¬ bI true = (0 : Int32) by decide)]
      refine ok_cb (c_open (code := 0) (next := 2) c' h7 hb (by omega) (by omega) (by omega) (by omega)) ?_
      rintro r h6 q
      exact hj _ _ (PA_tr F q)
    · rw [if_neg q13] at hj ⊢
      rw [decide_eq_false q13, if_pos (show bI false = (0 : Int32) from rfl)]
      refine ok_cb (c_atom hv h1 h2 hnp hnd hg c' h7 hb) ?_
      rintro r h6 q
      exact hj _ _ (PA_tr F q)
  · simp only [h8, e8]
    by_cases s1 : st = 1
    · rw [if_pos s1]
      refine ok_lt ?_
      have c0' : CF n X np nd st p W C 0 (pI h 13 7 (nI 0)) := c.cmp (by omega)
      have F0 : FrC h (pI h 13 7 (nI 0)) := FrC_13
      have z7 : (pI h 13 7 (nI 0)).1 13 7 = nI 0 := pw_pIs
      show ok (cb (f_X9_at (rt 13 0) 11 (pI h 13 7 (nI 0))) _) _
      generalize pI h 13 7 (nI 0) = h10 at *
      have hat : f_X9_at (rt 13 0) 11 h10 = some (bI (decide (tc n X p = 11)), h10) := c0'.at (by decide) (by decide)
      have hat2 : f_X9_at (rt 13 0) 12 h10 = some (bI (decide (tc n X p = 12)), h10) := c0'.at (by decide) (by decide)
      rw [hat]
      simp only [pw_cb]
      by_cases q11 : tc n X p = 11
      · rw [decide_eq_true q11, if_neg (show ¬ bI true = (0 : Int32) by decide), if_pos ⟨s1, q11⟩, if_pos s1]
        refine ok_cb (c_open (code := 4) (next := 1) c0' z7 hb (by omega) (by omega) (by omega) (by omega)) ?_
        rintro r h6 q
        exact PA_zr (PA_tr F0 q)
      · rw [decide_eq_false q11, if_pos (show bI false = (0 : Int32) from rfl), hat2]
        simp only [pw_cb]
        by_cases q12 : tc n X p = 12
        · rw [decide_eq_true q12, if_neg (show ¬ bI true = (0 : Int32) by decide), if_neg (fun z => q11 z.2), if_pos ⟨s1, q12⟩, if_pos s1]
          refine ok_cb (c_open (code := 1) (next := 1) c0' z7 hb (by omega) (by omega) (by omega) (by omega)) ?_
          rintro r h6 q
          exact PA_zr (PA_tr F0 q)
        · rw [decide_eq_false q12, if_pos (show bI false = (0 : Int32) from rfl)]
          exact hj _ ⟨0, by rw [if_pos s1], F0, c0', z7, fun z => q11 z.2, fun z => q12 z.2⟩
    · rw [if_neg s1]
      exact hj _ ⟨cm, by rw [if_neg s1], FrC_rfl h, c, c.2.2.2.2.2.2.2.2.1.resolve_left s1, fun z => s1 z.1, fun z => s1 z.1⟩
/- the arithmetic signs -/
set_option maxRecDepth 16384 in
theorem c_arith {n : Nat} {X : Nat → Nat} {np nd st p : Nat} {W C : List Nat} {cm : Nat} {h : PH} (c : CF n X np nd st p W C cm h) : ∃ r, f_X6_arithmeticSign 13 h = some (r, h) ∧ ((tc n X p = 18 ∨ tc n X p = 19 ∨ tc n X p = 20) → r = nI (tc n X p - 10)) ∧ (¬ (tc n X p = 18 ∨ tc n X p = 19 ∨ tc n X p = 20) → r = mI) := by
  unfold f_X6_arithmeticSign
  simp only [r_13_0, c.at (w := 18) (by decide) (by decide), c.at (w := 19) (by decide) (by decide), c.at (w := 20) (by decide) (by decide), pw_cb, pw_lt]
  by_cases q18 : tc n X p = 18
  · rw [decide_eq_true q18, if_neg (show ¬ bI true = (0 : Int32) by decide)]
    exact ⟨_, rfl, fun _ => by rw [q18]; rfl, fun z => absurd (Or.inl q18) z⟩
  · rw [decide_eq_false q18, if_pos (show bI false = (0 : Int32) from rfl)]
    by_cases q19 : tc n X p = 19
    · rw [decide_eq_true q19, if_neg (show ¬ bI true = (0 : Int32) by decide)]
      exact ⟨_, rfl, fun _ => by rw [q19]; rfl, fun z => absurd (Or.inr (Or.inl q19)) z⟩
    · rw [decide_eq_false q19, if_pos (show bI false = (0 : Int32) from rfl)]
      by_cases q20 : tc n X p = 20
      · rw [decide_eq_true q20, if_neg (show ¬ bI true = (0 : Int32) by decide)]
        exact ⟨_, rfl, fun _ => by rw [q20]; rfl, fun z => absurd (Or.inr (Or.inr q20)) z⟩
      · rw [decide_eq_false q20, if_pos (show bI false = (0 : Int32) from rfl)]
        exact ⟨_, rfl, fun z => by omega, fun _ => rfl⟩
set_option maxRecDepth 16384 in
theorem c_comp {n : Nat} {X : Nat → Nat} {np nd st p : Nat} {W C : List Nat} {cm : Nat} {h : PH} (c : CF n X np nd st p W C cm h) : ∃ r, f_X6_comparingSign 13 h = some (r, h) ∧ ((tc n X p = 22 ∨ tc n X p = 23 ∨ tc n X p = 24) → r = nI (tc n X p - 17)) ∧ (¬ (tc n X p = 22 ∨ tc n X p = 23 ∨ tc n X p = 24) → r = mI) := by
  unfold f_X6_comparingSign
  simp only [r_13_0, c.at (w := 22) (by decide) (by decide), c.at (w := 23) (by decide) (by decide), c.at (w := 24) (by decide) (by decide), pw_cb, pw_lt]
  by_cases q22 : tc n X p = 22
  · rw [decide_eq_true q22, if_neg (show ¬ bI true = (0 : Int32) by decide)]
    exact ⟨_, rfl, fun _ => by rw [q22]; rfl, fun z => absurd (Or.inl q22) z⟩
  · rw [decide_eq_false q22, if_pos (show bI false = (0 : Int32) from rfl)]
    by_cases q23 : tc n X p = 23
    · rw [decide_eq_true q23, if_neg (show ¬ bI true = (0 : Int32) by decide)]
      exact ⟨_, rfl, fun _ => by rw [q23]; rfl, fun z => absurd (Or.inr (Or.inl q23)) z⟩
    · rw [decide_eq_false q23, if_pos (show bI false = (0 : Int32) from rfl)]
      by_cases q24 : tc n X p = 24
      · rw [decide_eq_true q24, if_neg (show ¬ bI true = (0 : Int32) by decide)]
        exact ⟨_, rfl, fun _ => by rw [q24]; rfl, fun z => absurd (Or.inr (Or.inr q24)) z⟩
      · rw [decide_eq_false q24, if_pos (show bI false = (0 : Int32) from rfl)]
        exact ⟨_, rfl, fun z => by omega, fun _ => rfl⟩
set_option maxRecDepth 16384 in
theorem tcn0 {n : Nat} {X : Nat → Nat} {p w : Nat} (h : tc n X p = w) (hw : 2 ≤ w) : tc n X p ≠ 0 := by omega
/- behind a bracket or a comparison: both, either, or the square bracket's end -/
set_option maxRecDepth 16384 in
theorem c_opTail {n : Nat} {X : Nat → Nat} {np nd st p : Nat} {W C : List Nat} {cm : Nat} {h0 h : PH} (F : FrC h0 h) (c : CF n X np nd st p W C cm h) (h7 : h.1 13 7 = nI cm) (hb : C.length + W.length ≤ p) (he : ∀ e, (if tc n X p = 25 then joinA n X 3 1 p W C cm else if tc n X p = 26 then joinA n X 2 1 p W C cm else if 0 < c1 W then (if tc n X p = 27 then closeA n X 1 4 p W C cm else .inl (flt n X 2 p)) else .inl (0, 0)) = .inl e → 1 ≤ e.1) : ok (cb (f_X9_at 15 25 h) (fun (r2 : Int32) (h3 : PH) => if r2 = 0 then (cb (f_X9_at 15 26 h3) (fun (r4 : Int32) (h5 : PH) => if r4 = 0 then (if (h5.1 13 6) ≤ 0 then (cb (f_X6_endWish 13 h5) (fun (r6 : Unit) (h7 : PH) => cb (f_X6_endLine 13 h7) (fun (r8 : Int32) (h9 : PH) => zr r8 h9))) else (cb (f_X9_at 15 27 h5) (fun (r10 : Int32) (h11 : PH) => lt (fun (t12 : Int32) (h13 : PH) => zr t12 h13) (fun (j163 : Int32 → PH → Option (Int32 × PH)) => if r10 = 0 then (cb (f_X6_refuse 13 (2 : Int32) h11) (fun (r14 : Int32) (h15 : PH) => j163 r14 h15)) else (cb (f_X6_close 13 (1 : Int32) h11) (fun (r16 : Int32) (h17 : PH) => j163 r16 h17)))))) else (cb (f_X6_join 13 (2 : Int32) (1 : Int32) h5) (fun (r18 : Int32) (h19 : PH) => zr r18 h19)))) else (cb (f_X6_join 13 (3 : Int32) (1 : Int32) h3) (fun (r20 : Int32) (h21 : PH) => zr r20 h21)))) (PA n X np nd (if tc n X p = 25 then joinA n X 3 1 p W C cm else if tc n X p = 26 then joinA n X 2 1 p W C cm else if 0 < c1 W then (if tc n X p = 27 then closeA n X 1 4 p W C cm else .inl (flt n X 2 p)) else .inl (0, 0)) h0) := by
  have hn := c.1.1
  have hpn := c.2.1.2.2.2.2
  have hl1 := c1_le W
  rw [c.at (w := 25) (by decide) (by decide)]
  simp only [pw_cb]
  by_cases q25 : tc n X p = 25
  · rw [decide_eq_true q25, if_neg (show ¬ bI true = (0 : Int32) by decide)]
    simp only [if_pos q25]
    refine ok_cb (c_join (code := 3) (next := 1) c h7 hb (by omega) (by omega) (by omega) (by omega) (by omega) (by omega)) ?_
    rintro r h6 q
    exact PA_zr (PA_tr F q)
  · rw [decide_eq_false q25, if_pos (show bI false = (0 : Int32) from rfl), c.at (w := 26) (by decide) (by decide)]
    simp only [pw_cb, if_neg q25] at he ⊢
    by_cases q26 : tc n X p = 26
    · rw [decide_eq_true q26, if_neg (show ¬ bI true = (0 : Int32) by decide)]
      simp only [if_pos q26]
      refine ok_cb (c_join (code := 2) (next := 1) c h7 hb (by omega) (by omega) (by omega) (by omega) (by omega) (by omega)) ?_
      rintro r h6 q
      exact PA_zr (PA_tr F q)
    · rw [decide_eq_false q26, if_pos (show bI false = (0 : Int32) from rfl)]
      simp only [if_neg q26] at he ⊢
      have k6 : h.1 13 6 = nI (c1 W) := c.2.2.2.2.2.2.2.1
      by_cases z : 0 < c1 W
      · simp only [if_pos z] at he ⊢
        have hc : ¬ (nI (c1 W) ≤ (0 : Int32)) := by
          rw [pw_lit, pw_leI (by omega) (by omega)]
          omega
        rw [k6, if_neg hc, c.at (w := 27) (by decide) (by decide)]
        simp only [pw_cb]
        refine ok_joinT (fun t h5 => PA n X np nd (if tc n X p = 27 then closeA n X 1 4 p W C cm else .inl (flt n X 2 p)) h0 t h5) (fun t h5 q => PA_zr q) (fun j hj => ?_)
        by_cases q27 : tc n X p = 27
        · simp only [if_pos q27] at he hj ⊢
          rw [decide_eq_true q27, if_neg (show ¬ bI true = (0 : Int32) by decide)]
          cases hq : closeA n X 1 4 p W C cm with
          | inl e =>
            have h1 := he e hq
            unfold closeA at hq
            exfalso
            cases hs : (stl 1 W C).1 with
            | nil =>
              rw [hs] at hq
              cases hq
              omega
            | cons w W' =>
              rw [hs] at hq
              have hq : (if w = 1 then (.inr (4, nx n X p, W', (stl 1 W C).2, cm) : (Nat × Nat) ⊕ Cfg) else .inl (0, 0)) = .inl e := hq
              by_cases hw : w = 1
              · rw [if_pos hw] at hq
                cases hq
              · rw [if_neg hw] at hq
                cases hq
                omega
          | inr c' =>
            rw [hq] at hj
            refine ok_cb (c_close (code := 1) (next := 4) c h7 hb (by omega) (by omega) hq) ?_
            rintro r h6 q
            exact hj _ _ (PA_tr F q)
        · simp only [if_neg q27] at hj ⊢
          rw [decide_eq_false q27, if_pos (show bI false = (0 : Int32) from rfl)]
          refine ok_cb (c_refuse (k := 2) c.2.1) ?_
          rintro r h6 ⟨rfl, f6, l6⟩
          exact hj _ _ ⟨FrC_trans F f6, rfl, l6⟩
      · simp only [if_neg z] at he
        have := he (0, 0) rfl
        omega
set_option maxRecDepth 16384 in
theorem c_operator {n : Nat} {X : Nat → Nat} {np nd st p : Nat} {W C : List Nat} {cm : Nat} {h : PH} (c : CF n X np nd st p W C cm h) (hb : C.length + W.length ≤ p) (hst : st = 3 ∨ st = 4) (he : ∀ e, AU n X np nd st p W C cm = .inl e → 1 ≤ e.1) : ok (f_X6_readOperator 13 h) (PA n X np nd (AU n X np nd st p W C cm) h) := by
  have hn := c.1.1
  have hpn := c.2.1.2.2.2.2
  have hl0 := c0_le W
  have h7 : h.1 13 7 = nI cm := c.2.2.2.2.2.2.2.2.1.resolve_left (by omega)
  unfold AU at he ⊢
  have hn12 : ¬ (st = 1 ∨ st = 2) := by omega
  simp only [if_neg hn12] at he ⊢
  have h8 : h.1 13 8 = nI st := c.2.2.2.2.2.1
  have e8 : (nI st = (3 : Int32)) = (st = 3) := pw_eqI (a := st) (b := 3) (by omega) (by omega)
  unfold f_X6_readOperator
  simp only [r_13_0]
  refine ok_join (fun hh => FrC h hh ∧ CF n X np nd st p W C cm hh ∧ ¬ (st = 3 ∧ (tc n X p = 18 ∨ tc n X p = 19 ∨ tc n X p = 20)) ∧ ¬ (st = 3 ∧ 0 < c0 W) ∧ ¬ (st = 3 ∧ cm = 0)) ?_ (fun j hj => ?_)
  · rintro hh ⟨F, c', n1, n2, n3⟩
    simp only [if_neg n1, if_neg n2, if_neg n3] at he ⊢
    exact c_opTail F c' (c'.2.2.2.2.2.2.2.2.1.resolve_left (by omega)) hb he
  · simp only [h8, e8]
    by_cases s3 : st = 3
    · rw [if_pos s3]
      obtain ⟨r, hr, r1, r2⟩ := c_arith c
      rw [hr]
      simp only [pw_cb]
      refine ok_lt ?_
      by_cases q : tc n X p = 18 ∨ tc n X p = 19 ∨ tc n X p = 20
      · rw [r1 q]
        have hnl : ¬ (nI (tc n X p - 10) < (0 : Int32)) := by
          rw [pw_lit, pw_ltI (by omega) (by omega)]
          omega
        rw [if_neg hnl]
        simp only [if_pos (show st = 3 ∧ (tc n X p = 18 ∨ tc n X p = 19 ∨ tc n X p = 20) from ⟨s3, q⟩)]
        refine ok_cb (c_join (code := tc n X p - 10) (next := 2) c h7 hb (by omega) (by omega) (by omega) (by omega) (by omega) (by omega)) ?_
        rintro r h6 q
        exact PA_zr q
      · rw [r2 q]
        rw [if_pos (show mI < (0 : Int32) by decide +kernel)]
        have n1 : ¬ (st = 3 ∧ (tc n X p = 18 ∨ tc n X p = 19 ∨ tc n X p = 20)) := fun z => q z.2
        simp only [if_neg n1] at he ⊢
        have k5 : h.1 13 5 = nI (c0 W) := c.2.2.2.2.2.2.1
        have k7 : h.1 13 7 = nI cm := h7
        have hcm : cm ≤ 1 := c.2.2.2.2.2.2.2.2.2.1
        by_cases z : 0 < c0 W
        · have n2 : st = 3 ∧ 0 < c0 W := ⟨s3, z⟩
          simp only [if_pos n2] at he ⊢
          have hc : ¬ (nI (c0 W) ≤ (0 : Int32)) := by
            rw [pw_lit, pw_leI (by omega) (by omega)]
            omega
          rw [k5, if_neg hc, c.at (w := 21) (by decide) (by decide)]
          simp only [pw_cb]
          refine ok_joinT (fun t h5 => PA n X np nd (if tc n X p = 21 then closeA n X 0 3 p W C cm else .inl (flt n X 2 p)) h t h5) (fun t h5 q => PA_zr q) (fun j hj => ?_)
          by_cases q21 : tc n X p = 21
          · simp only [if_pos q21] at he hj ⊢
            rw [decide_eq_true q21, if_neg (show ¬ bI true = (0 : Int32) by decide)]
            cases hq : closeA n X 0 3 p W C cm with
            | inl e =>
              have h1 := he e hq
              unfold closeA at hq
              exfalso
              cases hs : (stl 1 W C).1 with
              | nil =>
                rw [hs] at hq
                cases hq
                omega
              | cons w W' =>
                rw [hs] at hq
                have hq : (if w = 0 then (.inr (3, nx n X p, W', (stl 1 W C).2, cm) : (Nat × Nat) ⊕ Cfg) else .inl (0, 0)) = .inl e := hq
                by_cases hw : w = 0
                · rw [if_pos hw] at hq
                  cases hq
                · rw [if_neg hw] at hq
                  cases hq
                  omega
            | inr c' =>
              rw [hq] at hj
              refine ok_cb (c_close (code := 0) (next := 3) c h7 hb (by omega) (by omega) hq) ?_
              rintro r h6 q
              exact hj _ _ q
          · simp only [if_neg q21] at hj ⊢
            rw [decide_eq_false q21, if_pos (show bI false = (0 : Int32) from rfl)]
            refine ok_cb (c_refuse (k := 2) c.2.1) ?_
            rintro r h6 ⟨rfl, f6, l6⟩
            exact hj _ _ ⟨f6, rfl, l6⟩
        · have n2 : ¬ (st = 3 ∧ 0 < c0 W) := fun y => z y.2
          simp only [if_neg n2] at he ⊢
          have hc : nI (c0 W) ≤ (0 : Int32) := by
            rw [pw_lit, pw_leI (by omega) (by omega)]
            omega
          rw [k5, if_pos hc, k7]
          by_cases m0 : cm = 0
          · have n3 : st = 3 ∧ cm = 0 := ⟨s3, m0⟩
            simp only [if_pos n3] at he ⊢
            rw [if_pos (show nI cm = 0 by rw [m0]; rfl)]
            obtain ⟨r', hr', t1, t2⟩ := c_comp c
            rw [hr']
            simp only [pw_cb]
            refine ok_lt (ok_lt ?_)
            have c7 : CF n X np nd st p W C 1 (pI h 13 7 (nI 1)) := c.cmp (by decide)
            have F7 : FrC h (pI h 13 7 (nI 1)) := FrC_13
            have z7 : (pI h 13 7 (nI 1)).1 13 7 = nI 1 := pw_pIs
            show ok (lt (fun (t29 : Int32) (h30 : PH) => zr t29 h30) (fun (j92 : Int32 → PH → Option (Int32 × PH)) => if r' < 0 then (cb (f_X6_refuse 13 (2 : Int32) (pI h 13 7 (nI 1))) (fun (r31 : Int32) (h32 : PH) => j92 r31 h32)) else (cb (f_X6_join 13 r' (2 : Int32) (pI h 13 7 (nI 1))) (fun (r33 : Int32) (h34 : PH) => j92 r33 h34)))) _
            generalize pI h 13 7 (nI 1) = h7 at *
            refine ok_joinT (fun t h5 => PA n X np nd (if tc n X p = 22 ∨ tc n X p = 23 ∨ tc n X p = 24 then joinA n X (tc n X p - 17) 2 p W C 1 else .inl (flt n X 2 p)) h t h5) (fun t h5 q => PA_zr q) (fun j hj => ?_)
            by_cases qc : tc n X p = 22 ∨ tc n X p = 23 ∨ tc n X p = 24
            · simp only [if_pos qc] at hj ⊢
              rw [t1 qc]
              have hnl : ¬ (nI (tc n X p - 17) < (0 : Int32)) := by
                rw [pw_lit, pw_ltI (by omega) (by omega)]
                omega
              rw [if_neg hnl]
              refine ok_cb (c_join (code := tc n X p - 17) (next := 2) c7 z7 hb (by omega) (by omega) (by omega) (by omega) (by omega) (by omega)) ?_
              rintro r h6 q
              exact hj _ _ (PA_tr F7 q)
            · simp only [if_neg qc] at hj ⊢
              rw [t2 qc, if_pos (show mI < (0 : Int32) by decide +kernel)]
              refine ok_cb (c_refuse (k := 2) c7.2.1) ?_
              rintro r h6 ⟨rfl, f6, l6⟩
              exact hj _ _ ⟨FrC_trans F7 f6, rfl, l6⟩
          · have n3 : ¬ (st = 3 ∧ cm = 0) := fun y => m0 y.2
            have h7n : ¬ (nI cm = (0 : Int32)) := by
              rw [pw_lit, pw_eqI (by omega) (by omega)]
              exact m0
            rw [if_neg h7n]
            have hjj := hj _ ⟨FrC_rfl h, c, n1, n2, n3⟩
            simp only [if_neg n1, if_neg n2] at hjj
            exact hjj
    · rw [if_neg s3]
      exact hj _ ⟨FrC_rfl h, c, fun z => s3 z.1, fun z => s3 z.1, fun z => s3 z.1⟩

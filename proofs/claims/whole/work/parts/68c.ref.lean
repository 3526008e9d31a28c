set_option maxRecDepth 16384 in
theorem bfF : (bI false = (0 : Int32)) = True := eq_true rfl
set_option maxRecDepth 16384 in
theorem ST_b {n : Nat} {X : Nat → Nat} {np nd p : Nat} {l : List Nat} {h : PH} (s : ST n X np nd 0 p l h) : p ≤ n := s.2.1.2.2.2.2.2
/- a wish, up to its semicolon -/
set_option maxRecDepth 16384 in
theorem e_readWish {n : Nat} {X : Nat → Nat} {np nd p ln : Nat} {s : LnS} {h : PH} (hv : VL n X) (h1 : 1 ≤ np) (h2 : 1 ≤ nd) (hnp : np ≤ 4) (hnd : nd ≤ 6) (r : RLn n X np nd p s ln h) (hl : s.2.2.1.length ≤ 10) (ht : tc n X p = 4) : ok (f_X12_readWish 152 h) (fun _ h' => FrW h h' ∧ match (if 10 ≤ s.2.2.1.length then .inl (flt n X 4 p) else preW n X np nd p s) with
  | .inl e => FLt e h'
  | .inr q => RLn n X np nd q.1 q.2 ln h') := by
  obtain ⟨-, w52, w53, w54, w55, w56, w57, w58⟩ := ref_words
  have hnx := tc_nx (X := X) (b := p) (n := n) (by omega)
  have v5 : h.1 154 5 = nI s.2.2.1.length := r.2.2.2.2.1
  unfold f_X12_readWish
  simp only [r_152_1]
  have ld5 : ∀ (g : Int32 → Option (Unit × PH)), ldI h 154 1200 (5 : Int32) g = g (nI s.2.2.1.length) := fun g => by
    rw [pw_lit, pw_ldI (by omega) (by omega), v5]
  rw [ld5]
  have e10 : (nI s.2.2.1.length = (10 : Int32)) = (s.2.2.1.length = 10) := pw_eqI (a := s.2.2.1.length) (b := 10) (by omega) (by omega)
  refine ok_join (fun hh => (10 ≤ s.2.2.1.length ∧ FrW h hh ∧ FLt (flt n X 4 p) hh) ∨ (s.2.2.1.length < 10 ∧ hh = h)) ?_ (fun j hj => ?_)
  · rintro hh (⟨c10, f, l⟩ | ⟨c10, rfl⟩)
    · have hB : BX hh := FLt_B (flt_ok (by decide) (by decide)) l
      rw [if_neg hB, if_pos c10]
      exact ok_some ⟨f, l⟩
    · rw [if_pos (show hh.1 152 13 = 0 from r.1.2.2.1), if_neg (show ¬ 10 ≤ s.2.2.1.length by omega)]
      unfold preW headG
      refine ok_cb (e_on r.1.1 r.1.2.1) ?_
      rintro r3 h4 ⟨f4, R4⟩
      have r4 := r.on hl f4 R4 (by omega)
      have F4 : FrW hh h4 := FrW_R (FrR_fT f4)
      refine ok_cb (e_mustWord (w := 5) r4.1.1 r4.1.2.1 r4.1.2.2.1 (by decide) (by decide) (by decide) w56 (by decide)) ?_
      rintro r5 h6 ⟨f6, y1, y2⟩
      have F6 : FrW hh h6 := FrW_trans F4 (FrW_R f6)
      by_cases c5 : tc n X (nx n X p) = 5
      · have hnx2 := tc_nx (X := X) (b := nx n X p) (n := n) (by omega)
        obtain ⟨g6, R6⟩ := y1 c5
        have r6 := r4.on hl g6 R6 (by omega)
        rw [if_pos c5]
        refine ok_cb (e_number (lo := 0) (hi := 5) r6.1.1 r6.1.2.1 r6.1.2.2.1 (by decide) (by decide) hv) ?_
        rintro r7 h8 ⟨f8', d8, q8⟩
        have F8 : FrW hh h8 := FrW_trans F6 (FrW_R f8')
        refine ok_lt ?_
        cases hq : num n X 0 5 (nx n X (nx n X p)) with
        | inl e =>
          rw [hq] at q8
          have hB : BX h8 := FLt_B (num_e hq) q8
          have hB' : (h8.1 152 13 = (0 : Int32)) = False := eq_false hB
          simp only [pw_lt, pw_cb, e_tookB hB, bfF, if_true, e_mustSignB hB, fg_truthB (f := 64) (by decide) hB, hB', if_false]
          exact ok_some ⟨F8, q8⟩
        | inr a =>
          rw [hq] at q8
          obtain ⟨rfl, g8, R8, B8⟩ := q8
          have hon := num_on hq
          have r8 := r6.on hl g8 R8 (by omega)
          show ok _ (fun _ h' => FrW hh h' ∧ match bnd (bnd (wtG n X a.1) (fun b => bnd (clnG n X (muP n X b.1)) (fun q => .inr (q, a.2, b.2, muV n X b.1)))) (fun q => bnd (rTruth n X np nd 6 q.1 s.2.2.2) (fun r => (.inr (r.1, s.1, s.2.1, s.2.2.1 ++ [(q.2.1, q.2.2.1, q.2.2.2, r.2.length)], r.2) : (Nat × Nat) ⊕ (Nat × LnS)))) with
            | .inl e => FLt e h'
            | .inr q => RLn n X np nd q.1 q.2 ln h')
          refine ok_cb (e_took (w := 6) r8.1.1 r8.1.2.1 r8.1.2.2.1 (by decide) (by decide) (by decide) w57 (by decide)) ?_
          rintro r10 h11 ⟨rfl, f11, t1, t2⟩
          have F11 : FrW hh h11 := FrW_trans F8 (FrW_R (FrR_fT f11))
          refine ok_joinT (fun t h13 => FrW hh h13 ∧ match wtG n X a.1 with
            | .inl e => 1 ≤ e.1 ∧ e.1 ≤ 4 ∧ FLt e h13
            | .inr b => a.1 ≤ b.1 ∧ t = nI b.2 ∧ RLn n X np nd b.1 s ln h13) ?_ (fun j hj => ?_)
          · rintro t h13 ⟨F13, m13⟩
            refine ok_lt ?_
            cases hw : wtG n X a.1 with
            | inl e =>
              rw [hw] at m13
              have hB : BX h13 := FLt_B ⟨m13.1, m13.2.1⟩ m13.2.2
              have hB' : (h13.1 152 13 = (0 : Int32)) = False := eq_false hB
              simp only [pw_lt, pw_cb, e_tookB hB, bfF, if_true, e_mustSignB hB, fg_truthB (f := 64) (by decide) hB, hB', if_false]
              exact ok_some ⟨F13, m13.2.2⟩
            | inr b =>
              rw [hw] at m13
              obtain ⟨hab, rfl, r13⟩ := m13
              show ok _ (fun _ h' => FrW hh h' ∧ match bnd (bnd (clnG n X (muP n X b.1)) (fun q => .inr (q, a.2, b.2, muV n X b.1))) (fun q => bnd (rTruth n X np nd 6 q.1 s.2.2.2) (fun r => (.inr (r.1, s.1, s.2.1, s.2.2.1 ++ [(q.2.1, q.2.2.1, q.2.2.2, r.2.length)], r.2) : (Nat × Nat) ⊕ (Nat × LnS)))) with
                | .inl e => FLt e h'
                | .inr q => RLn n X np nd q.1 q.2 ln h')
              refine ok_cb (e_took (w := 7) r13.1.1 r13.1.2.1 r13.1.2.2.1 (by decide) (by decide) (by decide) w58 (by decide)) ?_
              rintro r15 h16 ⟨rfl, f16, t1', t2'⟩
              have F16 : FrW hh h16 := FrW_trans F13 (FrW_R (FrR_fT f16))
              refine ok_lt ?_
              have r16 : RLn n X np nd (muP n X b.1) s ln h16 := by
                unfold muP
                by_cases c7 : tc n X b.1 = 7
                · have hnx3 := tc_nx (X := X) (b := b.1) (n := n) (by omega)
                  rw [if_pos c7]
                  exact r13.on hl f16 (t1' c7) (by omega)
                · rw [if_neg c7, t2' c7]
                  exact r13
              refine ok_cb (e_mustSign (w := 8) (c := 58) r16.1.1 r16.1.2.1 r16.1.2.2.1 (by decide) (by decide) (by decide) (by decide) (by decide)) ?_
              rintro r18 h19 ⟨f19, d19, z1, z2⟩
              have F19 : FrW hh h19 := FrW_trans F16 (FrW_R f19)
              by_cases c8 : tc n X (muP n X b.1) = 8
              · have hnx4 := tc_nx (X := X) (b := muP n X b.1) (n := n) (by omega)
                obtain ⟨g19, R19⟩ := z1 c8
                have r19 := r16.on hl g19 R19 (by omega)
                have hc8 : clnG n X (muP n X b.1) = .inr (nx n X (muP n X b.1)) := if_pos c8
                rw [hc8]
                show ok _ (fun _ h' => FrW hh h' ∧ match bnd (rTruth n X np nd 6 (nx n X (muP n X b.1)) s.2.2.2) (fun r => (.inr (r.1, s.1, s.2.1, s.2.2.1 ++ [(a.2, b.2, muV n X b.1, r.2.length)], r.2) : (Nat × Nat) ⊕ (Nat × LnS))) with
                  | .inl e => FLt e h'
                  | .inr q => RLn n X np nd q.1 q.2 ln h')
                refine ok_cb (e_rTruth hv h1 h2 hnp hnd r19.1) ?_
                rintro r20 h21 ⟨f21, q21⟩
                have F21 : FrW hh h21 := FrW_trans F19 (FrW_R f21)
                have gd := gd_rTruth (np := np) (nd := nd) (l := s.2.2.2) hv h1 h2 6 hnx4.2
                cases hr : rTruth n X np nd 6 (nx n X (muP n X b.1)) s.2.2.2 with
                | inl e =>
                  rw [hr] at q21 gd
                  have hB : BX h21 := FLt_B gd q21
                  rw [if_neg hB]
                  exact ok_some ⟨F21, q21⟩
                | inr q =>
                  rw [hr] at q21
                  rw [if_pos (show h21.1 152 13 = 0 from q21.2.2.1)]
                  have FH21 := r19.2.R hl f21.2.2
                  refine ok_mono (e_wishEnd (b := a.2) (w := b.2) (c := tc n X b.1 = 7) q21 FH21 c10) ?_
                  rintro r22 h35 ⟨F35, S35, FH35⟩
                  exact ⟨FrW_trans F21 F35, S35, FH35⟩
              · have l19 := z2 c8
                have hB : BX h19 := FLt_B (flt_ok (by decide) (by decide)) l19
                have hc8 : clnG n X (muP n X b.1) = .inl (flt n X 2 (muP n X b.1)) := if_neg c8
                rw [hc8]
                have hB' : (h19.1 152 13 = (0 : Int32)) = False := eq_false hB
                simp only [pw_lt, pw_cb, fg_truthB (f := 64) (by decide) hB, hB', if_false]
                exact ok_some ⟨F19, l19⟩
          · by_cases c6 : tc n X a.1 = 6
            · have hnx3 := tc_nx (X := X) (b := a.1) (n := n) (by omega)
              have hwt : wtG n X a.1 = num n X 1 9 (nx n X a.1) := if_pos c6
              rw [if_neg (show ¬ bI (decide (tc n X a.1 = 6)) = (0 : Int32) by rw [decide_eq_true c6]; decide)]
              have r11 := r8.on hl f11 (t1 c6) (by omega)
              refine ok_cb (e_number (lo := 1) (hi := 9) r11.1.1 r11.1.2.1 r11.1.2.2.1 (by decide) (by decide) hv) ?_
              rintro r36 h37 ⟨f37, d37, q37⟩
              refine hj _ _ ⟨FrW_trans F11 (FrW_R f37), ?_⟩
              rw [hwt]
              cases hq2 : num n X 1 9 (nx n X a.1) with
              | inl e =>
                rw [hq2] at q37
                exact ⟨(num_e hq2).1, (num_e hq2).2, q37⟩
              | inr b =>
                rw [hq2] at q37
                obtain ⟨rfl, g37, R37, B37⟩ := q37
                have hon2 := num_on hq2
                exact ⟨by omega, rfl, r11.on hl g37 R37 (by omega)⟩
            · have hwt : wtG n X a.1 = .inr (a.1, 1) := if_neg c6
              rw [if_pos (show bI (decide (tc n X a.1 = 6)) = (0 : Int32) by rw [decide_eq_false c6]; rfl)]
              refine hj _ _ ⟨F11, ?_⟩
              rw [hwt, t2 c6]
              exact ⟨Nat.le_refl _, rfl, r8⟩
      · have l6 := y2 c5
        have hB : BX h6 := FLt_B (flt_ok (by decide) (by decide)) l6
        have hB' : (h6.1 152 13 = (0 : Int32)) = False := eq_false hB
        rw [if_neg c5]
        simp only [pw_lt, pw_cb, e_numberB hB, e_tookB hB, bfF, if_true, e_mustSignB hB, fg_truthB (f := 64) (by decide) hB, hB', if_false]
        exact ok_some ⟨F6, l6⟩
  · simp only [e10]
    by_cases c10 : s.2.2.1.length = 10
    · rw [if_pos c10]
      refine ok_cb (e_blames (k := 4) r.1.1 r.1.2.1 r.1.2.2.1) ?_
      rintro r38 hh ⟨f, l, -⟩
      exact hj _ (Or.inl ⟨by omega, FrW_R f, l⟩)
    · rw [if_neg c10]
      exact hj _ (Or.inr ⟨by omega, rfl⟩)
/- a line -/
set_option maxRecDepth 16384 in
theorem e_line {n : Nat} {X : Nat → Nat} {np nd p ln : Nat} {s : LnS} {h : PH} (hv : VL n X) (h1 : 1 ≤ np) (h2 : 1 ≤ nd) (hnp : np ≤ 4) (hnd : nd ≤ 6) (r : RLn n X np nd p s ln h) (o : OKS np nd s) : ok (f_X12_readLine 152 h) (fun _ h' => FrW h h' ∧ match lineG n X np nd p s with
  | .inl e => FLt e h'
  | .inr q => RLn n X np nd q.1 q.2 (ln + 1) h') := by
  obtain ⟨-, w52, w53, w54, w55, w56, w57, w58⟩ := ref_words
  have hl := o.2.2.1
  have hpn := ST_b r.1
  unfold f_X12_readLine
  simp only [r_152_1]
  refine ok_cb (e_took (w := 9) r.1.1 r.1.2.1 r.1.2.2.1 (by decide) (by decide) (by decide) w53 (by decide)) ?_
  rintro r1 h2' ⟨rfl, f2, t1, t2⟩
  have F2 : FrW h h2' := FrW_R (FrR_fT f2)
  refine ok_join (fun h3 => FrW h h3 ∧ ((∃ e, lineG n X np nd p s = .inl e ∧ 1 ≤ e.1 ∧ e.1 ≤ 4 ∧ FLt e h3) ∨ ∃ (p' : Nat) (s' : LnS), lineG n X np nd p s = bnd (stopG n X p') (fun e => .inr (e, s')) ∧ RLn n X np nd p' s' ln h3 ∧ s'.2.2.1.length ≤ 10)) ?_ (fun j hj => ?_)
  · rintro h3 ⟨F3, ⟨e, he, he1, he2, l3⟩ | ⟨p', s', he, r3, hl3⟩⟩
    · have hB : BX h3 := FLt_B ⟨he1, he2⟩ l3
      rw [e_stopB hB, he]
      exact ok_some ⟨F3, l3⟩
    · refine ok_cb (e_stop r3 hl3) ?_
      rintro r4 h5 ⟨F5, q5⟩
      rw [he]
      cases hs : stopG n X p' with
      | inl e =>
        rw [hs] at q5
        exact ok_some ⟨FrW_trans F3 F5, q5⟩
      | inr e =>
        rw [hs] at q5
        exact ok_some ⟨FrW_trans F3 F5, q5⟩
  · by_cases c9 : tc n X p = 9
    · have hnx := tc_nx (X := X) (b := p) (n := n) (by omega)
      rw [if_neg (show ¬ bI (decide (tc n X p = 9)) = (0 : Int32) by rw [decide_eq_true c9]; decide)]
      have r2 := r.on hl f2 (t1 c9) (by omega)
      have hlg : lineG n X np nd p s = bnd (num n X 0 6 (nx n X p)) (fun a => bnd (stopG n X a.1) (fun e => .inr (e, a.2, s.2.1, s.2.2.1, s.2.2.2))) := by
        unfold lineG
        rw [if_neg (by omega), if_pos c9]
      refine e_lineNum (bx := true) (hi := 6) hv r2 hl (by decide) (fun h' F' q' => hj h' ⟨FrW_trans F2 F', ?_⟩)
      rw [hlg]
      cases hq : num n X 0 6 (nx n X p) with
      | inl e =>
        rw [hq] at q'
        exact Or.inl ⟨e, rfl, (num_e hq).1, (num_e hq).2, q'⟩
      | inr a =>
        rw [hq] at q'
        exact Or.inr ⟨a.1, upS true a.2 s, rfl, q', hl⟩
    · have e2 := t2 c9
      subst e2
      rw [if_pos (show bI (decide (tc n X p = 9)) = (0 : Int32) by rw [decide_eq_false c9]; rfl)]
      refine ok_cb (e_took (w := 10) r.1.1 r.1.2.1 r.1.2.2.1 (by decide) (by decide) (by decide) w54 (by decide)) ?_
      rintro r6 h7 ⟨rfl, f7, t1', t2'⟩
      have F7 : FrW h2' h7 := FrW_R (FrR_fT f7)
      by_cases c10 : tc n X p = 10
      · have hnx := tc_nx (X := X) (b := p) (n := n) (by omega)
        rw [if_neg (show ¬ bI (decide (tc n X p = 10)) = (0 : Int32) by rw [decide_eq_true c10]; decide)]
        have r7 := r.on hl f7 (t1' c10) (by omega)
        have hlg : lineG n X np nd p s = bnd (num n X 0 3 (nx n X p)) (fun a => bnd (stopG n X a.1) (fun e => .inr (e, s.1, a.2, s.2.2.1, s.2.2.2))) := by
          unfold lineG
          rw [if_neg (by omega), if_neg c9, if_pos c10]
        refine e_lineNum (bx := false) (hi := 3) hv r7 hl (by decide) (fun h' F' q' => hj h' ⟨FrW_trans F7 F', ?_⟩)
        rw [hlg]
        cases hq : num n X 0 3 (nx n X p) with
        | inl e =>
          rw [hq] at q'
          exact Or.inl ⟨e, rfl, (num_e hq).1, (num_e hq).2, q'⟩
        | inr a =>
          rw [hq] at q'
          exact Or.inr ⟨a.1, upS false a.2 s, rfl, q', hl⟩
      · have e7 := t2' c10
        subst e7
        rw [if_pos (show bI (decide (tc n X p = 10)) = (0 : Int32) by rw [decide_eq_false c10]; rfl), e_isWord (w := 4) r.1.1 r.1.2.1 r.1.2.2.1 (by decide) (by decide) (by decide) w55 (by decide)]
        simp only [pw_cb]
        by_cases c4 : tc n X p = 4
        · rw [if_neg (show ¬ bI (decide (tc n X p = 4)) = (0 : Int32) by rw [decide_eq_true c4]; decide)]
          have hlg : lineG n X np nd p s = if 10 ≤ s.2.2.1.length then .inl (flt n X 4 p) else wishG n X np nd p s := by
            unfold lineG
            rw [if_pos c4]
          refine ok_cb (e_readWish hv h1 h2 hnp hnd r hl c4) ?_
          rintro r12 h13 ⟨F13, q13⟩
          refine hj _ ⟨F13, ?_⟩
          rw [hlg]
          by_cases k10 : 10 ≤ s.2.2.1.length
          · rw [if_pos k10] at q13 ⊢
            exact Or.inl ⟨_, rfl, (flt_ok (by decide) (by decide)).1, (flt_ok (by decide) (by decide)).2, q13⟩
          · rw [if_neg k10] at q13 ⊢
            unfold preW at q13
            unfold wishG
            cases hh : headG n X p with
            | inl e =>
              rw [hh] at q13
              exact Or.inl ⟨e, rfl, (head_e hh).1, (head_e hh).2, q13⟩
            | inr q =>
              rw [hh] at q13
              obtain ⟨g1, g2, g3, g4, g5, g6⟩ := head_on (by omega) hh
              have gd := gd_rTruth (np := np) (nd := nd) (l := s.2.2.2) hv h1 h2 6 g2
              have q13 : match bnd (rTruth n X np nd 6 q.1 s.2.2.2) (fun r => (.inr (r.1, s.1, s.2.1, s.2.2.1 ++ [(q.2.1, q.2.2.1, q.2.2.2, r.2.length)], r.2) : (Nat × Nat) ⊕ (Nat × LnS))) with
                | .inl e => FLt e h13
                | .inr q => RLn n X np nd q.1 q.2 ln h13 := q13
              show (∃ e, bnd (rTruth n X np nd 6 q.1 s.2.2.2) (fun r => bnd (stopG n X r.1) (fun e => (.inr (e, s.1, s.2.1, s.2.2.1 ++ [(q.2.1, q.2.2.1, q.2.2.2, r.2.length)], r.2) : (Nat × Nat) ⊕ (Nat × LnS)))) = .inl e ∧ 1 ≤ e.1 ∧ e.1 ≤ 4 ∧ FLt e h13) ∨ ∃ (p' : Nat) (s' : LnS), bnd (rTruth n X np nd 6 q.1 s.2.2.2) (fun r => bnd (stopG n X r.1) (fun e => (.inr (e, s.1, s.2.1, s.2.2.1 ++ [(q.2.1, q.2.2.1, q.2.2.2, r.2.length)], r.2) : (Nat × Nat) ⊕ (Nat × LnS)))) = bnd (stopG n X p') (fun e => .inr (e, s')) ∧ RLn n X np nd p' s' ln h13 ∧ s'.2.2.1.length ≤ 10
              cases hr : rTruth n X np nd 6 q.1 s.2.2.2 with
              | inl e =>
                rw [hr] at q13 gd
                exact Or.inl ⟨e, rfl, gd.1, gd.2, q13⟩
              | inr w =>
                rw [hr] at q13
                refine Or.inr ⟨w.1, _, rfl, q13, ?_⟩
                show (s.2.2.1 ++ [(q.2.1, q.2.2.1, q.2.2.2, w.2.length)]).length ≤ 10
                rw [List.length_append, List.length_singleton]
                omega
        · rw [if_pos (show bI (decide (tc n X p = 4)) = (0 : Int32) by rw [decide_eq_false c4]; rfl)]
          have hlg : lineG n X np nd p s = .inl (flt n X 2 p) := by
            unfold lineG
            rw [if_neg c4, if_neg c9, if_neg c10]
          refine ok_cb (e_blames (k := 2) r.1.1 r.1.2.1 r.1.2.2.1) ?_
          rintro r10 h11 ⟨f11, l11, -⟩
          exact hj _ ⟨FrW_R f11, Or.inl ⟨_, hlg, (flt_ok (by decide) (by decide)).1, (flt_ok (by decide) (by decide)).2, l11⟩⟩

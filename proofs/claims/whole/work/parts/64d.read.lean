/-! ===== units and truths ===== -/
set_option maxRecDepth 16384 in
theorem e_truthOf {n : Nat} {X : Nat → Nat} {np nd d b f : Nat} {u : Nat → List Nat → Rz} (gu : ∀ p l, p ≤ n → Gd n np nd true b (u p l) p l) (hu : ∀ p l h, ST n X np nd d p l h → ok (fgRead f 2 152 h) (fun _ h' => PO n X np nd d (u p l) h h')) {p : Nat} {l : List Nat} {h : PH} (S : ST n X np nd d p l h) : ok (fgRead (f + 2) 0 152 h) (fun _ h' => PO n X np nd d (truthG n X u p l) h h') := by
  obtain ⟨⟨w60, w61, w62, w63, w59, w64, w65⟩, -⟩ := ref_words
  have gb : ∀ p l, p ≤ n → Gd n np nd true (b + 1) (bothG n X u p l) p l := fun p l hpn => by
    unfold bothG
    exact gd_bnd (gu p l hpn) (fun q g => gd_rep opB_ok gu 901 q.1 q.2 p l (gd_mono (by omega) g))
  have hb : ∀ p l h, ST n X np nd d p l h → ok (fgRead (f + 1) 1 152 h) (fun _ h' => PO n X np nd d (bothG n X u p l) h h') := by
    intro p l h S
    have hpn := S.2.1.2.2.2.2.2
    rw [fg_1]
    unfold g_X12_readBoth bothG
    refine e_seq (body := b_X12_readBoth_4 152 (fgRead f)) (first := fun h => fgRead f 2 152 h) (fun p c => (opB_ok p c).1) gu ?_ ?_ ?_ (gu p l hpn) (hu p l h S)
    · intro rec h p l S c
      unfold b_X12_readBoth_4
      obtain ⟨r, x, hx, y1, -, -, y4⟩ := e_took (w := 25) S.1 S.2.1 S.2.2.1 (by decide) (by decide) (by decide) w64 (by decide)
      have c25 := opB_0.mp c
      rw [hx, y1, y4 c25, decide_eq_false c25]
      rfl
    · intro rec h B
      exact bothB B rec
    · intro rec h p l Q S c hk
      have c25 : tc n X p = 25 := by
        rcases Classical.em (tc n X p = 25) with q | q
        · exact q
        · exact absurd (opB_0.mpr q) c
      have hnx := tc_nx (X := X) (b := p) (n := n) (by omega)
      have ho : opB n X p = 16 := by
        unfold opB
        rw [if_pos c25]
      rw [ho] at hk
      have hl := S.2.2.2.2.2.2.2.2
      unfold b_X12_readBoth_4
      refine ok_cb (e_took (w := 25) S.1 S.2.1 S.2.2.1 (by decide) (by decide) (by decide) w64 (by decide)) ?_
      rintro r1 h1' ⟨rfl, f1, R1, -⟩
      have S1 := S.on f1 (R1 c25) (by omega)
      rw [decide_eq_true c25, if_neg (show ¬ bI true = (0 : Int32) by decide)]
      exact e_thenStep (s := 16) (it := fun h => fgRead f 2 152 h) (k := fun h => rec () h) (gu (nx n X p) l hnx.2) (by omega) (hu _ _ _ S1) (fun h2 P2 => hk h2 (PO_tr (FrR_fT f1) P2))
  have hpn := S.2.1.2.2.2.2.2
  rw [fg_0]
  unfold g_X12_readTruth truthG
  refine e_seq (body := b_X12_readTruth_4 152 (fgRead (f + 1))) (first := fun h => fgRead (f + 1) 1 152 h) (fun p c => (opO_ok p c).1) gb ?_ ?_ ?_ (gb p l hpn) (hb p l h S)
  · intro rec h p l S c
    unfold b_X12_readTruth_4
    obtain ⟨r, x, hx, y1, -, -, y4⟩ := e_took (w := 26) S.1 S.2.1 S.2.2.1 (by decide) (by decide) (by decide) w65 (by decide)
    have c26 := opO_0.mp c
    rw [hx, y1, y4 c26, decide_eq_false c26]
    rfl
  · intro rec h B
    exact truthB B rec
  · intro rec h p l Q S c hk
    have c26 : tc n X p = 26 := by
      rcases Classical.em (tc n X p = 26) with q | q
      · exact q
      · exact absurd (opO_0.mpr q) c
    have hnx := tc_nx (X := X) (b := p) (n := n) (by omega)
    have ho : opO n X p = 17 := by
      unfold opO
      rw [if_pos c26]
    rw [ho] at hk
    have hl := S.2.2.2.2.2.2.2.2
    unfold b_X12_readTruth_4
    refine ok_cb (e_took (w := 26) S.1 S.2.1 S.2.2.1 (by decide) (by decide) (by decide) w65 (by decide)) ?_
    rintro r1 h1' ⟨rfl, f1, R1, -⟩
    have S1 := S.on f1 (R1 c26) (by omega)
    rw [decide_eq_true c26, if_neg (show ¬ bI true = (0 : Int32) by decide)]
    exact e_thenStep (s := 17) (it := fun h => fgRead (f + 1) 1 152 h) (k := fun h => rec () h) (gb (nx n X p) l hnx.2) (by omega) (hb _ _ _ S1) (fun h2 P2 => hk h2 (PO_tr (FrR_fT f1) P2))
set_option maxRecDepth 16384 in
theorem e_unit {n : Nat} {X : Nat → Nat} {np nd : Nat} (hv : VL n X) (h1 : 1 ≤ np) (h2 : 1 ≤ nd) (hnp : np ≤ 4) (hnd : nd ≤ 6) : ∀ m, m ≤ 6 → ∀ f, 7 + 3 * m ≤ f → ∀ p l h, ST n X np nd (6 - m) p l h → ok (fgRead f 2 152 h) (fun _ h' => PO n X np nd (6 - m) (rUnit n X np nd m p l) h h') := by
  obtain ⟨⟨w60, w61, w62, w63, w59, w64, w65⟩, -⟩ := ref_words
  intro m
  induction m with
  | zero =>
    intro hm f hf p l h S
    obtain ⟨f, rfl⟩ : ∃ k, f = k + 1 := ⟨f - 1, by omega⟩
    rw [fg_2]
    unfold g_X12_readUnit rUnit
    rw [if_pos (show h.1 152 13 = (0 : Int32) from S.2.2.1), e_isWord (w := 11) S.1 S.2.1 S.2.2.1 (by decide) (by decide) (by decide) w59 (by decide)]
    simp only [pw_cb]
    refine ok_lt ?_
    simp only [pw_lit]
    by_cases c11 : tc n X p = 11
    · rw [decide_eq_true c11, if_neg (show ¬ bI true = nI 0 by decide), if_pos c11]
      exact e_nest6 (it := fun h => fgRead f 2 152 h) (k := fun h31 => cb (f_X12_laysStep 152 (nI 18) h31) (fun (_ : Unit) (h33 : PH) => lt (pI h33 152 17 ((h33.1 152 17) - nI 1)) (fun (h34 : PH) => some ((), h34)))) S (by omega) (fun h1 B => fg_unitB (by omega) B) (fun h1 B => ⟨_, by rw [e_laysStepB B]; rfl⟩)
    · rw [decide_eq_false c11, if_pos (show bI false = nI 0 from rfl), S.isS (w := 12) (c := 91) (by decide) (by decide) (by decide) (by decide) (by decide)]
      simp only [pw_cb]
      rw [if_neg c11]
      by_cases c12 : tc n X p = 12
      · rw [decide_eq_true c12, if_neg (show ¬ bI true = nI 0 by decide), if_pos c12]
        exact e_nest6 (it := fun h => fgRead f 0 152 h) (k := fun h24 => cb (f_X12_mustSign 152 (nI 93) h24) (fun (_ : Unit) (h26 : PH) => lt (pI h26 152 17 ((h26.1 152 17) - nI 1)) (fun (h27 : PH) => some ((), h27)))) S (by omega) (fun h1 B => fg_truthB (by omega) B) (fun h1 B => ⟨_, by rw [e_mustSignB B]; rfl⟩)
      · rw [decide_eq_false c12, if_pos (show bI false = nI 0 from rfl), if_neg c12]
        exact e_cmp (it := fun h => fgRead f 3 152 h) (fun p l hp => gd_rSum hv h1 h2 0 hp) (fun h B => fg_sumB (by omega) B) (fun p l h S => e_rSum hv h1 h2 hnp hnd 0 (by omega) f (by omega) p l h S) S
  | succ m ih =>
    intro hm f hf p l h S
    obtain ⟨f, rfl⟩ : ∃ k, f = k + 1 := ⟨f - 1, by omega⟩
    have e6 : 6 - (m + 1) + 1 = 6 - m := by omega
    rw [fg_2]
    unfold g_X12_readUnit rUnit
    rw [if_pos (show h.1 152 13 = (0 : Int32) from S.2.2.1), e_isWord (w := 11) S.1 S.2.1 S.2.2.1 (by decide) (by decide) (by decide) w59 (by decide)]
    simp only [pw_cb]
    refine ok_lt ?_
    simp only [pw_lit]
    by_cases c11 : tc n X p = 11
    · have hnx := tc_nx (X := X) (b := p) (n := n) (by omega)
      rw [decide_eq_true c11, if_neg (show ¬ bI true = nI 0 by decide), if_pos c11]
      refine ok_cb (e_goesIn S (by omega) (by omega)) ?_
      rintro r1 h29 ⟨f29, q1, -⟩
      have S29 := q1 (by omega)
      rw [e6] at S29
      have g := gd_unit hv h1 h2 m (nx n X p) l hnx.2
      have hl := S.2.2.2.2.2.2.2.2
      have hfin := e_thenStep (s := 18) (it := fun h => fgRead f 2 152 h) (k := fun h33 => lt (pI h33 152 17 ((h33.1 152 17) - nI 1)) (fun (h34 : PH) => some ((), h34))) (Q := fun _ h' => PO n X np nd (6 - (m + 1)) (bnd (rUnit n X np nd m (nx n X p) l) (fun q => .inr (q.1, q.2 ++ [18]))) h h') g (by omega) (ih (by omega) f (by omega) (nx n X p) l h29 S29) (fun h2 P2 => ?_)
      · exact hfin
      · refine ok_lt ?_
        have f2 := FrR_trans f29 (FrR_trans P2.1 (FrR_pI (h := h2) (j := 17) (v := h2.1 152 17 - nI 1) (by omega)))
        cases hq : rUnit n X np nd m (nx n X p) l with
        | inl e =>
          rw [hq] at P2
          exact ok_some ⟨f2, FLt_17 P2.2⟩
        | inr q =>
          rw [hq] at P2
          have v17 : h2.1 152 17 - nI 1 = nI (6 - (m + 1)) := by rw [P2.2.2.2.2.1, pw_sub (by omega), show 6 - m - 1 = 6 - (m + 1) by omega]
          rw [v17] at f2 ⊢
          exact ok_some ⟨f2, P2.2.deep⟩
    · rw [decide_eq_false c11, if_pos (show bI false = nI 0 from rfl), S.isS (w := 12) (c := 91) (by decide) (by decide) (by decide) (by decide) (by decide)]
      simp only [pw_cb]
      rw [if_neg c11]
      by_cases c12 : tc n X p = 12
      · have hnx := tc_nx (X := X) (b := p) (n := n) (by omega)
        rw [decide_eq_true c12, if_neg (show ¬ bI true = nI 0 by decide), if_pos c12]
        refine e_nest (w := 27) (c := 93) (it := fun h => fgRead f 0 152 h) S (by omega) (by omega) (by decide) (by decide) (by decide) (by decide) (by decide) (gd_truth (gd_unit hv h1 h2 m) hnx.2) (fun h1' S1 => ?_)
        rw [e6] at S1 ⊢
        obtain ⟨f, rfl⟩ : ∃ k, f = k + 2 := ⟨f - 2, by omega⟩
        exact e_truthOf (gd_unit hv h1 h2 m) (fun p l h S => ih (by omega) f (by omega) p l h S) S1
      · rw [decide_eq_false c12, if_pos (show bI false = nI 0 from rfl), if_neg c12]
        exact e_cmp (it := fun h => fgRead f 3 152 h) (fun p l hp => gd_rSum hv h1 h2 (m + 1) hp) (fun h B => fg_sumB (by omega) B) (fun p l h S => e_rSum hv h1 h2 hnp hnd (m + 1) (by omega) f (by omega) p l h S) S
set_option maxRecDepth 16384 in
theorem e_rTruth {n : Nat} {X : Nat → Nat} {np nd : Nat} (hv : VL n X) (h1 : 1 ≤ np) (h2 : 1 ≤ nd) (hnp : np ≤ 4) (hnd : nd ≤ 6) {p : Nat} {l : List Nat} {h : PH} (S : ST n X np nd 0 p l h) : ok (fgRead 64 0 152 h) (fun _ h' => PO n X np nd 0 (rTruth n X np nd 6 p l) h h') :=
  e_truthOf (f := 62) (gd_unit hv h1 h2 6) (fun p l h S => e_unit hv h1 h2 hnp hnd 6 (by omega) 62 (by omega) p l h S) S

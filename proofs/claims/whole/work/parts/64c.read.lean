/-! ===== the reference's recursion ===== -/
set_option maxRecDepth 16384 in
theorem fg_5 (f : Nat) (h : PH) : fgRead (f + 1) 5 152 h = g_X12_readAtom (fgRead f) 152 h := rfl
set_option maxRecDepth 16384 in
theorem fg_4 (f : Nat) (h : PH) : fgRead (f + 1) 4 152 h = g_X12_readTerm (fgRead f) 152 h := rfl
set_option maxRecDepth 16384 in
theorem fg_3 (f : Nat) (h : PH) : fgRead (f + 1) 3 152 h = g_X12_readSum (fgRead f) 152 h := rfl
set_option maxRecDepth 16384 in
theorem fg_2 (f : Nat) (h : PH) : fgRead (f + 1) 2 152 h = g_X12_readUnit (fgRead f) 152 h := rfl
set_option maxRecDepth 16384 in
theorem fg_1 (f : Nat) (h : PH) : fgRead (f + 1) 1 152 h = g_X12_readBoth (fgRead f) 152 h := rfl
set_option maxRecDepth 16384 in
theorem fg_0 (f : Nat) (h : PH) : fgRead (f + 1) 0 152 h = g_X12_readTruth (fgRead f) 152 h := rfl
set_option maxRecDepth 16384 in
theorem lpB {body : (Unit → PH → Option (Unit × PH)) → Unit → PH → Option (Unit × PH)} {h : PH} (hb : ∀ rec, body rec () h = some ((), h)) : lp body FU () h = some ((), h) :=
  lp_run (fun _ => ()) (fun _ => h) 0 _ (fun i hi => absurd hi (by omega)) hb FU (fu_lt (by omega))
set_option maxRecDepth 16384 in
theorem termB {fr : Nat → Nat → PH → Option (Unit × PH)} {h : PH} (B : BX h) (rec : Unit → PH → Option (Unit × PH)) : b_X12_readTerm_4 152 fr rec () h = some ((), h) := by
  unfold b_X12_readTerm_4
  rw [e_isSignB B]
  rfl
set_option maxRecDepth 16384 in
theorem sumB {fr : Nat → Nat → PH → Option (Unit × PH)} {h : PH} (B : BX h) (rec : Unit → PH → Option (Unit × PH)) : b_X12_readSum_4 152 fr rec () h = some ((), h) := by
  unfold b_X12_readSum_4
  rw [e_isSignB B]
  simp only [pw_cb, pw_lt]
  rw [if_pos (show bI false = (0 : Int32) from rfl), e_isSignB B]
  rfl
set_option maxRecDepth 16384 in
theorem bothB {fr : Nat → Nat → PH → Option (Unit × PH)} {h : PH} (B : BX h) (rec : Unit → PH → Option (Unit × PH)) : b_X12_readBoth_4 152 fr rec () h = some ((), h) := by
  unfold b_X12_readBoth_4
  rw [e_tookB B]
  rfl
set_option maxRecDepth 16384 in
theorem truthB {fr : Nat → Nat → PH → Option (Unit × PH)} {h : PH} (B : BX h) (rec : Unit → PH → Option (Unit × PH)) : b_X12_readTruth_4 152 fr rec () h = some ((), h) := by
  unfold b_X12_readTruth_4
  rw [e_tookB B]
  rfl
set_option maxRecDepth 16384 in
theorem fg_sumB {f : Nat} {h : PH} (hf : 3 ≤ f) (B : BX h) : fgRead f 3 152 h = some ((), h) := by
  obtain ⟨f, rfl⟩ : ∃ k, f = k + 3 := ⟨f - 3, by omega⟩
  rw [fg_3]
  unfold g_X12_readSum
  rw [fg_4]
  unfold g_X12_readTerm
  rw [fg_5, e_readAtomB B]
  simp only [pw_cb]
  rw [lpB (fun rec => termB B rec)]
  simp only [pw_cb]
  exact lpB (fun rec => sumB B rec)
set_option maxRecDepth 16384 in
theorem fg_unitB {f : Nat} {h : PH} (hf : 1 ≤ f) (B : BX h) : fgRead f 2 152 h = some ((), h) := by
  obtain ⟨f, rfl⟩ : ∃ k, f = k + 1 := ⟨f - 1, by omega⟩
  rw [fg_2, e_readUnitB B]
set_option maxRecDepth 16384 in
theorem fg_truthB {f : Nat} {h : PH} (hf : 3 ≤ f) (B : BX h) : fgRead f 0 152 h = some ((), h) := by
  obtain ⟨f, rfl⟩ : ∃ k, f = k + 3 := ⟨f - 3, by omega⟩
  rw [fg_0]
  unfold g_X12_readTruth
  rw [fg_1]
  unfold g_X12_readBoth
  rw [fg_2, e_readUnitB B]
  simp only [pw_cb]
  rw [lpB (fun rec => bothB B rec)]
  simp only [pw_cb]
  exact lpB (fun rec => truthB B rec)
set_option maxRecDepth 16384 in
theorem FLt_17 {e : Nat × Nat} {h : PH} {v : Int32} (f : FLt e h) : FLt e (pI h 152 17 v) := ⟨by rw [pw_pIo (by omega)]; exact f.1, by rw [pw_pIo (by omega)]; exact f.2⟩
/- what stands between an opening and a closing sign -/
set_option maxRecDepth 16384 in
theorem e_nest {n : Nat} {X : Nat → Nat} {np nd d p w c b : Nat} {t : Bool} {l : List Nat} {h : PH} {it : PH → Option (Unit × PH)} {r : Rz} (S : ST n X np nd d p l h) (hd : d < 6) (ht : tc n X p ≠ 0) (h1 : 2 ≤ w) (h2 : w ≤ 27) (hs : slen w = 1) (hc : wbN w 0 = c) (hG : isG c = true) (g : Gd n np nd t b r (nx n X p) l) (hit : ∀ h1, ST n X np nd (d + 1) (nx n X p) l h1 → ok (it h1) (fun _ h' => PO n X np nd (d + 1) r h1 h')) : ok (cb (f_X12_goesIn 152 h) (fun (_ : Unit) (h18 : PH) => cb (it h18) (fun (_ : Unit) (h20 : PH) => cb (f_X12_mustSign 152 (nI c) h20) (fun (_ : Unit) (h22 : PH) => lt (pI h22 152 17 ((h22.1 152 17) - nI 1)) (fun (h23 : PH) => some ((), h23)))))) (fun _ h' => PO n X np nd d (cls n X w r) h h') := by
  refine ok_cb (e_goesIn S (by omega) ht) ?_
  rintro r1 h18 ⟨f18, q1, -⟩
  have S18 := q1 hd
  refine ok_cb (hit h18 S18) ?_
  rintro r2 h20 P20
  unfold cls
  cases r with
  | inl e =>
    have hB : BX h20 := FLt_B g P20.2
    rw [e_mustSignB hB]
    simp only [pw_cb, pw_lt]
    exact ok_some ⟨FrR_trans f18 (FrR_trans P20.1 (FrR_pI (by omega))), FLt_17 P20.2⟩
  | inr q =>
    have S20 := P20.2
    refine ok_cb (e_mustSign S20.1 S20.2.1 S20.2.2.1 h1 h2 hs hc hG) ?_
    rintro r3 h22 ⟨f22, d22, y1, y2⟩
    refine ok_lt ?_
    have f0 : FrR h (pI h22 152 17 ((h22.1 152 17) - nI 1)) := FrR_trans f18 (FrR_trans P20.1 (FrR_trans f22 (FrR_pI (by omega))))
    show ok _ (fun _ h' => PO n X np nd d (if tc n X q.1 = w then .inr (nx n X q.1, q.2) else .inl (flt n X 2 q.1)) h h')
    by_cases cw : tc n X q.1 = w
    · rw [if_pos cw]
      obtain ⟨f3, R3⟩ := y1 cw
      have hnx := tc_nx (X := X) (b := q.1) (n := n) (by omega)
      have S22 : ST n X np nd (d + 1) (nx n X q.1) q.2 h22 := S20.on f3 R3 (by omega)
      have v17 : h22.1 152 17 - nI 1 = nI d := by rw [S22.2.2.2.1, pw_sub (by omega), Nat.add_sub_cancel]
      rw [v17] at f0 ⊢
      exact ok_some ⟨f0, S22.deep⟩
    · rw [if_neg cw]
      exact ok_some ⟨f0, FLt_17 (y2 cw)⟩
/- at the deepest, nothing opens -/
set_option maxRecDepth 16384 in
theorem e_nest6 {n : Nat} {X : Nat → Nat} {np nd p : Nat} {l : List Nat} {h : PH} {it : PH → Option (Unit × PH)} {k : PH → Option (Unit × PH)} (S : ST n X np nd 6 p l h) (ht : tc n X p ≠ 0) (hit : ∀ h1, BX h1 → it h1 = some ((), h1)) (hk : ∀ h1, BX h1 → ∃ v, k h1 = some ((), pI h1 152 17 v)) : ok (cb (f_X12_goesIn 152 h) (fun (_ : Unit) (h18 : PH) => cb (it h18) (fun (_ : Unit) (h20 : PH) => k h20))) (fun _ h' => PO n X np nd 6 (.inl (flt n X 4 p)) h h') := by
  refine ok_cb (e_goesIn S (by omega) ht) ?_
  rintro r1 h18 ⟨f18, -, q2⟩
  have l18 := q2 rfl
  have hB : BX h18 := FLt_B (flt_ok (by decide) (by decide)) l18
  rw [hit h18 hB]
  simp only [pw_cb]
  obtain ⟨v, hv⟩ := hk h18 hB
  rw [hv]
  exact ok_some ⟨FrR_trans f18 (FrR_pI (by omega)), FLt_17 l18⟩
set_option maxRecDepth 16384 in
theorem bndc {α : Type} {r : (Nat × Nat) ⊕ α} {f g : α → Rz} (h : ∀ a, f a = g a) : bnd r f = bnd r g := by
  cases r with
  | inl e => rfl
  | inr a => exact h a
/- an item, then a loop -/
set_option maxRecDepth 16384 in
theorem e_seq {n : Nat} {X : Nat → Nat} {np nd d b b' : Nat} {t : Bool} {op : Nat → Nat} {item : Nat → List Nat → Rz} {body : (Unit → PH → Option (Unit × PH)) → Unit → PH → Option (Unit × PH)} {first : PH → Option (Unit × PH)} {r : Rz} {p0 : Nat} {l0 : List Nat}
    (hop : ∀ p, op p ≠ 0 → tc n X p ≠ 0) (hi : ∀ p l, p ≤ n → Gd n np nd t b (item p l) p l)
    (H0 : ∀ rec h p l, ST n X np nd d p l h → op p = 0 → body rec () h = some ((), h))
    (HB : ∀ rec h, BX h → body rec () h = some ((), h))
    (H1 : ∀ rec h p l (Q : Unit → PH → Prop), ST n X np nd d p l h → op p ≠ 0 → (∀ h2, PO n X np nd d (bnd (item (nx n X p) l) (fun q => .inr (q.1, q.2 ++ [op p]))) h h2 → ok (rec () h2) Q) → ok (body rec () h) Q) {h : PH} (g : Gd n np nd t b' r p0 l0) (hf : ok (first h) (fun _ h' => PO n X np nd d r h h')) : ok (cb (first h) (fun _ h2 => lp body FU () h2)) (fun _ h' => PO n X np nd d (bnd r (fun q => rep n X op item 901 q.1 q.2)) h h') := by
  refine ok_cb hf ?_
  rintro r1 h2 P2
  cases r with
  | inl e =>
    have hB : BX h2 := FLt_B g P2.2
    rw [lpB (fun rec => HB rec h2 hB)]
    exact ok_some P2
  | inr q =>
    refine ok_mono (e_loop hop hi H0 HB H1 P2.2) ?_
    rintro r2 h3 P3
    exact PO_tr P2.1 P3
set_option maxRecDepth 16384 in
theorem opT_0 {n : Nat} {X : Nat → Nat} {p : Nat} : opT n X p = 0 ↔ tc n X p ≠ 20 := by
  unfold opT
  by_cases c : tc n X p = 20
  · rw [if_pos c]
    exact ⟨fun h => by omega, fun h => absurd c h⟩
  · rw [if_neg c]
    exact ⟨fun _ => c, fun _ => rfl⟩
set_option maxRecDepth 16384 in
theorem opB_0 {n : Nat} {X : Nat → Nat} {p : Nat} : opB n X p = 0 ↔ tc n X p ≠ 25 := by
  unfold opB
  by_cases c : tc n X p = 25
  · rw [if_pos c]
    exact ⟨fun h => by omega, fun h => absurd c h⟩
  · rw [if_neg c]
    exact ⟨fun _ => c, fun _ => rfl⟩
set_option maxRecDepth 16384 in
theorem opO_0 {n : Nat} {X : Nat → Nat} {p : Nat} : opO n X p = 0 ↔ tc n X p ≠ 26 := by
  unfold opO
  by_cases c : tc n X p = 26
  · rw [if_pos c]
    exact ⟨fun h => by omega, fun h => absurd c h⟩
  · rw [if_neg c]
    exact ⟨fun _ => c, fun _ => rfl⟩
set_option maxRecDepth 16384 in
theorem opS_0 {n : Nat} {X : Nat → Nat} {p : Nat} : opS n X p = 0 ↔ tc n X p ≠ 18 ∧ tc n X p ≠ 19 := by
  unfold opS
  by_cases c : tc n X p = 18
  · rw [if_pos c]
    exact ⟨fun h => by omega, fun h => absurd c h.1⟩
  · rw [if_neg c]
    by_cases c2 : tc n X p = 19
    · rw [if_pos c2]
      exact ⟨fun h => by omega, fun h => absurd c2 h.2⟩
    · rw [if_neg c2]
      exact ⟨fun _ => ⟨c, c2⟩, fun _ => rfl⟩
set_option maxRecDepth 16384 in
theorem ST.isS {n : Nat} {X : Nat → Nat} {np nd d p w c : Nat} {l : List Nat} {h : PH} (S : ST n X np nd d p l h) (h1 : 2 ≤ w) (h2 : w ≤ 27) (hs : slen w = 1) (hc : wbN w 0 = c) (hG : isG c = true) : f_X12_isSign 152 (nI c) h = some (bI (decide (tc n X p = w)), h) := e_isSign S.1 S.2.1 S.2.2.1 h1 h2 hs hc hG
/- the sum, out of its atoms -/
set_option maxRecDepth 16384 in
theorem e_sumOf {n : Nat} {X : Nat → Nat} {np nd d b f : Nat} {par : Nat → List Nat → Rz} (hv : VL n X) (h1 : 1 ≤ np) (h2 : 1 ≤ nd) (hb : 1 ≤ b) (hp : ∀ p l, p ≤ n → tc n X p = 13 → Gd n np nd false b (par p l) p l) (hat : ∀ p l h, ST n X np nd d p l h → ok (g_X12_readAtom (fgRead f) 152 h) (fun _ h' => PO n X np nd d (atomG n X np nd par p l) h h')) {p : Nat} {l : List Nat} {h : PH} (S : ST n X np nd d p l h) : ok (fgRead (f + 3) 3 152 h) (fun _ h' => PO n X np nd d (sumG n X np nd par p l) h h') := by
  have ga : ∀ p l, p ≤ n → Gd n np nd false b (atomG n X np nd par p l) p l := fun p l hpn => gd_atom hv h1 h2 hb hp hpn
  have gt : ∀ p l, p ≤ n → Gd n np nd false (b + 1) (termG n X np nd par p l) p l := fun p l hpn => by
    unfold termG
    exact gd_bnd (ga p l hpn) (fun q g => gd_rep opT_ok ga 901 q.1 q.2 p l (gd_mono (by omega) g))
  have ht : ∀ p l h, ST n X np nd d p l h → ok (fgRead (f + 2) 4 152 h) (fun _ h' => PO n X np nd d (termG n X np nd par p l) h h') := by
    intro p l h S
    have hpn := S.2.1.2.2.2.2.2
    rw [fg_4]
    unfold g_X12_readTerm termG
    refine e_seq (body := b_X12_readTerm_4 152 (fgRead (f + 1))) (first := fun h => fgRead (f + 1) 5 152 h) (fun p c => (opT_ok p c).1) ga ?_ ?_ ?_ (ga p l hpn) (by show ok (fgRead (f + 1) 5 152 h) _; rw [fg_5]; exact hat p l h S)
    · intro rec h p l S c
      unfold b_X12_readTerm_4
      have hs : f_X12_isSign 152 (42 : Int32) h = some (bI (decide (tc n X p = 20)), h) := S.isS (w := 20) (c := 42) (by decide) (by decide) (by decide) (by decide) (by decide)
      rw [hs, decide_eq_false (opT_0.mp c)]
      rfl
    · intro rec h B
      exact termB B rec
    · intro rec h p l Q S c hk
      have c20 : tc n X p = 20 := by
        rcases Classical.em (tc n X p = 20) with q | q
        · exact q
        · exact absurd (opT_0.mpr q) c
      have hnx := tc_nx (X := X) (b := p) (n := n) (by omega)
      have ho : opT n X p = 12 := by
        unfold opT
        rw [if_pos c20]
      rw [ho] at hk
      unfold b_X12_readTerm_4
      have hs : f_X12_isSign 152 (42 : Int32) h = some (bI (decide (tc n X p = 20)), h) := S.isS (w := 20) (c := 42) (by decide) (by decide) (by decide) (by decide) (by decide)
      rw [hs, decide_eq_true c20]
      simp only [pw_cb]
      rw [if_neg (show ¬ bI true = (0 : Int32) by decide)]
      refine ok_cb (e_on S.1 S.2.1) ?_
      rintro r1 h1' ⟨f1, R1⟩
      have S1 := S.on f1 R1 (by omega)
      have hl := S.2.2.2.2.2.2.2.2
      refine e_thenStep (s := 12) (it := fun h => fgRead (f + 1) 5 152 h) (k := fun h => rec () h) (ga (nx n X p) l hnx.2) (by omega) (by show ok (fgRead (f + 1) 5 152 h1') _; rw [fg_5]; exact hat _ _ _ S1) (fun h2 P2 => hk h2 (PO_tr (FrR_fT f1) P2))
  have hpn := S.2.1.2.2.2.2.2
  rw [fg_3]
  unfold g_X12_readSum sumG
  refine e_seq (body := b_X12_readSum_4 152 (fgRead (f + 2))) (first := fun h => fgRead (f + 2) 4 152 h) (fun p c => (opS_ok p c).1) gt ?_ ?_ ?_ (gt p l hpn) (ht p l h S)
  · intro rec h p l S c
    obtain ⟨c1, c2⟩ := opS_0.mp c
    unfold b_X12_readSum_4
    have hs : f_X12_isSign 152 (43 : Int32) h = some (bI (decide (tc n X p = 18)), h) := S.isS (w := 18) (c := 43) (by decide) (by decide) (by decide) (by decide) (by decide)
    have hs2 : f_X12_isSign 152 (45 : Int32) h = some (bI (decide (tc n X p = 19)), h) := S.isS (w := 19) (c := 45) (by decide) (by decide) (by decide) (by decide) (by decide)
    rw [hs, decide_eq_false c1]
    simp only [pw_cb, pw_lt]
    rw [if_pos (show bI false = (0 : Int32) from rfl), hs2, decide_eq_false c2]
    rfl
  · intro rec h B
    exact sumB B rec
  · intro rec h p l Q S c hk
    have hct := (opS_ok p c).1
    have hnx := tc_nx hct
    have hl := S.2.2.2.2.2.2.2.2
    have hkl := krf_lt (p := p) S.1
    have hs : f_X12_isSign 152 (43 : Int32) h = some (bI (decide (tc n X p = 18)), h) := S.isS (w := 18) (c := 43) (by decide) (by decide) (by decide) (by decide) (by decide)
    have hs2 : f_X12_isSign 152 (45 : Int32) h = some (bI (decide (tc n X p = 19)), h) := S.isS (w := 19) (c := 45) (by decide) (by decide) (by decide) (by decide) (by decide)
    have hkr : (nI (krf n X p) = (43 : Int32)) = (krf n X p = 43) := pw_eqI (a := krf n X p) (b := 43) (by omega) (by omega)
    have hk43 := krf_sg (n := n) (X := X) (p := p) (w := 18) (c := 43) (by decide) (by decide) (by decide) (by decide) (by decide)
    unfold b_X12_readSum_4
    rw [hs]
    simp only [pw_cb]
    refine ok_join (fun h5 => h5 = h) ?_ (fun j hj => ?_)
    · rintro h5 rfl
      refine ok_lt ?_
      rw [S.2.1.2.2.2.1]
      refine ok_cb (e_on S.1 S.2.1) ?_
      rintro r1 h1' ⟨f1, R1⟩
      have S1 := S.on f1 R1 (by omega)
      simp only [pw_lt, hkr]
      by_cases c18 : tc n X p = 18
      · have ho : opS n X p = 10 := by
          unfold opS
          rw [if_pos c18]
        rw [ho] at hk
        simp only [if_pos (hk43.mpr c18)]
        exact e_thenStep (s := 10) (it := fun h => fgRead (f + 2) 4 152 h) (k := fun h => rec () h) (gt (nx n X p) l hnx.2) (by omega) (ht _ _ _ S1) (fun h2 P2 => hk h2 (PO_tr (FrR_fT f1) P2))
      · have c19 : tc n X p = 19 := by
          rcases Classical.em (tc n X p = 19) with q | q
          · exact q
          · exact absurd (opS_0.mpr ⟨c18, q⟩) c
        have ho : opS n X p = 11 := by
          unfold opS
          rw [if_neg c18, if_pos c19]
        rw [ho] at hk
        simp only [if_neg (fun z => c18 (hk43.mp z))]
        exact e_thenStep (s := 11) (it := fun h => fgRead (f + 2) 4 152 h) (k := fun h => rec () h) (gt (nx n X p) l hnx.2) (by omega) (ht _ _ _ S1) (fun h2 P2 => hk h2 (PO_tr (FrR_fT f1) P2))
    · by_cases c18 : tc n X p = 18
      · rw [decide_eq_true c18, if_neg (show ¬ bI true = (0 : Int32) by decide)]
        exact hj _ rfl
      · have c19 : tc n X p = 19 := by
          rcases Classical.em (tc n X p = 19) with q | q
          · exact q
          · exact absurd (opS_0.mpr ⟨c18, q⟩) c
        rw [decide_eq_false c18, if_pos (show bI false = (0 : Int32) from rfl), hs2, decide_eq_true c19]
        simp only [pw_cb]
        rw [if_neg (show ¬ bI true = (0 : Int32) by decide)]
        exact hj _ rfl
set_option maxRecDepth 16384 in
theorem e_rSum {n : Nat} {X : Nat → Nat} {np nd : Nat} (hv : VL n X) (h1 : 1 ≤ np) (h2 : 1 ≤ nd) (hnp : np ≤ 4) (hnd : nd ≤ 6) : ∀ m, m ≤ 6 → ∀ f, 6 + 3 * m ≤ f → ∀ p l h, ST n X np nd (6 - m) p l h → ok (fgRead f 3 152 h) (fun _ h' => PO n X np nd (6 - m) (rSum n X np nd m p l) h h') := by
  intro m
  induction m with
  | zero =>
    intro hm f hf p l h S
    obtain ⟨f, rfl⟩ : ∃ k, f = k + 3 := ⟨f - 3, by omega⟩
    unfold rSum
    refine e_sumOf (d := 6 - 0) (b := 1) hv h1 h2 (by omega) (gd_par hv h1 h2 0) (fun p l h S => ?_) S
    refine e_atom hv h1 h2 hnp hnd S (fun c13 => ?_)
    unfold parG
    exact e_nest6 (it := fun h => fgRead f 3 152 h) (k := fun h20 => cb (f_X12_mustSign 152 (nI 41) h20) (fun (_ : Unit) (h22 : PH) => lt (pI h22 152 17 ((h22.1 152 17) - nI 1)) (fun (h23 : PH) => some ((), h23)))) S (by omega) (fun h1 B => fg_sumB (by omega) B) (fun h1 B => ⟨_, by rw [e_mustSignB B]; rfl⟩)
  | succ m ih =>
    intro hm f hf p l h S
    obtain ⟨f, rfl⟩ : ∃ k, f = k + 3 := ⟨f - 3, by omega⟩
    unfold rSum
    refine e_sumOf (d := 6 - (m + 1)) (b := 1 + 2 * (m + 1)) hv h1 h2 (by omega) (gd_par hv h1 h2 (m + 1)) (fun p l h S => ?_) S
    refine e_atom hv h1 h2 hnp hnd S (fun c13 => ?_)
    unfold parG
    have hnx := tc_nx (X := X) (b := p) (n := n) (by omega)
    refine e_nest (w := 21) (c := 41) (it := fun h => fgRead f 3 152 h) S (by omega) (by omega) (by decide) (by decide) (by decide) (by decide) (by decide) (gd_sum hv h1 h2 (b := 1 + 2 * m) (by omega) (gd_par hv h1 h2 m) hnx.2) (fun h1' S1 => ?_)
    have e6 : 6 - (m + 1) + 1 = 6 - m := by omega
    rw [e6] at S1 ⊢
    exact ih (by omega) f (by omega) (nx n X p) l h1' S1
/- a comparison of two sums -/
set_option maxRecDepth 16384 in
theorem krf_cm {n : Nat} {X : Nat → Nat} {p : Nat} : (krf n X p = 61 ↔ tc n X p = 22) ∧ (krf n X p = 60 ↔ tc n X p = 23) ∧ (krf n X p = 62 ↔ tc n X p = 24) :=
  ⟨krf_sg (by decide) (by decide) (by decide) (by decide) (by decide), krf_sg (by decide) (by decide) (by decide) (by decide) (by decide), krf_sg (by decide) (by decide) (by decide) (by decide) (by decide)⟩
set_option maxRecDepth 16384 in
theorem e_cmp {n : Nat} {X : Nat → Nat} {np nd d b : Nat} {p : Nat} {l : List Nat} {h : PH} {it : PH → Option (Unit × PH)} {sm : Nat → List Nat → Rz} (gs : ∀ p l, p ≤ n → Gd n np nd false b (sm p l) p l) (hB : ∀ h, BX h → it h = some ((), h)) (hs : ∀ p l h, ST n X np nd d p l h → ok (it h) (fun _ h' => PO n X np nd d (sm p l) h h')) (S : ST n X np nd d p l h) : ok (cb (it h) (fun (_ : Unit) (h7 : PH) => lt (h7.1 152 11) (fun (x8 : Int32) => lt (fun (h9 : PH) => lt (fun (h10 : PH) => cb (it h10) (fun (_ : Unit) (h12 : PH) => lt (fun (t13 : Int32) (h14 : PH) => cb (f_X12_laysStep 152 t13 h14) (fun (_ : Unit) (h16 : PH) => some ((), h16))) (fun (j152 : Int32 → PH → Option (Unit × PH)) => if x8 = nI 61 then (j152 (nI 13) h12) else (if x8 = nI 60 then (j152 (nI 14) h12) else (j152 (nI 15) h12))))) (fun (j123 : PH → Option (Unit × PH)) => if (h9.1 152 13) = nI 0 then (cb (f_X12_readsOn 152 h9) (fun (_ : Unit) (h18 : PH) => j123 h18)) else (j123 h9))) (fun (j112 : PH → Option (Unit × PH)) => if x8 = nI 61 then (j112 h7) else (if x8 = nI 60 then (j112 h7) else (if x8 = nI 62 then (j112 h7) else (cb (f_X12_blames 152 (nI 2) h7) (fun (_ : Unit) (h20 : PH) => j112 h20)))))))) (fun _ h' => PO n X np nd d (cmpG n X sm p l) h h') := by
  have hpn := S.2.1.2.2.2.2.2
  have g := gs p l hpn

  have hbad : ∀ (h9 : PH) (x8 : Int32) (e : Nat × Nat), 1 ≤ e.1 ∧ e.1 ≤ 4 → FrR h h9 → FLt e h9 → ok (lt (fun (h10 : PH) => cb (it h10) (fun (_ : Unit) (h12 : PH) => lt (fun (t13 : Int32) (h14 : PH) => cb (f_X12_laysStep 152 t13 h14) (fun (_ : Unit) (h16 : PH) => some ((), h16))) (fun (j152 : Int32 → PH → Option (Unit × PH)) => if x8 = nI 61 then (j152 (nI 13) h12) else (if x8 = nI 60 then (j152 (nI 14) h12) else (j152 (nI 15) h12))))) (fun (j123 : PH → Option (Unit × PH)) => if (h9.1 152 13) = nI 0 then (cb (f_X12_readsOn 152 h9) (fun (_ : Unit) (h18 : PH) => j123 h18)) else (j123 h9))) (fun _ h' => PO n X np nd d (.inl e) h h') := by
    intro h9 x8 e he f l
    have B : BX h9 := FLt_B he l
    simp only [pw_lt]
    rw [if_neg (show ¬ h9.1 152 13 = nI 0 from B), hB h9 B]
    simp only [pw_cb, e_laysStepB B, ite_self]
    exact ok_some ⟨f, l⟩
  unfold cmpG
  refine ok_cb (hs p l h S) ?_
  rintro r1 h7 P7
  refine ok_lt ?_
  cases hq : sm p l with
  | inl e =>
    rw [hq] at g P7
    have B : BX h7 := FLt_B g P7.2
    refine ok_join (fun h9 => h9 = h7) (fun h9 q9 => by rw [q9]; exact hbad h7 _ e g P7.1 P7.2) (fun j hj => ?_)
    rw [e_blamesB B]
    simp only [pw_cb, ite_self]
    exact hj _ rfl
  | inr q =>
    rw [hq] at g P7
    have S7 := P7.2
    obtain ⟨g1, g2, D, g3, g4, -⟩ := g
    have hkl := krf_lt (p := q.1) S7.1
    have e1 : (nI (krf n X q.1) = nI 61) = (krf n X q.1 = 61) := pw_eqI (by omega) (by omega)
    have e2 : (nI (krf n X q.1) = nI 60) = (krf n X q.1 = 60) := pw_eqI (by omega) (by omega)
    have e3 : (nI (krf n X q.1) = nI 62) = (krf n X q.1 = 62) := pw_eqI (by omega) (by omega)
    obtain ⟨k1, k2, k3⟩ := krf_cm (n := n) (X := X) (p := q.1)
    rw [S7.2.1.2.2.2.1]
    simp only [e1, e2, e3]
    show ok _ (fun _ h' => PO n X np nd d (if opC n X q.1 = 0 then .inl (flt n X 2 q.1) else bnd (sm (nx n X q.1) q.2) (fun r => .inr (r.1, r.2 ++ [opC n X q.1]))) h h')
    by_cases c : opC n X q.1 = 0
    · rw [if_pos c]
      have hn3 : tc n X q.1 ≠ 22 ∧ tc n X q.1 ≠ 23 ∧ tc n X q.1 ≠ 24 := by
        unfold opC at c
        refine ⟨fun z => ?_, fun z => ?_, fun z => ?_⟩
        · rw [if_pos z] at c
          omega
        · rw [if_neg (by omega), if_pos z] at c
          omega
        · rw [if_neg (by omega), if_neg (by omega), if_pos z] at c
          omega
      refine ok_join (fun h9 => FrR h7 h9 ∧ FLt (flt n X 2 q.1) h9) (fun h9 q9 => ?_) (fun j hj => ?_)
      · have := hbad h9 (nI (krf n X q.1)) (flt n X 2 q.1) (flt_ok (by decide) (by decide)) (FrR_trans P7.1 q9.1) q9.2
        simp only [e1, e2] at this
        exact this
      · rw [if_neg (fun z => hn3.1 (k1.mp z)), if_neg (fun z => hn3.2.1 (k2.mp z)), if_neg (fun z => hn3.2.2 (k3.mp z))]
        refine ok_cb (e_blames (k := 2) S7.1 S7.2.1 S7.2.2.1) ?_
        rintro r2 h9 ⟨f9, l9, -⟩
        exact hj _ ⟨f9, l9⟩
    · rw [if_neg c]
      obtain ⟨o1, o2⟩ := opC_ok c
      have hnx := tc_nx o1
      have hl7 := S7.2.2.2.2.2.2.2.2
      refine ok_join (fun h9 => h9 = h7) (fun h9 q9 => ?_) (fun j hj => ?_)
      · rw [q9]
        refine ok_join (fun h10 => FrR h7 h10 ∧ ST n X np nd d (nx n X q.1) q.2 h10) (fun h10 q10 => ?_) (fun j hj => ?_)
        · obtain ⟨f10, S10⟩ := q10
          have hstep := e_thenStep (s := opC n X q.1) (it := it) (k := fun h16 => some ((), h16)) (Q := fun _ h' => PO n X np nd d (bnd (sm (nx n X q.1) q.2) (fun r => .inr (r.1, r.2 ++ [opC n X q.1]))) h h') (gs (nx n X q.1) q.2 hnx.2) (by omega) (hs (nx n X q.1) q.2 h10 S10) (fun h2 P2 => ok_some (PO_tr (FrR_trans P7.1 f10) P2))
          simp only [pw_lt]
          unfold opC at hstep
          by_cases c22 : tc n X q.1 = 22
          · simp only [if_pos (k1.mpr c22)]
            simp only [if_pos c22] at hstep
            unfold opC
            simp only [if_pos c22]
            exact hstep
          · by_cases c23 : tc n X q.1 = 23
            · simp only [if_neg (fun z => c22 (k1.mp z)), if_pos (k2.mpr c23)]
              simp only [if_neg c22, if_pos c23] at hstep
              unfold opC
              simp only [if_neg c22, if_pos c23]
              exact hstep
            · have c24 : tc n X q.1 = 24 := by
                rcases Classical.em (tc n X q.1 = 24) with z | z
                · exact z
                · exfalso
                  apply c
                  unfold opC
                  rw [if_neg c22, if_neg c23, if_neg z]
              simp only [if_neg (fun z => c22 (k1.mp z)), if_neg (fun z => c23 (k2.mp z))]
              simp only [if_neg c22, if_neg c23, if_pos c24] at hstep
              unfold opC
              simp only [if_neg c22, if_neg c23, if_pos c24]
              exact hstep
        · rw [if_pos (show h7.1 152 13 = nI 0 from S7.2.2.1)]
          refine ok_cb (e_on S7.1 S7.2.1) ?_
          rintro r3 h10 ⟨f10, R10⟩
          exact hj _ ⟨FrR_fT f10, S7.on f10 R10 (by omega)⟩
      · by_cases c22 : tc n X q.1 = 22
        · rw [if_pos (k1.mpr c22)]
          exact hj _ rfl
        · rw [if_neg (fun z => c22 (k1.mp z))]
          by_cases c23 : tc n X q.1 = 23
          · rw [if_pos (k2.mpr c23)]
            exact hj _ rfl
          · rw [if_neg (fun z => c23 (k2.mp z))]
            have c24 : tc n X q.1 = 24 := by
              rcases Classical.em (tc n X q.1 = 24) with z | z
              · exact z
              · exfalso
                apply c
                unfold opC
                rw [if_neg c22, if_neg c23, if_neg z]
            rw [if_pos (k3.mpr c24)]
            exact hj _ rfl

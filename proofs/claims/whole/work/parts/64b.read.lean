/-! ===== the reference reads by the grammar ===== -/
def ST (n : Nat) (X : Nat → Nat) (np nd d p : Nat) (l : List Nat) (h : PH) : Prop := TX n X h ∧ TR n X p h ∧ h.1 152 13 = nI 0 ∧ h.1 152 17 = nI d ∧ h.1 154 1 = nI np ∧ h.1 154 2 = nI nd ∧ h.1 154 65 = nI l.length ∧ (∀ k, k < l.length → h.1 154 (236 + k) = nI (l.getD k 0)) ∧ l.length ≤ p
set_option maxRecDepth 16384 in
theorem ST.on {n : Nat} {X : Nat → Nat} {np nd d p p' : Nat} {l : List Nat} {h h' : PH} (s : ST n X np nd d p l h) (f : fT h h') (R : TR n X p' h') (hp : p ≤ p') : ST n X np nd d p' l h' := by
  obtain ⟨s1, s2, s3, s4, s5, s6, s7, s8, s9⟩ := s
  have e154 := (f.1 154 (by decide)).1
  refine ⟨TX_to f.1 (by decide) (by decide) s1, R, by rw [f.2 13 (by decide) (by decide) (by decide) (by decide)]; exact s3, by rw [f.2 17 (by decide) (by decide) (by decide) (by decide)]; exact s4, by rw [e154]; exact s5, by rw [e154]; exact s6, by rw [e154]; exact s7, fun k hk => by rw [e154]; exact s8 k hk, by omega⟩
set_option maxRecDepth 16384 in
theorem ST.deep {n : Nat} {X : Nat → Nat} {np nd d d' p : Nat} {l : List Nat} {h : PH} (s : ST n X np nd d p l h) : ST n X np nd d' p l (pI h 152 17 (nI d')) := by
  obtain ⟨s1, s2, s3, s4, s5, s6, s7, s8, s9⟩ := s
  have e : eqx [152] h (pI h 152 17 (nI d')) := eqx_pI (by simp)
  have e154 := (e 154 (by decide)).1
  obtain ⟨r1, r2, r3, r4, r5, r6⟩ := s2
  refine ⟨TX_to e (by decide) (by decide) s1, ⟨by rw [pw_pIo (by omega)]; exact r1, by rw [pw_pIo (by omega)]; exact r2, by rw [pw_pIo (by omega)]; exact r3, by rw [pw_pIo (by omega)]; exact r4, fun q => by rw [pw_pIo (by omega)]; exact r5 q, r6⟩, by rw [pw_pIo (by omega)]; exact s3, pw_pIs, by rw [e154]; exact s5, by rw [e154]; exact s6, by rw [e154]; exact s7, fun k hk => by rw [e154]; exact s8 k hk, s9⟩
set_option maxRecDepth 16384 in
theorem getD_snoc {l : List Nat} {s k : Nat} (hk : k < l.length + 1) : (l ++ [s]).getD k 0 = if k = l.length then s else l.getD k 0 := by
  rw [getD_app hk]
  by_cases c : k < l.length
  · rw [if_pos c, if_neg (by omega)]
  · rw [if_neg c, if_pos (by omega)]
set_option maxRecDepth 16384 in
theorem e_laysStep {n : Nat} {X : Nat → Nat} {np nd d p s : Nat} {l : List Nat} {h : PH} (S : ST n X np nd d p l h) (hl : l.length < p) : ok (f_X12_laysStep 152 (nI s) h) (fun _ h' => FrR h h' ∧ ST n X np nd d p (l ++ [s]) h') := by
  obtain ⟨s1, s2, s3, s4, s5, s6, s7, s8, s9⟩ := S
  have hn := s1.1
  have hp := s2.2.2.2.2.2
  unfold f_X12_laysStep
  rw [if_pos (show h.1 152 13 = (0 : Int32) from s3)]
  have x65 : (pI h 154 (236 + l.length) (nI s)).1 154 65 = nI l.length := by rw [pw_pIo (by omega)]; exact s7
  simp (disch := omega) only [pw_lit, r_152_1, pw_ldI, s7, nI_add, pw_stI, x65]
  refine ok_some ⟨FrR_trans (FrR_pI4 (by omega)) (FrR_pI4 (by omega)), ?_⟩
  have e : eqx [154] h (pI (pI h 154 (236 + l.length) (nI s)) 154 65 (nI (l.length + 1))) := eqx_trans (eqx_pI (by simp)) (eqx_pI (by simp))
  have e152 := (e 152 (by decide)).1
  refine ⟨TX_to e (by decide) (by decide) s1, by unfold TR; rw [e152]; exact s2, by rw [e152]; exact s3, by rw [e152]; exact s4, by rw [pw_pIo (by omega), pw_pIo (by omega)]; exact s5, by rw [pw_pIo (by omega), pw_pIo (by omega)]; exact s6, ?_, fun k hk => ?_, ?_⟩
  · rw [pw_pIs, List.length_append, List.length_singleton]
  · rw [List.length_append, List.length_singleton] at hk
    rw [pw_pIo (by omega), getD_snoc hk]
    by_cases c : k = l.length
    · rw [if_pos c, c, pw_pIs]
    · rw [if_neg c, pw_pIo (by omega)]
      exact s8 k (by omega)
  · rw [List.length_append, List.length_singleton]
    omega
set_option maxRecDepth 16384 in
theorem e_laysStepB {s : Int32} {h : PH} (B : BX h) : f_X12_laysStep 152 s h = some ((), h) := if_neg B
/- what a reading leaves -/
def PO (n : Nat) (X : Nat → Nat) (np nd d : Nat) (r : Rz) (h h' : PH) : Prop := FrR h h' ∧ match r with
  | .inl e => FLt e h'
  | .inr q => ST n X np nd d q.1 q.2 h'
set_option maxRecDepth 16384 in
theorem PO_tr {n : Nat} {X : Nat → Nat} {np nd d : Nat} {r : Rz} {h h1 h' : PH} (f : FrR h h1) (p : PO n X np nd d r h1 h') : PO n X np nd d r h h' := ⟨FrR_trans f p.1, p.2⟩
/- goes in: at depth d below six -/
set_option maxRecDepth 16384 in
theorem e_goesIn {n : Nat} {X : Nat → Nat} {np nd d p : Nat} {l : List Nat} {h : PH} (S : ST n X np nd d p l h) (hd : d ≤ 6) (ht : tc n X p ≠ 0) : ok (f_X12_goesIn 152 h) (fun _ h' => FrR h h' ∧ (d < 6 → ST n X np nd (d + 1) (nx n X p) l h') ∧ (d = 6 → FLt (flt n X 4 p) h')) := by
  obtain ⟨s1, s2, s3, s4, s5, s6, s7, s8, s9⟩ := id S
  have hnx := tc_nx ht
  unfold f_X12_goesIn
  refine ok_join (fun h1 => (d < 6 ∧ h1 = h) ∨ (d = 6 ∧ FrR h h1 ∧ FLt (flt n X 4 p) h1)) ?_ (fun j hj => ?_)
  · rintro h1 (⟨q, rfl⟩ | ⟨q, f1, l1⟩)
    · refine ok_lt ?_
      rw [s4]
      have S2 : ST n X np nd (d + 1) p l (pI h1 152 17 (nI (d + 1))) := S.deep
      have hx : nI d + (1 : Int32) = nI (d + 1) := nI_add d 1
      rw [hx]
      have f2 : FrR h1 (pI h1 152 17 (nI (d + 1))) := FrR_pI (by omega)
      generalize pI h1 152 17 (nI (d + 1)) = h2 at *
      refine ok_join (fun h4 => fT h2 h4 ∧ TR n X (nx n X p) h4) ?_ (fun j hj => ?_)
      · rintro h4 ⟨f4, R4⟩
        exact ok_some ⟨FrR_trans f2 (FrR_fT f4), fun _ => S2.on f4 R4 (by omega), fun z => by omega⟩
      · rw [if_pos (show h2.1 152 13 = (0 : Int32) from S2.2.2.1)]
        refine ok_cb (e_on S2.1 S2.2.1) ?_
        rintro r h4 ⟨f4, R4⟩
        exact hj _ ⟨f4, R4⟩
    · have hB : BX h1 := FLt_B (flt_ok (by decide) (by decide)) l1
      refine ok_lt ?_
      generalize h1.1 152 17 + (1 : Int32) = v
      have f2 : FrR h1 (pI h1 152 17 v) := FrR_pI (by omega)
      have l2 : FLt (flt n X 4 p) (pI h1 152 17 v) := ⟨by rw [pw_pIo (by omega)]; exact l1.1, by rw [pw_pIo (by omega)]; exact l1.2⟩
      have hB2 : BX (pI h1 152 17 v) := FLt_B (flt_ok (by decide) (by decide)) l2
      refine ok_join (fun h4 => h4 = pI h1 152 17 v) ?_ (fun j hj => ?_)
      · rintro h4 rfl
        exact ok_some ⟨FrR_trans f1 f2, fun z => by omega, fun _ => l2⟩
      · rw [if_neg hB2]
        exact hj _ rfl
  · rw [s4]
    by_cases q : d = 6
    · rw [if_pos (by rw [q]; rfl)]
      refine ok_cb (e_blames (k := 4) s1 s2 s3) ?_
      rintro r h1 ⟨f1, l1, d1⟩
      exact hj _ (Or.inr ⟨q, f1, l1⟩)
    · have hc : ¬ (nI d = (6 : Int32)) := by
        rw [pw_lit, pw_eqI (by omega) (by omega)]
        exact q
      rw [if_neg hc]
      exact hj _ (Or.inl ⟨by omega, rfl⟩)
/- the loops: operator, item, step -/
set_option maxRecDepth 16384 in
theorem e_loop {n : Nat} {X : Nat → Nat} {np nd d b : Nat} {t : Bool} {op : Nat → Nat} {item : Nat → List Nat → Rz} {body : (Unit → PH → Option (Unit × PH)) → Unit → PH → Option (Unit × PH)}
    (hop : ∀ p, op p ≠ 0 → tc n X p ≠ 0) (hi : ∀ p l, p ≤ n → Gd n np nd t b (item p l) p l)
    (H0 : ∀ rec h p l, ST n X np nd d p l h → op p = 0 → body rec () h = some ((), h))
    (HB : ∀ rec h, BX h → body rec () h = some ((), h))
    (H1 : ∀ rec h p l (Q : Unit → PH → Prop), ST n X np nd d p l h → op p ≠ 0 → (∀ h2, PO n X np nd d (bnd (item (nx n X p) l) (fun q => .inr (q.1, q.2 ++ [op p]))) h h2 → ok (rec () h2) Q) → ok (body rec () h) Q) {p : Nat} {l : List Nat} {h : PH} (S : ST n X np nd d p l h) : ok (lp body FU () h) (fun _ h' => PO n X np nd d (rep n X op item 901 p l) h h') := by
  have hn := S.1.1
  refine lp_ok (fun m _ h1 => FrR h h1 ∧ ((∃ p1 l1, ST n X np nd d p1 l1 h1 ∧ n - p1 < m ∧ rep n X op item m p1 l1 = rep n X op item 901 p l) ∨ (∃ e : Nat × Nat, rep n X op item 901 p l = .inl e ∧ 1 ≤ e.1 ∧ e.1 ≤ 4 ∧ FLt e h1))) ?_ FU 901 _ h ⟨FrR_rfl h, Or.inl ⟨p, l, S, by omega, rfl⟩⟩ (fu_lt (by omega))
  rintro m rec s h1 ⟨f1, q⟩ hrec
  rcases q with ⟨p1, l1, S1, hm, hr⟩ | ⟨e, he, e1, e2, hl⟩
  · obtain ⟨m, rfl⟩ : ∃ m', m = m' + 1 := ⟨m - 1, by omega⟩
    rw [rep] at hr
    by_cases c : op p1 = 0
    · rw [if_pos c] at hr
      rw [H0 rec h1 p1 l1 S1 c]
      exact ok_some ⟨f1, by rw [← hr]; exact S1⟩
    · rw [if_neg c] at hr
      have ht := hop p1 c
      have hnx := tc_nx ht
      have g := hi (nx n X p1) l1 hnx.2
      refine H1 rec h1 p1 l1 _ S1 c (fun h2 P2 => ?_)
      cases hq : item (nx n X p1) l1 with
      | inl e =>
        rw [hq] at g P2 hr
        refine hrec 0 _ h2 (by omega) ⟨FrR_trans f1 P2.1, Or.inr ⟨e, hr.symm, g.1, g.2, P2.2⟩⟩
      | inr q =>
        rw [hq] at g P2 hr
        obtain ⟨g1, g2, -⟩ := g
        exact hrec m _ h2 (by omega) ⟨FrR_trans f1 P2.1, Or.inl ⟨q.1, q.2 ++ [op p1], P2.2, by omega, hr⟩⟩
  · rw [HB rec h1 (FLt_B ⟨e1, e2⟩ hl)]
    exact ok_some ⟨f1, by rw [he]; exact hl⟩
/- behind an item: its step -/
set_option maxRecDepth 16384 in
theorem e_thenStep {n : Nat} {X : Nat → Nat} {np nd d s b p0 : Nat} {t : Bool} {r : Rz} {l : List Nat} {h : PH} {it : PH → Option (Unit × PH)} {k : PH → Option (Unit × PH)} {Q : Unit → PH → Prop} (g : Gd n np nd t b r p0 l) (hl : l.length + 1 ≤ p0) (hit : ok (it h) (fun _ h' => PO n X np nd d r h h')) (hk : ∀ h2, PO n X np nd d (bnd r (fun q => .inr (q.1, q.2 ++ [s]))) h h2 → ok (k h2) Q) : ok (cb (it h) (fun _ h2 => cb (f_X12_laysStep 152 (nI s) h2) (fun _ h3 => k h3))) Q := by
  refine ok_cb hit ?_
  rintro r1 h2 P2
  cases r with
  | inl e =>
    have hB : BX h2 := FLt_B g P2.2
    rw [e_laysStepB hB]
    exact hk h2 P2
  | inr q =>
    obtain ⟨g1, g2, D, g3, g4, -⟩ := g
    have hlen : q.2.length < q.1 := by
      rw [g3, List.length_append]
      omega
    refine ok_cb (e_laysStep (s := s) P2.2 hlen) ?_
    rintro r3 h3 ⟨f3, S3⟩
    exact hk h3 ⟨FrR_trans P2.1 f3, S3⟩
/-! atoms -/
set_option maxRecDepth 16384 in
theorem e_readAtomB {fr : Nat → Nat → PH → Option (Unit × PH)} {h : PH} (B : BX h) : g_X12_readAtom fr 152 h = some ((), h) := if_neg B
set_option maxRecDepth 16384 in
theorem e_readUnitB {fr : Nat → Nat → PH → Option (Unit × PH)} {h : PH} (B : BX h) : g_X12_readUnit fr 152 h = some ((), h) := if_neg B
set_option maxRecDepth 16384 in
theorem ref_words : (sb 60 = sb 15 ∧ sb 61 = sb 17 ∧ sb 62 = sb 16 ∧ sb 63 = sb 14 ∧ sb 59 = sb 11 ∧ sb 64 = sb 25 ∧ sb 65 = sb 26) ∧ (sb 52 = sb 2 ∧ sb 53 = sb 9 ∧ sb 54 = sb 10 ∧ sb 55 = sb 4 ∧ sb 56 = sb 5 ∧ sb 57 = sb 6 ∧ sb 58 = sb 7) := by decide +kernel
/- a fault behind a number: nothing more is laid -/
set_option maxRecDepth 16384 in
theorem e_layB {n : Nat} {X : Nat → Nat} {np nd d : Nat} {e : Nat × Nat} {s : Int32} {h h2 : PH} (he : 1 ≤ e.1 ∧ e.1 ≤ 4) (f : FrR h h2) (l : FLt e h2) : ok (cb (f_X12_laysStep 152 s h2) (fun _ h3 => some ((), h3))) (fun _ h' => PO n X np nd d (.inl e) h h') := by
  rw [e_laysStepB (FLt_B he l)]
  exact ok_some ⟨f, l⟩
set_option maxRecDepth 16384 in
theorem e_lay1 {n : Nat} {X : Nat → Nat} {np nd d p s : Nat} {l : List Nat} {h h2 : PH} (f : FrR h h2) (S : ST n X np nd d p l h2) (hl : l.length < p) : ok (cb (f_X12_laysStep 152 (nI s) h2) (fun _ h3 => some ((), h3))) (fun _ h' => PO n X np nd d (.inr (p, l ++ [s])) h h') := by
  refine ok_cb (e_laysStep S hl) ?_
  rintro r h3 ⟨f3, S3⟩
  exact ok_some ⟨FrR_trans f f3, S3⟩
set_option maxRecDepth 16384 in
theorem num_e {n : Nat} {X : Nat → Nat} {lo hi p : Nat} {e : Nat × Nat} (h : num n X lo hi p = .inl e) : 1 ≤ e.1 ∧ e.1 ≤ 4 := by
  rcases num_ok (n := n) (X := X) (lo := lo) (hi := hi) (p := p) with ⟨e', q, q1⟩ | ⟨q, -⟩
  · rw [q] at h
    cases h
    exact q1
  · rw [q] at h
    cases h
set_option maxRecDepth 16384 in
theorem num_r {n : Nat} {X : Nat → Nat} {lo hi p : Nat} {a : Nat × Nat} (h : num n X lo hi p = .inr a) : a = (nx n X p, vl n X p) ∧ tc n X p = 40 ∧ lo ≤ vl n X p ∧ vl n X p ≤ hi := by
  rcases num_ok (n := n) (X := X) (lo := lo) (hi := hi) (p := p) with ⟨e', q, q1⟩ | ⟨q, q1⟩
  · rw [q] at h
    cases h
  · rw [q] at h
    cases h
    exact ⟨rfl, q1⟩
set_option maxRecDepth 16384 in
theorem e_atom {n : Nat} {X : Nat → Nat} {np nd d p : Nat} {l : List Nat} {h : PH} {fr : Nat → Nat → PH → Option (Unit × PH)} {par : Nat → List Nat → Rz} (hv : VL n X) (h1 : 1 ≤ np) (h2 : 1 ≤ nd) (hnp : np ≤ 4) (hnd : nd ≤ 6) (S : ST n X np nd d p l h)
    (hpar : tc n X p = 13 → ok (cb (f_X12_goesIn 152 h) (fun (r17 : Unit) (h18 : PH) => cb (fr 3 152 h18) (fun (r19 : Unit) (h20 : PH) => cb (f_X12_mustSign 152 (nI 41) h20) (fun (r21 : Unit) (h22 : PH) => lt (pI h22 152 17 ((h22.1 152 17) - nI 1)) (fun (h23 : PH) => some ((), h23)))))) (fun _ h' => PO n X np nd d (par p l) h h')) : ok (g_X12_readAtom fr 152 h) (fun _ h' => PO n X np nd d (atomG n X np nd par p l) h h') := by
  obtain ⟨s1, s2, s3, s4, s5, s6, s7, s8, s9⟩ := id S
  obtain ⟨⟨w60, w61, w62, w63, w59, w64, w65⟩, -⟩ := ref_words
  have hn := s1.1
  have hpn := s2.2.2.2.2.2
  have d1 : nI np - nI 1 = nI (np - 1) := pw_sub h1
  have d2 : nI nd - nI 1 = nI (nd - 1) := pw_sub h2

  have word : ∀ (w w' : Nat) (K : Int32 → PH → Option (Unit × PH)) (Q : Unit → PH → Prop), 2 ≤ w → w ≤ 27 → w' < 66 → sb w' = sb w → isL (wbN w 0) = true → (tc n X p ≠ w → ok (K (bI false) h) Q) → (tc n X p = w → ∀ h', FrR h h' → ST n X np nd d (nx n X p) l h' → ok (K (bI true) h') Q) → ok (cb (f_X12_took 152 w' h) K) Q := by
    intro w w' K Q q1 q2 q3 q4 q5 k0 k1
    refine ok_cb (e_took s1 s2 s3 q1 q2 q3 q4 q5) ?_
    rintro r h' ⟨rfl, f, t1, t2⟩
    by_cases c : tc n X p = w
    · rw [decide_eq_true c]
      have hnx := tc_nx (X := X) (b := p) (n := n) (by omega)
      exact k1 c h' (FrR_fT f) (S.on f (t1 c) (by omega))
    · rw [decide_eq_false c, t2 c]
      exact k0 c
  unfold g_X12_readAtom
  rw [if_pos (show h.1 152 13 = (0 : Int32) from s3)]
  simp only [pw_lit]
  refine word 15 60 _ _ (by decide) (by decide) (by decide) w60 (by decide) (fun c15 => ?_) (fun c15 h' f' S' => ?_)
  · simp only [pw_lt]
    rw [if_pos (show bI false = nI 0 from rfl)]
    refine word 17 61 _ _ (by decide) (by decide) (by decide) w61 (by decide) (fun c17 => ?_) (fun c17 h' f' S' => ?_)
    · rw [if_pos (show bI false = nI 0 from rfl)]
      refine word 16 62 _ _ (by decide) (by decide) (by decide) w62 (by decide) (fun c16 => ?_) (fun c16 h' f' S' => ?_)
      · rw [if_pos (show bI false = nI 0 from rfl)]
        refine word 14 63 _ _ (by decide) (by decide) (by decide) w63 (by decide) (fun c14 => ?_) (fun c14 h' f' S' => ?_)
        · rw [if_pos (show bI false = nI 0 from rfl), e_isSign (w := 13) (c := 40) s1 s2 s3 (by decide) (by decide) (by decide) (by decide) (by decide)]
          simp only [pw_cb]
          unfold atomG
          rw [if_neg c15, if_neg c17, if_neg c16, if_neg c14]
          by_cases c13 : tc n X p = 13
          · rw [decide_eq_true c13, if_neg (show ¬ bI true = nI 0 by decide), if_pos c13]
            have := hpar c13
            simp only [pw_lt] at this
            exact this
          · rw [decide_eq_false c13, if_pos (show bI false = nI 0 from rfl), if_neg c13]
            refine ok_cb (e_number (lo := 0) (hi := 999) s1 s2 s3 (by decide) (by decide) hv) ?_
            rintro r hh ⟨f1, -, q⟩
            by_cases c40 : tc n X p = 40
            · have hvp := hv p c40
              have hnum : num n X 0 999 p = .inr (nx n X p, vl n X p) := by
                unfold num
                rw [if_pos c40, if_pos ⟨by omega, by omega⟩]
              rw [hnum] at q
              obtain ⟨rfl, q2, q3, q4⟩ := q
              have hnx := tc_nx (X := X) (b := p) (n := n) (by omega)
              rw [if_pos c40, nI_add]
              exact e_lay1 f1 (S.on q2 q3 (by omega)) (by omega)
            · have hnum : num n X 0 999 p = .inl (flt n X 2 p) := by
                unfold num
                rw [if_neg c40]
              rw [hnum] at q
              rw [if_neg c40]
              exact e_layB (flt_ok (by decide) (by decide)) f1 q
        · have hnx := tc_nx (X := X) (b := p) (n := n) (by omega)
          rw [if_neg (show ¬ bI true = nI 0 by decide)]
          unfold atomG
          rw [if_neg c15, if_neg c17, if_neg c16, if_pos c14]
          exact e_lay1 f' S' (by omega)
      · have hnx := tc_nx (X := X) (b := p) (n := n) (by omega)
        obtain ⟨t1, t2, t3, t4, t5, t6, t7, t8, t9⟩ := id S'
        rw [if_neg (show ¬ bI true = nI 0 by decide)]
        unfold atomG
        rw [if_neg c15, if_neg c17, if_pos c16]
        simp (disch := omega) only [r_152_1, pw_ldI, t6, d2]
        refine ok_cb (e_number (lo := 0) (hi := nd - 1) t1 t2 t3 (by decide) (by omega) hv) ?_
        rintro r hh ⟨f1, -, q⟩
        cases hq : num n X 0 (nd - 1) (nx n X p) with
        | inl e =>
          rw [hq] at q
          exact e_layB (num_e hq) (FrR_trans f' f1) q
        | inr a =>
          rw [hq] at q
          obtain ⟨rfl, r2, r3, r4⟩ := num_r hq
          obtain ⟨rfl, q2, q3, q4⟩ := q
          have hnx2 := tc_nx (X := X) (b := nx n X p) (n := n) (by omega)
          rw [nI_add]
          exact e_lay1 (FrR_trans f' f1) (S'.on q2 q3 (by omega)) (by show l.length < nx n X (nx n X p); omega)
    · have hnx := tc_nx (X := X) (b := p) (n := n) (by omega)
      obtain ⟨t1, t2, t3, t4, t5, t6, t7, t8, t9⟩ := id S'
      rw [if_neg (show ¬ bI true = nI 0 by decide)]
      unfold atomG
      rw [if_neg c15, if_pos c17]
      simp (disch := omega) only [r_152_1, pw_ldI, t5, d1]
      refine ok_cb (e_number (lo := 0) (hi := np - 1) t1 t2 t3 (by decide) (by omega) hv) ?_
      rintro r hh ⟨f1, -, q⟩
      cases hq : num n X 0 (np - 1) (nx n X p) with
      | inl e =>
        rw [hq] at q
        exact e_layB (num_e hq) (FrR_trans f' f1) q
      | inr a =>
        rw [hq] at q
        obtain ⟨rfl, r2, r3, r4⟩ := num_r hq
        obtain ⟨rfl, q2, q3, q4⟩ := q
        have hnx2 := tc_nx (X := X) (b := nx n X p) (n := n) (by omega)
        rw [nI_add]
        exact e_lay1 (FrR_trans f' f1) (S'.on q2 q3 (by omega)) (by show l.length < nx n X (nx n X p); omega)
  · have hnx := tc_nx (X := X) (b := p) (n := n) (by omega)
    obtain ⟨t1, t2, t3, t4, t5, t6, t7, t8, t9⟩ := id S'
    simp only [pw_lt]
    rw [if_neg (show ¬ bI true = nI 0 by decide)]
    unfold atomG
    rw [if_pos c15]
    simp (disch := omega) only [r_152_1, pw_ldI, t5, d1]
    refine ok_cb (e_number (lo := 0) (hi := np - 1) t1 t2 t3 (by decide) (by omega) hv) ?_
    rintro r hh ⟨f1, -, q⟩
    cases hq : num n X 0 (np - 1) (nx n X p) with
    | inl e =>
      rw [hq] at q
      have hB : BX hh := FLt_B (num_e hq) q
      have x2 : hh.1 154 2 = nI nd := by rw [f1.2.2 2 (by decide)]; exact t6
      simp (disch := omega) only [r_152_1, pw_ldI, x2, d2, e_numberB hB, pw_cb]
      exact e_layB (num_e hq) (FrR_trans f' f1) q
    | inr a =>
      rw [hq] at q
      obtain ⟨rfl, r2, r3, r4⟩ := num_r hq
      obtain ⟨rfl, q2, q3, q4⟩ := q
      have hnx2 := tc_nx (X := X) (b := nx n X p) (n := n) (by omega)
      have S2 : ST n X np nd d (nx n X (nx n X p)) l hh := S'.on q2 q3 (by omega)
      obtain ⟨u1, u2, u3, u4, u5, u6, u7, u8, u9⟩ := id S2
      simp (disch := omega) only [r_152_1, pw_ldI, u6, d2]
      refine ok_cb (e_number (lo := 0) (hi := nd - 1) u1 u2 u3 (by decide) (by omega) hv) ?_
      rintro r2' hh2 ⟨f2, -, q'⟩
      show ok _ (fun _ h' => PO n X np nd d (bnd (num n X 0 (nd - 1) (nx n X (nx n X p))) (fun d => .inr (d.1, l ++ [100 + nd * vl n X (nx n X p) + d.2]))) h h')
      cases hq2 : num n X 0 (nd - 1) (nx n X (nx n X p)) with
      | inl e =>
        rw [hq2] at q'
        have x2 : hh2.1 154 2 = nI nd := by rw [f2.2.2 2 (by decide)]; exact u6
        simp (disch := omega) only [r_152_1, pw_ldI, x2]
        exact e_layB (num_e hq2) (FrR_trans f' (FrR_trans f1 f2)) q'
      | inr a2 =>
        rw [hq2] at q'
        obtain ⟨rfl, z2, z3, z4⟩ := num_r hq2
        obtain ⟨rfl, q2', q3', q4'⟩ := q'
        have hnx3 := tc_nx (X := X) (b := nx n X (nx n X p)) (n := n) (by omega)
        have S3 : ST n X np nd d (nx n X (nx n X (nx n X p))) l hh2 := S2.on q2' q3' (by omega)
        have x2 : hh2.1 154 2 = nI nd := S3.2.2.2.2.2.1
        simp (disch := omega) only [r_152_1, pw_ldI, x2, pw_mul, nI_add]
        exact e_lay1 (FrR_trans f' (FrR_trans f1 f2)) S3 (by omega)

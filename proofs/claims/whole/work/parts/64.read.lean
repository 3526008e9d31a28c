/-! ===== the reference reads: small functions ===== -/
set_option maxRecDepth 16384 in
theorem krf_lt {n : Nat} {X : Nat → Nat} {p : Nat} {h : PH} (T : TX n X h) : krf n X p < 256 := by
  unfold krf
  by_cases c : tkd n X p = 4
  · rw [if_pos c]
    exact (T.2 p (tkd_n (n := n) (X := X) (b := p) (by omega))).1
  · rw [if_neg c]
    split
    · omega
    · split
      · omega
      · split <;> omega
set_option maxRecDepth 16384 in
theorem tkd4 {n : Nat} {X : Nat → Nat} {p : Nat} (h : tkd n X p = 4) : isL (X p) = false ∧ isD (X p) = false ∧ isG (X p) = true := by
  have hb := tkd_n (n := n) (X := X) (b := p) (by omega)
  unfold tkd at h
  rw [if_neg (by omega)] at h
  cases h1 : isL (X p)
  · rw [h1, if_neg (by decide)] at h
    cases h2 : isD (X p)
    · rw [h2, if_neg (by decide)] at h
      cases h3 : isG (X p)
      · rw [h3, if_neg (by decide)] at h
        omega
      · exact ⟨rfl, rfl, rfl⟩
    · rw [h2, if_pos rfl] at h
      split at h <;> omega
  · rw [h1, if_pos rfl] at h
    omega
set_option maxRecDepth 16384 in
theorem isG_b {c : Nat} (h : isG c = true) : 40 ≤ c ∧ c ≤ 93 ∧ isL c = false ∧ isD c = false := by
  rcases isG_iff.mp h with rfl | rfl | rfl | rfl | rfl | rfl | rfl | rfl | rfl | rfl | rfl | rfl <;> decide
set_option maxRecDepth 16384 in
theorem krf_sg {n : Nat} {X : Nat → Nat} {p w c : Nat} (h1 : 2 ≤ w) (h2 : w ≤ 27) (hs : slen w = 1) (hc : wbN w 0 = c) (hG : isG c = true) : krf n X p = c ↔ tc n X p = w := by
  obtain ⟨g1, g2, g3, g4⟩ := isG_b hG
  have key : isWd n X p w = true ↔ tc n X p = w := by
    rw [tc_w h1 h2, decide_eq_true_eq]
  rw [← key]
  constructor
  · intro h
    unfold krf at h
    by_cases q : tkd n X p = 4
    · rw [if_pos q] at h
      obtain ⟨t1, t2, t3⟩ := tkd4 q
      have hb := tkd_n (n := n) (X := X) (b := p) (by omega)
      refine isWd_iff.mpr ⟨?_, fun k hk => ?_⟩
      · rw [(en_G hb t1 t2).1, hs]
        omega
      · rw [show k = 0 by omega, Nat.add_zero, h, hc]
    · rw [if_neg q] at h
      exfalso
      revert h
      split
      · omega
      · split
        · omega
        · split <;> omega
  · intro h
    have hb := isWd_n h1 h2 h
    obtain ⟨x1, x2⟩ := isWd_iff.mp h
    have x0 := x2 0 (by omega)
    rw [Nat.add_zero, hc] at x0
    have htk : tkd n X p = 4 := by
      rw [(en_G hb (by rw [x0]; exact g3) (by rw [x0]; exact g4)).2, x0, hG]
      rfl
    unfold krf
    rw [if_pos htk]
    exact x0
set_option maxRecDepth 16384 in
theorem e_isWord {n : Nat} {X : Nat → Nat} {p w w' : Nat} {h : PH} (T : TX n X h) (R : TR n X p h) (B : h.1 152 13 = nI 0) (h1 : 2 ≤ w) (h2 : w ≤ 27) (hw : w' < 66) (hs : sb w' = sb w) (hL : isL (wbN w 0) = true) : f_X12_isWord 152 w' h = some (bI (decide (tc n X p = w)), h) := by
  have hn := T.1
  have hkl := krf_lt (p := p) T
  obtain ⟨r8, r9, r10, r11, r12, hb⟩ := R
  have heb := en_b (X := X) hb
  have hsl := slen_lt hw
  have hwd : isWd n X p w' = decide (tc n X p = w) := by rw [isWd_c hs, tc_w h1 h2]
  rw [← hwd]
  have hfalse : ∀ (j : Int32 → PH → Option (Int32 × PH)) (k : Int32), lp (b_X12_isWord_39 152 w' j) FU ((0 : Int32), k) h = j 0 h := fun j k => by
    refine lp_run (fun _ => ((0 : Int32), k)) (fun _ => h) 0 _ (fun i hi => absurd hi (by omega)) ?_ FU (fu_lt (by omega))
    intro rec
    unfold b_X12_isWord_39
    rw [if_pos rfl]
  have hkr : (nI (krf n X p) = (1 : Int32)) = (krf n X p = 1) := pw_eqI (a := krf n X p) (b := 1) (by omega) (by omega)
  unfold f_X12_isWord
  simp only [pw_lt, r9, r10, r11]
  rw [if_pos (show h.1 152 13 = (0 : Int32) from B)]
  have hk1 : krf n X p = 1 ↔ tkd n X p = 2 := by
    unfold krf
    by_cases q : tkd n X p = 4
    · rw [if_pos q]
      have := isG_b (tkd4 q).2.2
      omega
    · rw [if_neg q]
      split
      · omega
      · split
        · omega
        · split <;> omega
  by_cases c : tkd n X p = 2
  · rw [if_pos (show nI (krf n X p) = (1 : Int32) by rw [hkr]; exact hk1.mpr c), e_len (by omega)]
    simp only [pw_cb, pw_sub heb.1]
    have hle : enT n X p - p ≤ 900 := by omega
    by_cases q : enT n X p - p = slen w'
    · rw [if_pos (by rw [q])]
      have hrun : lp (b_X12_isWord_39 152 w' (fun (y5 : Int32) (h6 : PH) => zr y5 h6)) FU ((1 : Int32), (0 : Int32)) h = some (bI (isWd n X p w'), h) := by
        have hd : isWd n X p w' = allN (slen w') (fun k => decide (X (p + k) = wbN w' k)) := by
          unfold isWd
          rw [decide_eq_true q, Bool.true_and]
        rw [hd]

        obtain ⟨r, x, hx, y1, y2⟩ : ok (lp (b_X12_isWord_39 152 w' (fun (y5 : Int32) (h6 : PH) => zr y5 h6)) FU ((1 : Int32), (0 : Int32)) h) (fun r h' => r = bI (allN (slen w') (fun k => decide (X (p + k) = wbN w' k))) ∧ h' = h) := by
          refine lp_ok (fun m s h1 => ∃ k, k + m = slen w' + 1 ∧ k ≤ slen w' ∧ h1 = h ∧ s = (bI (allN k (fun k => decide (X (p + k) = wbN w' k))), nI k)) ?_ FU (slen w' + 1) _ h ⟨0, by omega, by omega, rfl, rfl⟩ (fu_lt (by omega))
          rintro m rec s h1 ⟨k, hk, hk2, rfl, rfl⟩ hrec
          unfold b_X12_isWord_39
          rcases tf (allN k (fun k => decide (X (p + k) = wbN w' k))) with a | a
          · rw [a, if_pos (show bI false = (0 : Int32) from rfl)]
            have : allN (slen w') (fun k => decide (X (p + k) = wbN w' k)) = false := by
              cases hq : allN (slen w') (fun k => decide (X (p + k) = wbN w' k))
              · rfl
              · have := allN_iff.mpr (fun i (hi : i < k) => allN_at hq i (by omega))
                rw [a] at this
                cases this
            show ok (zr (bI false) h1) _
            rw [zr_b]
            exact ok_some ⟨by rw [this], rfl⟩
          · rw [a, if_neg (show ¬ bI true = (0 : Int32) by decide), e_len (by omega)]
            simp only [pw_cb]
            by_cases ek : k = slen w'
            · rw [if_pos ((nI_leI (by omega) (by omega)).mpr (by omega))]
              rw [ek] at a
              show ok (zr (bI true) h1) _
              rw [zr_b]
              exact ok_some ⟨by rw [a], rfl⟩
            · have hc : ¬ (nI (slen w') ≤ nI k) := fun z => by
                have := (nI_leI (by omega) (by omega)).mp z
                omega
              rw [if_neg hc, r10]
              obtain ⟨t1, t2, t3⟩ := T.2 (p + k) (by omega)
              have hch := e_charAt (h := h1) hw (show k < slen w' by omega)
              have hcl := (wb_ok hw (show k < slen w' by omega)).2
              simp (disch := omega) only [r_152_6, nI_add, pw_ldI, t2, hch, pw_cb, pw_lt, pw_eqI]
              by_cases e : X (p + k) = wbN w' k
              · rw [if_pos e]
                simp only [pw_oi, nI_add]
                refine hrec (m - 1) _ _ (by omega) ⟨k + 1, by omega, by omega, rfl, ?_⟩
                rw [allN, a, decide_eq_true e]
                rfl
              · rw [if_neg e]
                simp only [pw_oi, nI_add]
                refine hrec (m - 1) _ _ (by omega) ⟨k + 1, by omega, by omega, rfl, ?_⟩
                rw [allN, a, decide_eq_false e]
                rfl
        rw [hx, y1, y2]
      exact hrun
    · have hf : isWd n X p w' = false := by
        cases hq : isWd n X p w'
        · rfl
        · exact absurd (isWd_iff.mp hq).1 q
      have hq : ¬ (nI (enT n X p - p) = nI (slen w')) := by
        rw [pw_eqI (by omega) (by omega)]
        exact q
      rw [if_neg hq, hf, hfalse]
      rfl
  · have hk : ¬ (nI (krf n X p) = (1 : Int32)) := by
      rw [hkr]
      exact fun z => c (hk1.mp z)
    have hf : isWd n X p w' = false := by
      cases hq : isWd n X p w'
      · rfl
      · exfalso
        rw [isWd_c hs] at hq
        have hbn := isWd_n h1 h2 hq
        have x0 := (isWd_iff.mp hq).2 0 (by have := (wd_0 w (by omega) h1).1; omega)
        rw [Nat.add_zero] at x0
        exact c (en_L hbn (by rw [x0]; exact hL)).2
    rw [if_neg hk, hf, hfalse]
    rfl
def BX (h : PH) : Prop := ¬ h.1 152 13 = 0
set_option maxRecDepth 16384 in
theorem e_isWordB {w : Nat} {h : PH} (B : BX h) : f_X12_isWord 152 w h = some (bI false, h) := by
  have hfalse : ∀ (j : Int32 → PH → Option (Int32 × PH)) (k : Int32), lp (b_X12_isWord_39 152 w j) FU ((0 : Int32), k) h = j 0 h := fun j k => by
    refine lp_run (fun _ => ((0 : Int32), k)) (fun _ => h) 0 _ (fun i hi => absurd hi (by omega)) ?_ FU (fu_lt (by omega))
    intro rec
    unfold b_X12_isWord_39
    rw [if_pos rfl]
  unfold f_X12_isWord
  simp only [pw_lt]
  rw [if_neg B, hfalse]
  rfl
set_option maxRecDepth 16384 in
theorem e_isSign {n : Nat} {X : Nat → Nat} {p w c : Nat} {h : PH} (T : TX n X h) (R : TR n X p h) (B : h.1 152 13 = nI 0) (h1 : 2 ≤ w) (h2 : w ≤ 27) (hs : slen w = 1) (hc : wbN w 0 = c) (hG : isG c = true) : f_X12_isSign 152 (nI c) h = some (bI (decide (tc n X p = w)), h) := by
  have hkl := krf_lt (p := p) T
  have hk := krf_sg (n := n) (X := X) (p := p) h1 h2 hs hc hG
  have hgb := isG_b hG
  have hkr : (nI (krf n X p) = nI c) = (krf n X p = c) := pw_eqI (by omega) (by omega)
  unfold f_X12_isSign
  simp only [pw_lt, R.2.2.2.1, hkr]
  rw [if_pos (show h.1 152 13 = (0 : Int32) from B)]
  by_cases q : tc n X p = w
  · rw [if_pos (hk.mpr q), decide_eq_true q]
    rfl
  · rw [if_neg (fun z => q (hk.mp z)), decide_eq_false q]
    rfl
set_option maxRecDepth 16384 in
theorem e_isSignB {c : Int32} {h : PH} (B : BX h) : f_X12_isSign 152 c h = some (bI false, h) := by
  unfold f_X12_isSign
  simp only [pw_lt]
  rw [if_neg B]
  rfl
/- all that stays while it is read -/
def FrR (h h' : PH) : Prop := eqx [152, 154] h h' ∧ (∀ j, (j < 9 ∨ j = 15 ∨ j = 16 ∨ 18 ≤ j) → h'.1 152 j = h.1 152 j) ∧ ∀ j, j < 65 → h'.1 154 j = h.1 154 j
set_option maxRecDepth 16384 in
theorem FrR_rfl (h : PH) : FrR h h := ⟨eqx_rfl _ _, fun _ _ => rfl, fun _ _ => rfl⟩
set_option maxRecDepth 16384 in
theorem FrR_trans {a b c : PH} (x : FrR a b) (y : FrR b c) : FrR a c := ⟨eqx_trans x.1 y.1, fun j hj => by rw [y.2.1 j hj]; exact x.2.1 j hj, fun j hj => by rw [y.2.2 j hj]; exact x.2.2 j hj⟩
set_option maxRecDepth 16384 in
theorem FrR_fT {h h' : PH} (x : fT h h') : FrR h h' := ⟨eqx_mono x.1 (by decide), fun j hj => x.2 j (by omega) (by omega) (by omega) (by omega), fun j _ => by rw [(x.1 154 (by decide)).1]⟩
set_option maxRecDepth 16384 in
theorem FrR_pI {h : PH} {j : Nat} {v : Int32} (hj : 9 ≤ j ∧ j < 18 ∧ j ≠ 15 ∧ j ≠ 16) : FrR h (pI h 152 j v) := ⟨eqx_pI (by simp), fun i hi => pw_pIo (by omega), fun i _ => pw_pIo (by omega)⟩
set_option maxRecDepth 16384 in
theorem FrR_pI4 {h : PH} {j : Nat} {v : Int32} (hj : 65 ≤ j) : FrR h (pI h 154 j v) := ⟨eqx_pI (by simp), fun i _ => pw_pIo (by omega), fun i hi => pw_pIo (by omega)⟩
set_option maxRecDepth 16384 in
theorem FrR_TX {n : Nat} {X : Nat → Nat} {h h' : PH} (x : FrR h h') (t : TX n X h) : TX n X h' := TX_to x.1 (by decide) (by decide) t
/- a fault is noted -/
def FLt (e : Nat × Nat) (h : PH) : Prop := h.1 152 13 = nI e.1 ∧ h.1 152 14 = nI e.2
set_option maxRecDepth 16384 in
theorem FLt_B {e : Nat × Nat} {h : PH} (h1 : 1 ≤ e.1 ∧ e.1 ≤ 4) (f : FLt e h) : BX h := by
  unfold BX
  rw [f.1]
  exact nI_ne0 (by omega) (by omega)
set_option maxRecDepth 16384 in
theorem e_blames {n : Nat} {X : Nat → Nat} {p k : Nat} {h : PH} (T : TX n X h) (R : TR n X p h) (B : h.1 152 13 = nI 0) : ok (f_X12_blames 152 (nI k) h) (fun _ h' => FrR h h' ∧ FLt (flt n X k p) h' ∧ h'.1 152 17 = h.1 152 17) := by
  have hkl := krf_lt (p := p) T
  have hk3 : krf n X p = 3 ↔ tkd n X p = 1 := by
    unfold krf
    by_cases q : tkd n X p = 4
    · rw [if_pos q]
      have := isG_b (tkd4 q).2.2
      omega
    · rw [if_neg q]
      split
      · omega
      · split
        · omega
        · split <;> omega
  have hkr : (nI (krf n X p) = (3 : Int32)) = (krf n X p = 3) := pw_eqI (a := krf n X p) (b := 3) (by omega) (by omega)
  unfold f_X12_blames
  rw [if_pos (show h.1 152 13 = (0 : Int32) from B)]
  refine ok_joinT (fun t h2 => h2 = h ∧ t = nI (flt n X k p).1) ?_ (fun j hj => ?_)
  · rintro t h2 ⟨rfl, rfl⟩
    refine ok_lt ?_
    have q10 : (pI h2 152 13 (nI (flt n X k p).1)).1 152 10 = nI p := by rw [pw_pIo (by omega)]; exact R.2.2.1
    rw [q10]
    refine ok_lt ?_
    exact ok_some ⟨FrR_trans (FrR_pI (by omega)) (FrR_pI (by omega)), ⟨by rw [pw_pIo (by omega), pw_pIs], pw_pIs⟩, by rw [pw_pIo (by omega), pw_pIo (by omega)]⟩
  · simp only [R.2.2.2.1, hkr]
    unfold flt at hj
    by_cases c : tkd n X p = 1
    · rw [if_pos (hk3.mpr c)]
      exact hj _ _ ⟨rfl, by rw [if_pos c]; rfl⟩
    · rw [if_neg (fun z => c (hk3.mp z))]
      exact hj _ _ ⟨rfl, by rw [if_neg c]⟩
set_option maxRecDepth 16384 in
theorem e_blamesB {k : Int32} {h : PH} (B : BX h) : f_X12_blames 152 k h = some ((), h) := if_neg B
set_option maxRecDepth 16384 in
theorem e_tookB {w : Nat} {h : PH} (B : BX h) : f_X12_took 152 w h = some (bI false, h) := by
  unfold f_X12_took
  rw [e_isWordB B]
  simp only [pw_cb, pw_lt]
  rw [if_pos (show bI false = (0 : Int32) from rfl), zr_b]
set_option maxRecDepth 16384 in
theorem e_took {n : Nat} {X : Nat → Nat} {p w w' : Nat} {h : PH} (T : TX n X h) (R : TR n X p h) (B : h.1 152 13 = nI 0) (h1 : 2 ≤ w) (h2 : w ≤ 27) (hw : w' < 66) (hs : sb w' = sb w) (hL : isL (wbN w 0) = true) : ok (f_X12_took 152 w' h) (fun r h' => r = bI (decide (tc n X p = w)) ∧ fT h h' ∧ (tc n X p = w → TR n X (nx n X p) h') ∧ (tc n X p ≠ w → h' = h)) := by
  unfold f_X12_took
  rw [e_isWord T R B h1 h2 hw hs hL]
  simp only [pw_cb]
  refine ok_lt ?_
  by_cases c : tc n X p = w
  · refine ok_join (fun h4 => fT h h4 ∧ TR n X (nx n X p) h4) ?_ (fun j hj => ?_)
    · rintro h4 ⟨f4, R4⟩
      rw [zr_b]
      exact ok_some ⟨rfl, f4, fun _ => R4, fun z => absurd c z⟩
    · rw [if_neg (show ¬ bI (decide (tc n X p = w)) = (0 : Int32) by rw [decide_eq_true c]; decide)]
      refine ok_cb (e_on T R) ?_
      rintro r h4 ⟨f4, R4⟩
      exact hj _ ⟨f4, R4⟩
  · refine ok_join (fun h4 => h4 = h) ?_ (fun j hj => ?_)
    · rintro h4 rfl
      rw [zr_b]
      exact ok_some ⟨rfl, fT_rfl _, fun z => absurd z c, fun _ => rfl⟩
    · rw [if_pos (show bI (decide (tc n X p = w)) = (0 : Int32) by rw [decide_eq_false c]; rfl)]
      exact hj _ rfl
set_option maxRecDepth 16384 in
theorem e_mustSignB {c : Int32} {h : PH} (B : BX h) : f_X12_mustSign 152 c h = some ((), h) := by
  unfold f_X12_mustSign
  simp only [pw_lt, e_blamesB B, pw_cb]
  rw [if_neg B, ite_self]
set_option maxRecDepth 16384 in
theorem e_mustSign {n : Nat} {X : Nat → Nat} {p w c : Nat} {h : PH} (T : TX n X h) (R : TR n X p h) (B : h.1 152 13 = nI 0) (h1 : 2 ≤ w) (h2 : w ≤ 27) (hs : slen w = 1) (hc : wbN w 0 = c) (hG : isG c = true) : ok (f_X12_mustSign 152 (nI c) h) (fun _ h' => FrR h h' ∧ h'.1 152 17 = h.1 152 17 ∧ (tc n X p = w → fT h h' ∧ TR n X (nx n X p) h') ∧ (tc n X p ≠ w → FLt (flt n X 2 p) h')) := by
  have hkl := krf_lt (p := p) T
  have hk := krf_sg (n := n) (X := X) (p := p) h1 h2 hs hc hG
  have hgb := isG_b hG
  have hkr : (nI (krf n X p) = nI c) = (krf n X p = c) := pw_eqI (by omega) (by omega)
  unfold f_X12_mustSign
  refine ok_join (fun h1 => (tc n X p = w ∧ h1 = h) ∨ (tc n X p ≠ w ∧ FrR h h1 ∧ FLt (flt n X 2 p) h1 ∧ h1.1 152 17 = h.1 152 17)) ?_ (fun j hj => ?_)
  · rintro h1 (⟨q, rfl⟩ | ⟨q, f1, l1, d1⟩)
    · refine ok_join (fun h4 => fT h1 h4 ∧ TR n X (nx n X p) h4) ?_ (fun j hj => ?_)
      · rintro h4 ⟨f4, R4⟩
        exact ok_some ⟨FrR_fT f4, f4.2 17 (by decide) (by decide) (by decide) (by decide), fun _ => ⟨f4, R4⟩, fun z => absurd q z⟩
      · rw [if_pos (show h1.1 152 13 = (0 : Int32) from B)]
        refine ok_cb (e_on T R) ?_
        rintro r h4 ⟨f4, R4⟩
        exact hj _ ⟨f4, R4⟩
    · have hB : BX h1 := FLt_B (flt_ok (by decide) (by decide)) l1
      refine ok_join (fun h4 => h4 = h1) ?_ (fun j hj => ?_)
      · rintro h4 rfl
        exact ok_some ⟨f1, d1, fun z => absurd z q, fun _ => l1⟩
      · rw [if_neg hB]
        exact hj _ rfl
  · simp only [R.2.2.2.1, hkr]
    by_cases q : tc n X p = w
    · rw [if_pos (hk.mpr q)]
      exact hj _ (Or.inl ⟨q, rfl⟩)
    · rw [if_neg (fun z => q (hk.mp z))]
      refine ok_cb (e_blames (k := 2) T R B) ?_
      rintro r h1 ⟨f1, l1, d1⟩
      exact hj _ (Or.inr ⟨q, f1, l1, d1⟩)
set_option maxRecDepth 16384 in
theorem e_numberB {lo hi : Int32} {h : PH} (B : BX h) : f_X12_number 152 lo hi h = some (lo, h) := by
  unfold f_X12_number
  simp only [pw_lt, e_blamesB B, pw_cb, e_within]
  have B' : ¬ (h.1 152 13 = (0 : Int32)) := B
  simp only [if_neg B', ite_self]
set_option maxRecDepth 16384 in
theorem tk3 {n : Nat} {X : Nat → Nat} {p : Nat} : krf n X p = 2 ↔ tc n X p = 40 := by
  rw [tc_40]
  unfold krf
  by_cases q : tkd n X p = 4
  · rw [if_pos q]
    have := isG_b (tkd4 q).2.2
    omega
  · rw [if_neg q]
    split
    · omega
    · split
      · omega
      · split <;> omega
set_option maxRecDepth 16384 in
theorem e_number {n : Nat} {X : Nat → Nat} {p lo hi : Nat} {h : PH} (T : TX n X h) (R : TR n X p h) (B : h.1 152 13 = nI 0) (hlo : lo < 2147483648) (hhi : hi < 2147483648) (hv : VL n X) : ok (f_X12_number 152 (nI lo) (nI hi) h) (fun r h' => FrR h h' ∧ h'.1 152 17 = h.1 152 17 ∧ match num n X lo hi p with
  | .inl e => FLt e h'
  | .inr q => r = nI q.2 ∧ fT h h' ∧ TR n X q.1 h' ∧ h'.1 152 13 = nI 0) := by
  have hkl := krf_lt (p := p) T
  have hkr : (nI (krf n X p) = (2 : Int32)) = (krf n X p = 2) := pw_eqI (a := krf n X p) (b := 2) (by omega) (by omega)

  have hgood : ∀ (Q : Int32 → PH → Prop), (∀ h', fT h h' → TR n X (nx n X p) h' → h'.1 152 13 = nI 0 → Q (h.1 152 12) h') → ok (lt (h.1 152 12) (fun (x2 : Int32) => lt (fun (h3 : PH) => lt (fun (t4 : Int32) (h5 : PH) => some (t4, h5)) (fun (j64 : Int32 → PH → Option (Int32 × PH)) => if (h3.1 152 13) = 0 then (j64 x2 h3) else (j64 (nI lo) h3))) (fun (j52 : PH → Option (Int32 × PH)) => if (h.1 152 13) = 0 then (cb (f_X12_readsOn 152 h) (fun (r6 : Unit) (h7 : PH) => j52 h7)) else (j52 h)))) Q := by
    intro Q hQ
    refine ok_lt ?_
    refine ok_join (fun h4 => fT h h4 ∧ TR n X (nx n X p) h4) ?_ (fun j hj => ?_)
    · rintro h4 ⟨f4, R4⟩
      have b4 : h4.1 152 13 = nI 0 := by rw [f4.2 13 (by decide) (by decide) (by decide) (by decide)]; exact B
      refine ok_lt ?_
      rw [if_pos (show h4.1 152 13 = (0 : Int32) from b4)]
      exact ok_some (hQ h4 f4 R4 b4)
    · rw [if_pos (show h.1 152 13 = (0 : Int32) from B)]
      refine ok_cb (e_on T R) ?_
      rintro r h4 ⟨f4, R4⟩
      exact hj _ ⟨f4, R4⟩
  have hbad : ∀ (h1 : PH) (Q : Int32 → PH → Prop), BX h1 → Q (nI lo) h1 → ok (lt (h1.1 152 12) (fun (x2 : Int32) => lt (fun (h3 : PH) => lt (fun (t4 : Int32) (h5 : PH) => some (t4, h5)) (fun (j64 : Int32 → PH → Option (Int32 × PH)) => if (h3.1 152 13) = 0 then (j64 x2 h3) else (j64 (nI lo) h3))) (fun (j52 : PH → Option (Int32 × PH)) => if (h1.1 152 13) = 0 then (cb (f_X12_readsOn 152 h1) (fun (r6 : Unit) (h7 : PH) => j52 h7)) else (j52 h1)))) Q := by
    intro h1 Q hB hQ
    simp only [pw_lt]
    rw [if_neg hB, if_neg hB]
    exact ok_some hQ
  unfold f_X12_number
  simp only [R.2.2.2.1, hkr]
  by_cases c : tc n X p = 40
  · have hvp := hv p c
    have v12 : h.1 152 12 = nI (vl n X p) := R.2.2.2.2.1 (tc_40.mp c)
    by_cases d : lo ≤ vl n X p ∧ vl n X p ≤ hi
    · have hnum : num n X lo hi p = .inr (nx n X p, vl n X p) := by
        unfold num
        rw [if_pos c, if_pos d]
      rw [hnum]
      refine ok_join (fun h1 => h1 = h) (fun h1 q => by
        subst q
        refine hgood _ (fun h' f' R' b' => ⟨FrR_fT f', f'.2 17 (by decide) (by decide) (by decide) (by decide), v12, f', R', b'⟩)) (fun j hj => ?_)
      rw [if_pos (tk3.mpr c), v12, nI_l hlo, nI_l hhi, e_withinR hlo hhi ⟨_, d.1, d.2, rfl⟩]
      simp only [pw_cb]
      rw [if_neg (show ¬ bI true = (0 : Int32) by decide)]
      exact hj _ rfl
    · have hnum : num n X lo hi p = .inl (3, p) := by
        unfold num
        rw [if_pos c, if_neg d]
      have hfl : flt n X 3 p = (3, p) := by
        unfold flt
        rw [if_neg (by rw [tc_40.mp c]; decide)]
      rw [hnum]
      refine ok_join (fun h1 => FrR h h1 ∧ FLt (3, p) h1 ∧ h1.1 152 17 = h.1 152 17) (fun h1 q => by
        obtain ⟨q1, q2, q3⟩ := q
        exact hbad h1 _ (FLt_B ⟨by show 1 ≤ 3; decide, by show 3 ≤ 4; decide⟩ q2) ⟨q1, q3, q2⟩) (fun j hj => ?_)
      rw [if_pos (tk3.mpr c), v12, nI_l hlo, nI_l hhi, e_withinR1 (a := nI (vl n X p)) hlo hhi (fun ⟨k, k1, k2, k3⟩ => by
        rw [pw_eqI (by omega) (by omega)] at k3
        omega)]
      simp only [pw_cb]
      rw [if_pos (show bI false = (0 : Int32) from rfl)]
      refine ok_cb (e_blames (k := 3) T R B) ?_
      rintro r h1 ⟨f1, l1, d1⟩
      rw [hfl] at l1
      exact hj _ ⟨f1, l1, d1⟩
  · have hnum : num n X lo hi p = .inl (flt n X 2 p) := by
      unfold num
      rw [if_neg c]
    rw [hnum]
    refine ok_join (fun h1 => FrR h h1 ∧ FLt (flt n X 2 p) h1 ∧ h1.1 152 17 = h.1 152 17) (fun h1 q => by
      obtain ⟨q1, q2, q3⟩ := q
      exact hbad h1 _ (FLt_B (flt_ok (by decide) (by decide)) q2) ⟨q1, q3, q2⟩) (fun j hj => ?_)
    rw [if_neg (fun z => c (tk3.mp z))]
    refine ok_cb (e_blames (k := 2) T R B) ?_
    rintro r h1 ⟨f1, l1, d1⟩
    exact hj _ ⟨f1, l1, d1⟩

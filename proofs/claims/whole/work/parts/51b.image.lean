/-! ===== images ===== -/
set_option maxRecDepth 16384 in
theorem GK_lt {K K' : Nat → Int32} (G : GK K) (s : ∀ j, j < 1200 → K' j = K j) : GK K' ∧ sameK K K' ∧ gv K' 6 = gv K 6 ∧ gv K' 7 = gv K 7 := by
  obtain ⟨H, U, W⟩ := G
  have s2 : sameK K K' := fun j hj => s j (by omega)
  have h6l := (rk_b H).2.2.2.2.2.2.2.1
  obtain ⟨H', g6, g7⟩ := RK_same H s2 (d := gv K 6) (o := gv K 7) (by rw [s 6 (by omega)]; exact (rk_e H).2.2.2.2.2.2.1) h6l (by rw [s 7 (by omega)]; exact (rk_e H).2.2.2.2.2.2.2) (open_lt H)
  refine ⟨⟨H', ?_, KW_same H s2 W⟩, s2, g6, g7⟩
  intro k hk
  rw [g6] at hk
  rw [gv_same s2 (show 5 < 6 ∨ _ by omega), s (66 + 17 * k) (by omega)]
  exact U k hk
set_option maxRecDepth 16384 in
theorem BK_lt {K K' : Nat → Int32} {b : Nat} {h : PH} (G : GK K) (s : ∀ j, j < 1200 → K' j = K j) (B : BK b K h) : BK b K' h := by
  obtain ⟨G', s2, g6, g7⟩ := GK_lt G s
  have h6l := (rk_b G.1).2.2.2.2.2.2.2.1
  obtain ⟨B0, B1, B2, B3, e, he, B4, B5⟩ := B
  refine ⟨by rw [s 7 (by omega)]; exact B0, fun i hi => by rw [s _ (by omega)]; exact B1 i hi, fun p hp => by rw [s _ (by omega)]; exact B2 p hp, by rw [s 6 (by omega)]; exact B3, e, he, B4, fun k hk j hj => ?_⟩
  rw [g6] at hk
  rw [s _ (by omega)]
  exact B5 k hk j hj
def imL : List Nat := 2 :: 155 :: 157 :: rgL 95 57
set_option maxRecDepth 16384 in
theorem INV.im {h h' : PH} (I : INV h) (e : eqx (imL ++ scL) h h') (f : f152 h h') (hd : HD (h.1 153) (h.1 159) (h'.1 31)) (cc : CHc (h.1 153) (h.1 159) h') (im : ∀ i, i < 3 → IM1 i h') : INV h' := by
  obtain ⟨i1, i2, i3, i4, i5, i6, i7, i8, i9, i10, i11, i12⟩ := I
  have e153 := (e 153 (by decide)).1
  have e159 := (e 159 (by decide)).1
  have e160 := (e 160 (by decide)).1
  unfold INV
  rw [e153, e159, e160]
  refine ⟨i1, i2, i3, SKY_to e (by decide) (by decide) (by decide) (by decide) (by decide) i4, BK_to e (by decide) (by decide) (by decide) (by decide) i5, hd, cc, TP_to e f.1 (by decide) (by decide) (by decide) i8, ?_, fun t ht => TR1_to e ((by decide : ∀ t, t < 4 → 85 + 2 * t ∉ (imL ++ scL)) t ht) ((by decide : ∀ t, t < 4 → 86 + 2 * t ∉ (imL ++ scL)) t ht) (by decide) (by decide) (by decide) (i10 t ht), im, WO_to e (by decide) i12⟩
  rw [(e 13 (by decide)).1, f.2.1, f.2.2]
  exact i9
def nwL : List Nat := [0, 3, 4, 5, 6, 7, 13, 19, 153, 159, 160] ++ bkS ++ scL
/- with another sky -/
set_option maxRecDepth 16384 in
theorem INV.new {h h' : PH} (I : INV h) (e : eqx nwL h h') (g : GK (h'.1 153)) (ev : EV (h'.1 153) (h'.1 159)) (ww : WW (h'.1 153) (h'.1 160)) (s : SKY 3 (h'.1 153) h') (b : BK 16 (h'.1 153) h') (hd : ∀ j, j < 4096 → h'.1 31 j = mI) (cc : h'.1 33 8 = nI 0) (tp : TP h') (ft : h'.1 13 10 = h'.1 152 15 ∧ h'.1 13 11 = h'.1 152 16) : INV h' := by
  obtain ⟨i1, i2, i3, i4, i5, i6, i7, i8, i9, i10, i11, i12⟩ := I
  have hb := rk_b g.1
  refine ⟨g, ev, ww, s, b, fun w hw => Or.inl (hd w (by omega)), Or.inl cc, tp, ft, fun t ht => TR1_to e ((by decide : ∀ t, t < 4 → 85 + 2 * t ∉ nwL) t ht) ((by decide : ∀ t, t < 4 → 86 + 2 * t ∉ nwL) t ht) (by decide) (by decide) (by decide) (i10 t ht), fun i hi => IM1_to e (fun c h1 h2 => (by decide : ∀ c, c < 152 → 95 ≤ c → c ∉ nwL) c (by omega) (by omega)) (by decide) (by decide) (by decide) (i11 i hi), WO_to e (by decide) i12⟩
set_option maxRecDepth 16384 in
theorem r_93 {i : Nat} (h : i < 3) : rt 93 i = 95 + 19 * i := (by decide : ∀ i, i < 3 → rt 93 i = 95 + 19 * i) i h
set_option maxRecDepth 16384 in
theorem r_94 {i : Nat} (h : i < 3) : rt 94 i = 100 + 19 * i := (by decide : ∀ i, i < 3 → rt 94 i = 100 + 19 * i) i h
set_option maxRecDepth 16384 in
theorem c_checkImage {h : PH} {a : Int32} (q : inN 3 a) : f_X11_checkImage 0 a h = some (.inl (), h) := by
  obtain ⟨k, hk, rfl⟩ := q
  unfold f_X11_checkImage
  simp (disch := omega) only [pw_lt, pw_cb, pw_cbx, pw_cbxr, pw_lit, pw_litL, pw_oi, pw_oim, pw_oi8, pw_m, pw_ldI, pw_ldL, pw_ldR, pw_stI, pw_stL, pw_nz, pw_ltI, pw_leI, pw_eqI, pw_eqm, pw_eqm2, pw_ltm, pw_mlt, pw_lem, pw_mle, pw_mm, pw_dec, pw_nar0, pw_nar1, nI_add, pw_sub, pw_mul, pw_and, pw_or, pw_andn, pw_shl1, pw_shl, pw_shr, pw_dv, nI_l, lN_i, Bool.false_eq_true, reduceCtorEq, if_false, if_true, ↓reduceIte, if_pos, if_neg]
set_option maxRecDepth 16384 in
theorem c_checkImage1 {h : PH} {a : Int32} (q : ¬ inN 3 a) : f_X11_checkImage 0 a h = some (.inr 1, h) := by
  unfold f_X11_checkImage
  simp only [pw_lt, pw_lit]
  exact c_rng (by decide) q
set_option maxRecDepth 16384 in
theorem e_image_lp {h : PH} {i : Nat} (hi : i < 3) : ok (lp (b_X12_image_38 152 (nI i)) FU (nI 0) h) (fun _ h' => eqx [155] h h' ∧ ∀ x, h'.1 155 x = if 1200 * i ≤ x ∧ x < 1200 * i + 1200 then h.1 153 (x - 1200 * i) else h.1 155 x) := by
  refine lp_ok (fun n s h1 => n ≤ 1200 ∧ s = nI (1200 - n) ∧ eqx [155] h h1 ∧ ∀ x, h1.1 155 x = if 1200 * i ≤ x ∧ x < 1200 * i + (1200 - n) then h.1 153 (x - 1200 * i) else h.1 155 x) ?_ FU 1200 _ h ⟨Nat.le_refl _, rfl, eqx_rfl _ _, fun x => by rw [if_neg (by omega)]⟩ (fu_lt (by omega))
  rintro n rec s h1 ⟨hn, rfl, e1, y1⟩ hrec
  unfold b_X12_image_38
  by_cases h0 : n = 0
  · subst h0
    simp (disch := omega) only [pw_lt, pw_cb, pw_cbx, pw_cbxr, pw_lit, pw_litL, pw_oi, pw_oim, pw_oi8, pw_m, pw_ldI, pw_ldL, pw_ldR, pw_stI, pw_stL, pw_nz, pw_ltI, pw_leI, pw_eqI, pw_eqm, pw_eqm2, pw_ltm, pw_mlt, pw_lem, pw_mle, pw_mm, pw_dec, pw_nar0, pw_nar1, nI_add, pw_sub, pw_mul, pw_and, pw_or, pw_andn, pw_shl1, pw_shl, pw_shr, pw_dv, nI_l, lN_i, Bool.false_eq_true, reduceCtorEq, if_false, if_true, ↓reduceIte, if_pos, if_neg]
    exact ok_some ⟨e1, y1⟩
  · generalize hk : 1200 - n = k at *
    have e9 : 1200 - (n - 1) = k + 1 := by omega
    have v : h1.1 153 k = h.1 153 k := by rw [(e1 153 (by decide)).1]
    simp (disch := omega) only [pw_lt, pw_cb, pw_cbx, pw_cbxr, pw_lit, pw_litL, pw_oi, pw_oim, pw_oi8, pw_m, pw_ldI, pw_ldL, pw_ldR, pw_stI, pw_stL, pw_nz, pw_ltI, pw_leI, pw_eqI, pw_eqm, pw_eqm2, pw_ltm, pw_mlt, pw_lem, pw_mle, pw_mm, pw_dec, pw_nar0, pw_nar1, nI_add, pw_sub, pw_mul, pw_and, pw_or, pw_andn, pw_shl1, pw_shl, pw_shr, pw_dv, nI_l, lN_i, Bool.false_eq_true, reduceCtorEq, if_false, if_true, ↓reduceIte, if_pos, if_neg, r_152_0, r_152_2, v]
    refine hrec (n - 1) _ _ (by omega) ⟨by omega, by rw [e9], eqx_trans e1 (eqx_pI (by decide)), fun x => ?_⟩
    rw [e9]
    by_cases ex : x = 1200 * i + k
    · subst ex
      rw [pw_pIs, if_pos (by omega), show 1200 * i + k - 1200 * i = k by omega]
    · rw [pw_pIo (by omega), y1 x]
      by_cases cx : 1200 * i ≤ x ∧ x < 1200 * i + k
      · rw [if_pos cx, if_pos (by omega)]
      · rw [if_neg cx, if_neg (by omega)]
set_option maxRecDepth 16384 in
theorem call_image {h : PH} {a : Int32} (I : INV h) : PC hs_L_image (f_X11_image 0 a) (f_X12_image 152 a) h := by
  by_cases q : inN 3 a
  · have hew := fun h3 : PH => e_withinI (h := h3) (n := 2) (by decide) q
    have hck := c_checkImage (h := h) q
    obtain ⟨i, hi, rfl⟩ := q
    refine ok_mono (P := fun (x : Unit ⊕ Nat) h' => x = .inl () ∧ eqx (2 :: rgL (95 + 19 * i) 19) h h' ∧ (∀ k, h'.1 2 k = if k = i then nI 1 else h.1 2 k) ∧ SKY (95 + 19 * i) (h.1 153) h' ∧ BK (100 + 19 * i) (h.1 153) h') ?_ ?_
    · unfold f_X11_image
      rw [hck]
      simp (disch := omega) only [pw_cbx, pw_lit, r_0_13, pw_ldR, r_93, r_0_2]
      refine ok_cb (c_copySky (a := 3) (b := 95 + 19 * i) I.1.1 I.1.2.2 I.2.2.2.1 SRr_3 (SRr_im hi) (by omega)) ?_
      rintro r h1 ⟨e1, S1⟩
      simp (disch := omega) only [r_0_14, pw_ldR, r_94, r_0_5]
      refine ok_cb (c_copyBook (a := 16) (b := 100 + 19 * i) (BK_to e1 (rg_n (by omega)) (rg_n (by omega)) (rg_n (by omega)) (fun k hk => rg_n (by omega)) I.2.2.2.2.1) BRr_16 (BRr_im hi) (by omega)) ?_
      rintro r2 h2 ⟨e2, B2⟩
      simp (disch := omega) only [r_0_15, pw_stI, pw_nar1]
      have e3 : eqx [2] h2 (pI h2 2 i (nI 1)) := eqx_pI (by simp)
      refine ok_some ⟨rfl, eqx_trans (eqx_mono e1 (fun c hc => ?_)) (eqx_trans (eqx_mono e2 (fun c hc => ?_)) (eqx_pI (by simp))), fun k => ?_, ?_, ?_⟩
      · have := rg_m.mp hc
        exact List.mem_cons_of_mem _ (rg_m.mpr (by omega))
      · have := rg_m.mp hc
        exact List.mem_cons_of_mem _ (rg_m.mpr (by omega))
      · by_cases ek : k = i
        · subst ek
          rw [pw_pIs, if_pos rfl]
        · rw [pw_pIo (by omega), if_neg ek, (e2 2 (rg_n (by omega))).1, (e1 2 (rg_n (by omega))).1]
      · exact SKY_to (eqx_trans (eqx_mono e2 (fun c hc => List.mem_cons_of_mem 2 hc)) (eqx_pI (by simp))) (by simp [rg_m]; omega) (by simp [rg_m]; omega) (by simp [rg_m]; omega) (by simp [rg_m]; omega) (by simp [rg_m]; omega) S1
      · exact BK_to e3 (by simp <;> omega) (by simp <;> omega) (by simp <;> omega) (fun k hk => by simp <;> omega) B2
    · rintro x h1 ⟨rfl, e1, y1, S1, B1⟩ h2 e2
      have e02 : eqx (imL ++ scL) h h2 := eqx_trans (eqx_mono e1 (fun c hc => ?_)) (eqx_mono e2 (by decide))
      · have k153 : h2.1 153 = h.1 153 := by rw [(e2 153 (by decide)).1, (e1 153 (by simp [rg_m]; omega)).1]
        have hx : eqx [152] h2 (pI h2 152 5 (nI 0)) := eqx_pI (by decide)
        have hf : f152 h2 (pI h2 152 5 (nI 0)) := f152_pI (by decide) (by decide) (by decide)
        have hth : (pI h2 152 5 (nI 0)).1 152 5 = nI 0 := th_pI
        unfold f_X12_image
        simp only [pw_litL, hew, pw_cb]
        refine ok_joinT (fun v h4 => v = nI 0 ∧ h4 = h2) ?_ (fun j hj => ?_)
        · rintro v h4 ⟨rfl, rfl⟩
          refine ok_lt ?_
          simp (disch := omega) only [pw_lit, th_pI, Int32.le_refl, if_true, r_152_4, pw_stI, pw_nar1]
          refine ok_lt ?_
          generalize hh5 : pI h4 152 5 (nI 0) = h5 at *
          refine ok_mono (e_image_lp hi) ?_
          rintro r h6 ⟨e6, y6⟩
          have e56 : eqx [155, 157] h5 h6 := eqx_trans (eqx_pI (by decide)) (eqx_mono e6 (by decide))
          have e26 : eqx [152, 155, 157] h4 h6 := eqx_trans (eqx_mono hx (by decide)) (eqx_mono e56 (by decide))
          have v153 : h5.1 153 = h.1 153 := by rw [(hx 153 (by decide)).1]; exact k153
          have e06 : eqx (imL ++ scL) h h6 := eqx_trans e02 (eqx_mono e26 (by decide))
          have f06 : f152 h h6 := f152_trans (f152_eq e1 (by simp [rg_m]; omega)) (f152_trans (f152_eq e2 (by decide)) (f152_trans hf (f152_eq e56 (by decide))))
          have e31 : eqx (2 :: 152 :: 155 :: 157 :: 177 :: rgL (95 + 19 * i) 19) h h6 := eqx_trans (eqx_mono e1 (fun c hc => ?_)) (eqx_trans (eqx_mono e2 (fun c hc => by simp at hc; simp [hc])) (eqx_mono e26 (fun c hc => by simp at hc; rcases hc with rfl | rfl | rfl <;> simp)))
          · refine ⟨by rw [(e26 177 (by decide)).2], ⟨by rw [(e56 152 (by decide)).1]; exact hth, rfl⟩, I.im e06 f06 (by rw [(e31 31 (by simp [rg_m]; omega)).1]; exact I.2.2.2.2.2.1) (CHc_to e31 (by simp [rg_m]; omega) (by simp [rg_m]; omega) (by simp [rg_m]; omega) I.2.2.2.2.2.2.1) (fun i2 hi2 => ?_)⟩
            have v2 : ∀ k, h6.1 2 k = if k = i then nI 1 else h.1 2 k := fun k => by rw [(e26 2 (by decide)).1, (e2 2 (by decide)).1, y1]
            have v157 : ∀ k, h6.1 157 k = if k = i then nI 1 else h.1 157 k := fun k => by
              rw [(e6 157 (by decide)).1]
              by_cases ek : k = i
              · subst ek
                rw [pw_pIs, if_pos rfl]
              · rw [pw_pIo (by omega), if_neg ek, (hx 157 (by decide)).1, (e2 157 (by decide)).1, (e1 157 (by simp [rg_m]; omega)).1]
            have w155 : ∀ x, h6.1 155 x = if 1200 * i ≤ x ∧ x < 1200 * i + 1200 then h.1 153 (x - 1200 * i) else h.1 155 x := fun x => by
              rw [y6]
              by_cases cx : 1200 * i ≤ x ∧ x < 1200 * i + 1200
              · rw [if_pos cx, if_pos cx, pw_pIo (by omega), v153]
              · rw [if_neg cx, if_neg cx, pw_pIo (by omega), (hx 155 (by decide)).1, (e2 155 (by decide)).1, (e1 155 (by simp [rg_m]; omega)).1]
            unfold IM1
            rw [v2, v157]
            by_cases ei : i2 = i
            · subst ei
              rw [if_pos rfl, if_pos rfl]
              refine Or.inr ⟨rfl, rfl, fun K' hK => ?_⟩
              have hs : ∀ j, j < 1200 → K' j = h.1 153 j := fun j hj => by
                rw [hK j hj, w155, if_pos (by omega), show 1200 * i2 + j - 1200 * i2 = j by omega]
              obtain ⟨G', s', g6, g7⟩ := GK_lt I.1 hs
              have e16 : eqx [152, 155, 157, 177] h1 h6 := eqx_trans (eqx_mono e2 (by decide)) (eqx_mono e26 (by decide))
              exact ⟨G', SKY_same I.1.1 I.1.2.2 s' (SKY_to e16 (by simp; omega) (by simp; omega) (by simp; omega) (by simp; omega) (by simp; omega) S1), BK_lt I.1 hs (BK_to e16 (by simp; omega) (by simp; omega) (by simp; omega) (fun k hk => by simp; omega) B1)⟩
            · rw [if_neg ei, if_neg ei]
              rcases I.2.2.2.2.2.2.2.2.2.2.1 i2 hi2 with d | ⟨d1, d2, d3⟩
              · exact Or.inl d
              · refine Or.inr ⟨d1, d2, fun K' hK => ?_⟩
                obtain ⟨g, s, b⟩ := d3 K' (fun j hj => by rw [hK j hj, w155, if_neg (by omega)])
                exact ⟨g, SKY_to e31 (by simp [rg_m]; omega) (by simp [rg_m]; omega) (by simp [rg_m]; omega) (by simp [rg_m]; omega) (by simp [rg_m]; omega) s, BK_to e31 (by simp [rg_m]; omega) (by simp [rg_m]; omega) (by simp [rg_m]; omega) (fun k hk => by simp [rg_m]; omega) b⟩
          · simp only [List.mem_cons] at hc
            rcases hc with rfl | hc
            · simp
            · simp only [List.mem_cons]
              exact Or.inr (Or.inr (Or.inr (Or.inr (Or.inr hc))))
        · simp only [pw_lit, bI_0', Bool.true_eq_false, if_false]
          exact hj _ _ ⟨rfl, rfl⟩
      · simp only [List.mem_cons] at hc
        rcases hc with rfl | hc
        · decide
        · have := rg_m.mp hc
          refine List.mem_append_left _ ?_
          unfold imL
          simp only [List.mem_cons, rg_m]
          omega
  · refine PC_q (.inr 1) ?_ (fun h2 R2 I2 k2 => ?_)
    · unfold f_X11_image
      rw [c_checkImage1 q]
      simp (disch := omega) only [pw_lt, pw_cb, pw_cbx, pw_cbxr, pw_lit, pw_litL, pw_oi, pw_oim, pw_oi8, pw_m, pw_ldI, pw_ldL, pw_ldR, pw_stI, pw_stL, pw_nz, pw_ltI, pw_leI, pw_eqI, pw_eqm, pw_eqm2, pw_ltm, pw_mlt, pw_lem, pw_mle, pw_mm, pw_dec, pw_nar0, pw_nar1, nI_add, pw_sub, pw_mul, pw_and, pw_or, pw_andn, pw_shl1, pw_shl, pw_shr, pw_dv, nI_l, lN_i, Bool.false_eq_true, reduceCtorEq, if_false, if_true, ↓reduceIte, if_pos, if_neg]
      exact ok_some ⟨rfl, CQ_rfl I⟩
    · have hew := fun h3 : PH => e_withinI1 (h := h3) (n := 2) (by decide) q
      unfold f_X12_image
      simp only [pw_litL, hew, pw_cb]
      refine ok_joinT (fun v h4 => v = nI 1 ∧ h4 = h2) ?_ (fun j hj => ?_)
      · rintro v h4 ⟨rfl, rfl⟩
        refine ok_lt ?_
        simp only [pw_lit, th_pI]
        rw [if_neg (by decide)]
        exact ok_some ⟨⟨(1, 1), rfl, by decide, th_pI⟩, RQ_th⟩
      · simp only [pw_lit, bI_0', if_true]
        exact hj _ _ ⟨rfl, rfl⟩

/-! ===== restore ===== -/
set_option maxRecDepth 16384 in
theorem c_forget {h : PH} : ok (f_X11_forgetWhatWasFound 0 h) (fun _ h' => eqx [31, 33] h h' ∧ (∀ j, j < 4096 → h'.1 31 j = mI) ∧ h'.1 33 8 = nI 0) := by
  unfold f_X11_forgetWhatWasFound f_X3_forget
  simp only [pw_lit, r_0_6, r_0_7, r_30_1, pw_m]
  refine ok_cb (P := fun _ h1 => eqx [31] h h1 ∧ ∀ j, j < 4096 → h1.1 31 j = mI) (ok_cb (c_fill (by omega)) ?_) ?_
  · rintro r h1 ⟨e1, y1⟩
    exact ok_some ⟨e1, y1⟩
  · rintro r h1 ⟨e1, y1⟩
    unfold f_X2_forget
    simp only [pw_lit, pw_lt, pw_cb]
    refine ok_some ⟨eqx_trans (eqx_mono e1 (by decide)) (eqx_pI (by decide)), fun j hj => ?_, pw_pIs⟩
    rw [pw_pIo (by omega)]
    exact y1 j hj
set_option maxRecDepth 16384 in
theorem e_restore_lp {h : PH} {i : Nat} {Q : Unit → PH → Prop} {j : PH → Option (Unit × PH)} (hi : i < 3) (hj : ∀ h', eqx [153] h h' → (∀ k, h'.1 153 k = if k < 1200 then h.1 155 (1200 * i + k) else h.1 153 k) → ok (j h') Q) : ok (lp (b_X12_restore_44 152 (nI i) j) FU (nI 0) h) Q := by
  refine lp_ok (fun n s h1 => n ≤ 1200 ∧ s = nI (1200 - n) ∧ eqx [153] h h1 ∧ ∀ k, h1.1 153 k = if k < 1200 - n then h.1 155 (1200 * i + k) else h.1 153 k) ?_ FU 1200 _ h ⟨Nat.le_refl _, rfl, eqx_rfl _ _, fun x => by rw [if_neg (by omega)]⟩ (fu_lt (by omega))
  rintro n rec s h1 ⟨hn, rfl, e1, y1⟩ hrec
  unfold b_X12_restore_44
  by_cases h0 : n = 0
  · subst h0
    simp (disch := omega) only [pw_lt, pw_cb, pw_cbx, pw_cbxr, pw_lit, pw_litL, pw_oi, pw_oim, pw_oi8, pw_m, pw_ldI, pw_ldL, pw_ldR, pw_stI, pw_stL, pw_nz, pw_ltI, pw_leI, pw_eqI, pw_eqm, pw_eqm2, pw_ltm, pw_mlt, pw_lem, pw_mle, pw_mm, pw_dec, pw_nar0, pw_nar1, nI_add, pw_sub, pw_mul, pw_and, pw_or, pw_andn, pw_shl1, pw_shl, pw_shr, pw_dv, nI_l, lN_i, Bool.false_eq_true, reduceCtorEq, if_false, if_true, ↓reduceIte, if_pos, if_neg]
    exact hj h1 e1 y1
  · generalize hk : 1200 - n = k at *
    have e9 : 1200 - (n - 1) = k + 1 := by omega
    have v : h1.1 155 (1200 * i + k) = h.1 155 (1200 * i + k) := by rw [(e1 155 (by decide)).1]
    simp (disch := omega) only [pw_lt, pw_cb, pw_cbx, pw_cbxr, pw_lit, pw_litL, pw_oi, pw_oim, pw_oi8, pw_m, pw_ldI, pw_ldL, pw_ldR, pw_stI, pw_stL, pw_nz, pw_ltI, pw_leI, pw_eqI, pw_eqm, pw_eqm2, pw_ltm, pw_mlt, pw_lem, pw_mle, pw_mm, pw_dec, pw_nar0, pw_nar1, nI_add, pw_sub, pw_mul, pw_and, pw_or, pw_andn, pw_shl1, pw_shl, pw_shr, pw_dv, nI_l, lN_i, Bool.false_eq_true, reduceCtorEq, if_false, if_true, ↓reduceIte, if_pos, if_neg, r_152_0, r_152_2, v]
    refine hrec (n - 1) _ _ (by omega) ⟨by omega, by rw [e9], eqx_trans e1 (eqx_pI (by decide)), fun x => ?_⟩
    rw [e9]
    by_cases ex : x = k
    · subst ex
      rw [pw_pIs, if_pos (by omega)]
    · rw [pw_pIo (by omega), y1 x]
      by_cases cx : x < k
      · rw [if_pos cx, if_pos (by omega)]
      · rw [if_neg cx, if_neg (by omega)]
set_option maxRecDepth 16384 in
theorem call_restore {h : PH} {a : Int32} (I : INV h) : PC hs_L_restore (f_X11_restore 0 a) (f_X12_restore 152 a) h := by
  by_cases q : inN 3 a
  · have hew := fun h3 : PH => e_withinI (h := h3) (n := 2) (by decide) q
    have hck := c_checkImage (h := h) q
    obtain ⟨i, hi, rfl⟩ := q
    rcases I.2.2.2.2.2.2.2.2.2.2.1 i hi with ⟨d1, d2⟩ | ⟨d1, d2, d3⟩
    · refine PC_q2 (.inr 2) ?_ (fun h2 R2 I2 e2 => ?_)
      · unfold f_X11_restore
        rw [hck]
        simp (disch := omega) only [pw_lt, pw_cb, pw_cbx, pw_cbxr, pw_lit, pw_litL, pw_oi, pw_oim, pw_oi8, pw_m, pw_ldI, pw_ldL, pw_ldR, pw_stI, pw_stL, pw_nz, pw_ltI, pw_leI, pw_eqI, pw_eqm, pw_eqm2, pw_ltm, pw_mlt, pw_lem, pw_mle, pw_mm, pw_dec, pw_nar0, pw_nar1, nI_add, pw_sub, pw_mul, pw_and, pw_or, pw_andn, pw_shl1, pw_shl, pw_shr, pw_dv, nI_l, lN_i, Bool.false_eq_true, reduceCtorEq, if_false, if_true, ↓reduceIte, if_pos, if_neg, r_0_15, d1]
        exact ok_some ⟨rfl, CQ_rfl I⟩
      · have v157 : h2.1 157 i = nI 0 := by rw [(e2 157 (by decide)).1]; exact d2
        unfold f_X12_restore
        simp only [pw_litL, hew, pw_cb]
        refine ok_joinT (fun v h4 => v = nI 2 ∧ h4 = h2) ?_ (fun j hj => ?_)
        · rintro v h4 ⟨rfl, rfl⟩
          refine ok_lt ?_
          simp only [pw_lit, th_pI]
          rw [if_neg (by decide)]
          exact ok_some ⟨⟨(2, 2), rfl, by decide, th_pI⟩, RQ_th⟩
        · simp (disch := omega) only [pw_lit, bI_0', Bool.true_eq_false, if_false, r_152_4, pw_ldI, v157, if_true]
          exact hj _ _ ⟨rfl, rfl⟩
    · obtain ⟨G, S, B⟩ := d3 (fun k => if k < 1200 then h.1 155 (1200 * i + k) else h.1 153 k) (fun j hj => if_pos hj)
      generalize hKI : (fun k => if k < 1200 then h.1 155 (1200 * i + k) else h.1 153 k) = KI at *
      refine ok_mono (P := fun (x : Unit ⊕ Nat) h' => x = .inl () ∧ eqx ([3, 4, 5, 6, 7, 19, 31, 33] ++ bkS) h h' ∧ SKY 3 KI h' ∧ BK 16 KI h' ∧ (∀ j, j < 4096 → h'.1 31 j = mI) ∧ h'.1 33 8 = nI 0) ?_ ?_
      · unfold f_X11_restore
        rw [hck]
        simp (disch := omega) only [pw_cbx, pw_lit, r_0_15, pw_ldI, d1, pw_eqI, show ¬ (1 = 0) by decide, if_false, r_0_13, pw_ldR, r_93, r_0_2]
        refine ok_cb (c_copySky (a := 95 + 19 * i) (b := 3) G.1 G.2.2 S (SRr_im hi) SRr_3 (by omega)) ?_
        rintro r h1 ⟨e1, S1⟩
        simp (disch := omega) only [r_0_14, pw_ldR, r_94, r_0_5]
        refine ok_cb (c_copyBook (a := 100 + 19 * i) (b := 16) (BK_to e1 (rg_n (by omega)) (rg_n (by omega)) (rg_n (by omega)) (fun k hk => rg_n (by omega)) B) (BRr_im hi) BRr_16 (by omega)) ?_
        rintro r2 h2 ⟨e2, B2⟩
        refine ok_cb c_forget ?_
        rintro r3 h3 ⟨e3, y31, y33⟩
        have S3 : SKY 3 KI h3 := SKY_to (eqx_trans (eqx_mono (S' := rgL 16 14 ++ [31, 33]) e2 (fun c hc => List.mem_append_left _ hc)) (eqx_mono e3 (by decide))) (by decide) (by decide) (by decide) (by decide) (by decide) S1
        refine ok_some ⟨rfl, eqx_trans (eqx_mono e1 (by decide)) (eqx_trans (eqx_mono e2 (by decide)) (eqx_mono e3 (by decide))), S3, BK_to e3 (by decide) (by decide) (by decide) (by decide) B2, y31, y33⟩
      · rintro x h1 ⟨rfl, e1, S1, B1, y31, y33⟩ h2 e2
        have v157 : h2.1 157 i = nI 1 := by rw [(e2 157 (by decide)).1, (e1 157 (by decide)).1]; exact d2
        have hx : eqx [152] h2 (pI h2 152 5 (nI 0)) := eqx_pI (by decide)
        have hf : f152 h2 (pI h2 152 5 (nI 0)) := f152_pI (by decide) (by decide) (by decide)
        have hth : (pI h2 152 5 (nI 0)).1 152 5 = nI 0 := th_pI
        unfold f_X12_restore
        simp only [pw_litL, hew, pw_cb]
        refine ok_joinT (fun v h4 => v = nI 0 ∧ h4 = h2) ?_ (fun j hj => ?_)
        · rintro v h4 ⟨rfl, rfl⟩
          refine ok_lt ?_
          simp only [pw_lit, th_pI, Int32.le_refl, if_true]
          refine ok_lt (ok_lt ?_)
          generalize pI h4 152 5 (nI 0) = h5 at *
          refine e_restore_lp hi (fun h6 e6 y6 => ?_)
          have k6 : h6.1 153 = KI := by
            rw [← hKI]
            funext k
            rw [y6 k, (hx 155 (by decide)).1, (e2 155 (by decide)).1, (e1 155 (by decide)).1, (hx 153 (by decide)).1, (e2 153 (by decide)).1, (e1 153 (by decide)).1]
          refine ok_cb (e_laysTruths G.1 G.2.2 k6) ?_
          rintro r h7 ⟨e7, ww, ev⟩
          have k7 : h7.1 153 = KI := by rw [(e7 153 (by decide)).1]; exact k6
          have e27 : eqx [152, 153, 159, 160, 161] h4 h7 := eqx_trans (eqx_mono hx (by decide)) (eqx_trans (eqx_mono e6 (by decide)) (eqx_mono e7 (by decide)))
          have e17 : eqx [152, 153, 159, 160, 161, 177] h1 h7 := eqx_trans (eqx_mono e2 (by decide)) (eqx_mono e27 (by decide))
          have e07 : eqx nwL h h7 := eqx_trans (eqx_mono e1 (by decide)) (eqx_mono e17 (by decide))
          have f57 : f152 h4 h7 := f152_trans hf (f152_trans (f152_eq e6 (by decide)) (f152_eq e7 (by decide)))
          have f07 : f152 h h7 := f152_trans (f152_eq e1 (by decide)) (f152_trans (f152_eq e2 (by decide)) f57)
          have e07' : eqx ([3, 4, 5, 6, 7, 19, 31, 33, 152, 153, 159, 160, 161, 177] ++ bkS) h h7 := eqx_trans (eqx_mono e1 (by decide)) (eqx_mono e17 (by decide))
          refine ok_some ⟨by rw [(e27 177 (by decide)).2], ⟨?_, rfl⟩, I.new e07 (by rw [k7]; exact G) (by rw [k7]; exact ev) (by rw [k7]; exact ww) (by rw [k7]; exact SKY_to e17 (by decide) (by decide) (by decide) (by decide) (by decide) S1) (by rw [k7]; exact BK_to e17 (by decide) (by decide) (by decide) (by decide) B1) (fun j hj => by rw [(e17 31 (by decide)).1]; exact y31 j hj) (by rw [(e17 33 (by decide)).1]; exact y33) (TP_to e07' f07.1 (by decide) (by decide) (by decide) I.2.2.2.2.2.2.2.1) ?_⟩
          · rw [(e7 152 (by decide)).1, (e6 152 (by decide)).1]
            exact hth
          · rw [(e07' 13 (by decide)).1, f07.2.1, f07.2.2]
            exact I.2.2.2.2.2.2.2.2.1
        · simp (disch := omega) only [pw_lit, bI_0', Bool.true_eq_false, if_false, r_152_4, pw_ldI, v157, pw_eqI, show ¬ (1 = 0) by decide]
          exact hj _ _ ⟨rfl, rfl⟩
  · refine PC_q (.inr 1) ?_ (fun h2 R2 I2 k2 => ?_)
    · unfold f_X11_restore
      rw [c_checkImage1 q]
      simp (disch := omega) only [pw_lt, pw_cb, pw_cbx, pw_cbxr, pw_lit, pw_litL, pw_oi, pw_oim, pw_oi8, pw_m, pw_ldI, pw_ldL, pw_ldR, pw_stI, pw_stL, pw_nz, pw_ltI, pw_leI, pw_eqI, pw_eqm, pw_eqm2, pw_ltm, pw_mlt, pw_lem, pw_mle, pw_mm, pw_dec, pw_nar0, pw_nar1, nI_add, pw_sub, pw_mul, pw_and, pw_or, pw_andn, pw_shl1, pw_shl, pw_shr, pw_dv, nI_l, lN_i, Bool.false_eq_true, reduceCtorEq, if_false, if_true, ↓reduceIte, if_pos, if_neg]
      exact ok_some ⟨rfl, CQ_rfl I⟩
    · have hew := fun h3 : PH => e_withinI1 (h := h3) (n := 2) (by decide) q
      unfold f_X12_restore
      simp only [pw_litL, hew, pw_cb]
      refine ok_joinT (fun v h4 => v = nI 1 ∧ h4 = h2) ?_ (fun j hj => ?_)
      · rintro v h4 ⟨rfl, rfl⟩
        refine ok_lt ?_
        simp only [pw_lit, th_pI]
        rw [if_neg (by decide)]
        exact ok_some ⟨⟨(1, 1), rfl, by decide, th_pI⟩, RQ_th⟩
      · simp only [pw_lit, bI_0', if_true]
        exact hj _ _ ⟨rfl, rfl⟩

/-! ===== judge: the call ===== -/
def jV (K T : Nat → Int32) (f : Nat → Int64) (k r w : Nat) : Int32 := if w = 0 then (if r = 0 then mI else nI k) else if w = 1 then nI r else if w = 2 then nI (joS K T f k) else nI (pc (joO K T f k))
set_option maxRecDepth 16384 in
theorem k_judge {h : PH} {t s m w : Nat} {f : Nat → Int64} (I : INV h) (ht : t < 4) (hm : m ≤ 30) (hmany : h.1 (85 + 2 * t) 1 = nI m) (hrow : ∀ k, k < 30 → h.2 (86 + 2 * t) k = f k) (c : f_X11_trayThere 0 (nI t) h = some (.inl (85 + 2 * t), h)) (hw : w < 4) : ok (f_X11_judge 0 (nI t) (nI w) h) (fun x h' => ∃ k r, jend (h.1 153) (h.1 159) f m k r ∧ x = .inl (jV (h.1 153) (h.1 159) f k r w) ∧ CQ h h') := by
  have H := I.1.1
  have hb := rk_b H
  have hcw := c_checkWhat (h := h) (a := nI w) (n := 3) (by decide) ⟨w, by omega, rfl⟩
  have hp2 : 2 ^ gv (h.1 153) 5 ≤ 2 ^ 10 := Nat.pow_le_pow_right (by decide) hb.2.2.2.2.2.2.1
  have e1024 : 2 ^ 10 = 1024 := rfl
  unfold f_X11_judge
  simp only [c, pw_cbx, gk_tr ht, pw_lit, hcw, r_0_5, I.op]
  refine ok_lt (ok_lt (ok_lt (ok_lt (ok_lt ?_))))
  refine c_judge_lp (m := m) (f := f) I.fc I.2.2.2.1.2.2.2.1 ht hm hmany hrow (fun k r h1 he e1 F1 => ?_)
  have cq := CQ_fc I e1 F1
  have hol := joO_lt (T := h.1 159) (f := f) H k
  have hr3 : r ≤ 3 := by rcases he.2 with q | q <;> omega
  rcases (show w = 0 ∨ w = 1 ∨ w = 2 ∨ w = 3 by omega) with rfl | rfl | rfl | rfl
  · rw [show (nI 0).toInt = 0 from by decide +kernel, if_neg (by decide)]
    simp only [show ((0 : Int) - 0).toNat = 0 from rfl, List.getD_cons_zero]
    by_cases hr : r = 0
    · subst hr
      simp (disch := omega) only [pw_lt, pw_cb, pw_cbx, pw_cbxr, pw_lit, pw_litL, pw_oi, pw_oim, pw_oi8, pw_m, pw_ldI, pw_ldL, pw_ldR, pw_stI, pw_stL, pw_nz, pw_ltI, pw_leI, pw_eqI, pw_eqm, pw_eqm2, pw_ltm, pw_mlt, pw_lem, pw_mle, pw_mm, pw_dec, pw_nar0, pw_nar1, nI_add, pw_sub, pw_mul, pw_and, pw_or, pw_andn, pw_shl1, pw_shl, pw_shr, pw_dv, nI_l, lN_i, Bool.false_eq_true, reduceCtorEq, if_false, if_true, ↓reduceIte, if_pos, if_neg]
      exact ok_some ⟨k, 0, he, rfl, cq⟩
    · simp (disch := omega) only [pw_lt, pw_cb, pw_cbx, pw_cbxr, pw_lit, pw_litL, pw_oi, pw_oim, pw_oi8, pw_m, pw_ldI, pw_ldL, pw_ldR, pw_stI, pw_stL, pw_nz, pw_ltI, pw_leI, pw_eqI, pw_eqm, pw_eqm2, pw_ltm, pw_mlt, pw_lem, pw_mle, pw_mm, pw_dec, pw_nar0, pw_nar1, nI_add, pw_sub, pw_mul, pw_and, pw_or, pw_andn, pw_shl1, pw_shl, pw_shr, pw_dv, nI_l, lN_i, Bool.false_eq_true, reduceCtorEq, if_false, if_true, ↓reduceIte, if_pos, if_neg, hr]
      refine ok_some ⟨k, r, he, ?_, cq⟩
      unfold jV
      rw [if_pos rfl, if_neg hr]
  · rw [show (nI 1).toInt = 1 from by decide +kernel, if_neg (by decide)]
    simp only [show ((1 : Int) - 0).toNat = 1 from rfl, List.getD_cons_zero, List.getD_cons_succ]
    exact ok_some ⟨k, r, he, rfl, cq⟩
  · rw [show (nI 2).toInt = 2 from by decide +kernel, if_neg (by decide)]
    simp only [show ((2 : Int) - 0).toNat = 2 from rfl, List.getD_cons_zero, List.getD_cons_succ]
    exact ok_some ⟨k, r, he, rfl, cq⟩
  · rw [show (nI 3).toInt = 3 from by decide +kernel, if_pos (by decide)]
    rw [e_bitCount (by omega)]
    exact ok_some ⟨k, r, he, rfl, cq⟩
set_option maxRecDepth 16384 in
theorem r_judge {K T : Nat → Int32} {h : PH} {t m w k r : Nat} {f : Nat → Int64} (G : GK K) (R : RX K T h) (ht : t < 4) (hm : m ≤ 30) (hmany : h.1 175 t = nI m) (hrow : ∀ k, k < 30 → h.2 176 (30 * t + k) = f k) (c : f_X12_trayFault 152 (nI t) h = some (nI 0, h)) (hw : w < 4) (he : jend K T f m k r) : ok (f_X12_judge 152 (nI t) (nI w) h) (fun b h3 => b = jV K T f k r w ∧ h3.1 152 5 = nI 0 ∧ eqx (153 :: rfL) h h3 ∧ f152 h h3 ∧ h3.1 153 = K) := by
  have hb := rk_b G.1
  have hp2 : 2 ^ gv K 5 ≤ 2 ^ 10 := Nat.pow_le_pow_right (by decide) hb.2.2.2.2.2.2.1
  have e1024 : 2 ^ 10 = 1024 := rfl
  have hew : ∀ h3 : PH, f_X12_within (nI w).toInt64 (lN 0) (lN 3) h3 = some (bI true, h3) := fun h3 => e_withinI (by decide) ⟨w, by omega, rfl⟩
  have hr3 : r ≤ 3 := by rcases he.2 with q | q <;> omega
  have hk30 : k ≤ 30 := by rcases he.2 with q | q <;> omega
  unfold f_X12_judge
  rw [c]
  simp only [pw_cb]
  refine ok_lt (ok_join (fun h4 => h4 = pI h 152 5 (nI 0)) ?_ (fun j33 hj33 => ?_))
  · rintro h4 rfl
    simp only [pw_lit, th_pI, Int32.le_refl, if_true]
    have R1 := RX_pI (j := 5) (v := nI 0) R
    refine ok_lt (ok_join (fun h6 => eqx [156] (pI h 152 5 (nI 0)) h6 ∧ ∀ i, i < 17 → h6.1 156 i = K (7 + i)) ?_ (fun j71 hj71 => e_keep44 R1.2.1 (fun h6 e6 y6 => hj71 h6 ⟨e6, y6⟩)))
    rintro h6 ⟨e6, y6⟩
    have R6 := R1.to e6 (by decide) (by decide) (by decide)
    refine ok_lt (ok_lt (ok_lt (ok_lt (ok_lt ?_))))
    rw [pw_m]
    refine e_judge_lp (m := m) (k := k) (r := r) (f := f) G R6 ht hm (by rw [(e6 175 (by decide)).1, pw_pIo (by omega)]; exact hmany) (fun i hi => by rw [(e6 176 (by decide)).2, pw_pI2]; exact hrow i hi) he (fun h7 e7 R7 => ?_)
    obtain ⟨gk, sk, ok7, lo⟩ := jK_ok (T := T) (f := f) G k
    have v7 : h7.1 153 7 = nI (joO K T f k) := by rw [R7.2.1, ← ok7]; exact (rk_e gk.1).2.2.2.2.2.2.2
    have hol := joO_lt (T := T) (f := f) G.1 k
    simp (disch := omega) only [r_152_0, pw_ldI, v7, e_size, pw_cb]
    refine ok_lt (ok_lt (ok_lt ?_))
    refine e_back170 (K := K) R7.2.1 (fun i hi => by rw [(e7 156 (by decide)).1]; exact y6 i hi) lo (fun h8 e8 k8 => ?_)
    have hth : h8.1 152 5 = nI 0 := by rw [lays_th e8 (by decide), lays_th e7 (by decide), lays_th e6 (by decide), th_pI]
    have hq : eqx (153 :: rfL) h h8 := eqx_trans (eqx_pI (by decide)) (eqx_trans (eqx_mono e6 (by decide)) (eqx_trans (eqx_mono e7 (by decide)) (eqx_mono e8 (by decide))))
    have hf : f152 h h8 := f152_trans (f152_pI (by decide) (by decide) (by decide)) (f152_trans (f152_eq e6 (by decide)) (f152_trans (f152_eq e7 (by decide)) (f152_eq e8 (by decide))))
    rcases (show w = 0 ∨ w = 1 ∨ w = 2 ∨ w = 3 by omega) with rfl | rfl | rfl | rfl
    · simp (disch := omega) only [pw_lt, pw_cb, pw_cbx, pw_cbxr, pw_lit, pw_litL, pw_oi, pw_oim, pw_oi8, pw_m, pw_ldI, pw_ldL, pw_ldR, pw_stI, pw_stL, pw_nz, pw_ltI, pw_leI, pw_eqI, pw_eqm, pw_eqm2, pw_ltm, pw_mlt, pw_lem, pw_mle, pw_mm, pw_dec, pw_nar0, pw_nar1, nI_add, pw_sub, pw_mul, pw_and, pw_or, pw_andn, pw_shl1, pw_shl, pw_shr, pw_dv, nI_l, lN_i, Bool.false_eq_true, reduceCtorEq, if_false, if_true, ↓reduceIte, if_pos, if_neg]
      exact ok_some ⟨rfl, hth, hq, hf, k8⟩
    · simp (disch := omega) only [pw_lt, pw_cb, pw_cbx, pw_cbxr, pw_lit, pw_litL, pw_oi, pw_oim, pw_oi8, pw_m, pw_ldI, pw_ldL, pw_ldR, pw_stI, pw_stL, pw_nz, pw_ltI, pw_leI, pw_eqI, pw_eqm, pw_eqm2, pw_ltm, pw_mlt, pw_lem, pw_mle, pw_mm, pw_dec, pw_nar0, pw_nar1, nI_add, pw_sub, pw_mul, pw_and, pw_or, pw_andn, pw_shl1, pw_shl, pw_shr, pw_dv, nI_l, lN_i, Bool.false_eq_true, reduceCtorEq, if_false, if_true, ↓reduceIte, if_pos, if_neg]
      exact ok_some ⟨rfl, hth, hq, hf, k8⟩
    · simp (disch := omega) only [pw_lt, pw_cb, pw_cbx, pw_cbxr, pw_lit, pw_litL, pw_oi, pw_oim, pw_oi8, pw_m, pw_ldI, pw_ldL, pw_ldR, pw_stI, pw_stL, pw_nz, pw_ltI, pw_leI, pw_eqI, pw_eqm, pw_eqm2, pw_ltm, pw_mlt, pw_lem, pw_mle, pw_mm, pw_dec, pw_nar0, pw_nar1, nI_add, pw_sub, pw_mul, pw_and, pw_or, pw_andn, pw_shl1, pw_shl, pw_shr, pw_dv, nI_l, lN_i, Bool.false_eq_true, reduceCtorEq, if_false, if_true, ↓reduceIte, if_pos, if_neg]
      exact ok_some ⟨rfl, hth, hq, hf, k8⟩
    · simp (disch := omega) only [pw_lt, pw_cb, pw_cbx, pw_cbxr, pw_lit, pw_litL, pw_oi, pw_oim, pw_oi8, pw_m, pw_ldI, pw_ldL, pw_ldR, pw_stI, pw_stL, pw_nz, pw_ltI, pw_leI, pw_eqI, pw_eqm, pw_eqm2, pw_ltm, pw_mlt, pw_lem, pw_mle, pw_mm, pw_dec, pw_nar0, pw_nar1, nI_add, pw_sub, pw_mul, pw_and, pw_or, pw_andn, pw_shl1, pw_shl, pw_shr, pw_dv, nI_l, lN_i, Bool.false_eq_true, reduceCtorEq, if_false, if_true, ↓reduceIte, if_pos, if_neg]
      exact ok_some ⟨rfl, hth, hq, hf, k8⟩
  · simp only [pw_lit, pw_litL, th_pI, if_true, hew, pw_cb, bI_0', Bool.true_eq_false, if_false]
    exact hj33 _ rfl
set_option maxRecDepth 16384 in
theorem r_judge1 {h : PH} {a w : Int32} {c0 : Nat} (c : f_X12_trayFault 152 a h = some (nI c0, h)) (h1 : 0 < c0) (h2 : c0 < 3) : ok (f_X12_judge 152 a w h) (fun b h3 => h3.1 152 5 = nI c0 ∧ RQ h h3) := by
  unfold f_X12_judge
  rw [c]
  simp only [pw_cb]
  refine ok_lt (ok_join (fun h4 => h4 = pI h 152 5 (nI c0)) ?_ (fun j33 hj33 => ?_))
  · rintro h4 rfl
    simp (disch := omega) only [pw_lit, th_pI, pw_leI]
    rw [if_neg (by omega)]
    exact ok_some ⟨th_pI, RQ_th⟩
  · simp (disch := omega) only [pw_lit, th_pI, pw_eqI]
    rw [if_neg (by omega)]
    exact hj33 _ rfl
set_option maxRecDepth 16384 in
theorem call_judge {h : PH} {a w : Int32} (I : INV h) : PC hs_L_judge (f_X11_judge 0 a w) (f_X12_judge 152 a w) h := by
  rcases tray_cases a I with ⟨c, r⟩ | ⟨c, r⟩ | ⟨t, s, m, ht, rfl, ⟨d1, d2, d3, d4, d5, d6, d7⟩, c, r⟩
  · refine PC_q2 (.inr 1) ?_ (fun h2 R2 I2 e2 => ?_)
    · unfold f_X11_judge
      simp only [c, pw_cbxr]
      exact ok_some ⟨rfl, CQ_rfl I⟩
    · refine ok_mono (r_judge1 (r h2 (e2 174 (by decide)).1) (by decide) (by decide)) ?_
      rintro b h3 ⟨th, rq⟩
      exact ⟨⟨(1, 1), rfl, by decide, th⟩, rq⟩
  · refine PC_q2 (.inr 2) ?_ (fun h2 R2 I2 e2 => ?_)
    · unfold f_X11_judge
      simp only [c, pw_cbxr]
      exact ok_some ⟨rfl, CQ_rfl I⟩
    · refine ok_mono (r_judge1 (r h2 (e2 174 (by decide)).1) (by decide) (by decide)) ?_
      rintro b h3 ⟨th, rq⟩
      exact ⟨⟨(2, 2), rfl, by decide, th⟩, rq⟩
  · by_cases qw : inN 4 w
    · obtain ⟨n, hn, rfl⟩ := qw
      refine ok_mono (k_judge (s := s) (f := fun k => h.2 176 (30 * t + k)) I ht d2 d5 d7 c hn) ?_
      rintro x h1 ⟨k, rr, he, rfl, cq⟩ h2 e2
      have e02 : eqx (177 :: clL) h h2 := eqx_trans (eqx_mono cq.1 (by decide)) (eqx_mono e2 (by decide))
      have I2 := cq.2.o e2
      have R2 : RX (h.1 153) (h.1 159) h2 := I.rx.to e02 (by decide) (by decide) (by decide)
      refine ok_mono (r_judge (f := fun k => h.2 176 (30 * t + k)) I.1 R2 ht d2 (by rw [(e02 175 (by decide)).1]; exact d6) (fun i hi => by rw [(e02 176 (by decide)).2]) (r h2 (e02 174 (by decide)).1) hn he) ?_
      rintro b h3 ⟨rfl, th, e3, f3, k3⟩
      have k23 : h3.1 153 = h2.1 153 := by rw [k3, (e02 153 (by decide)).1]
      refine ⟨by rw [(e3 177 (by decide)).2], ⟨th, rfl⟩, I2.k (eqx_mono e3 (by decide)) f3 (by rw [k23]; exact sameK_rfl _) (by rw [k23]; exact I2.1) (by rw [k23]; exact BK_to e3 (by decide) (by decide) (by decide) (by decide) I2.2.2.2.2.1) ?_ (CHc_to e3 (by decide) (by decide) (by decide) I2.2.2.2.2.2.2.1)⟩
      rw [(e3 31 (by decide)).1]
      exact I2.2.2.2.2.2.1
    · refine PC_q2 (.inr 0) ?_ (fun h2 R2 I2 e2 => ?_)
      · unfold f_X11_judge
        simp only [c, pw_cbx, gk_tr ht, pw_lit, c_checkWhat1 (h := h) (n := 3) (by decide) qw, pw_cbxr]
        exact ok_some ⟨rfl, CQ_rfl I⟩
      · have hew : ∀ h3 : PH, f_X12_within w.toInt64 (lN 0) (lN 3) h3 = some (bI false, h3) := fun h3 => e_withinI1 (by decide) qw
        unfold f_X12_judge
        rw [r h2 (e2 174 (by decide)).1]
        simp only [pw_cb]
        refine ok_lt (ok_join (fun h4 => h4 = pI (pI h2 152 5 (nI 0)) 152 5 (nI 3)) ?_ (fun j33 hj33 => ?_))
        · rintro h4 rfl
          simp only [pw_lit, th_pI]
          rw [if_neg (by decide)]
          exact ok_some ⟨⟨(0, 3), rfl, by decide, th_pI⟩, RQ_trans RQ_th RQ_th⟩
        · simp only [pw_lit, pw_litL, th_pI, if_true, hew, pw_cb, bI_0']
          exact hj33 _ rfl

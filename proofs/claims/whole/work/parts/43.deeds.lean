/-! ===== calls: thank, withdraw, again, undo ===== -/
def inR (lo hi : Nat) (a : Int32) : Prop := ∃ k, lo ≤ k ∧ k ≤ hi ∧ a = nI k
set_option maxRecDepth 16384 in
theorem inR_iff {lo hi : Nat} {a : Int32} (h2 : hi < 2147483648) (h1 : lo < 2147483648) : inR lo hi a ↔ (lo : Int) ≤ a.toInt ∧ a.toInt ≤ (hi : Int) := by
  constructor
  · rintro ⟨k, q1, q2, rfl⟩
    rw [pw_toInt (by omega)]
    omega
  · rintro ⟨q1, q2⟩
    refine ⟨a.toInt.toNat, by omega, by omega, Int32.toInt_inj.mp ?_⟩
    rw [pw_toInt (by omega)]
    omega
set_option maxRecDepth 16384 in
theorem e_withinR {a : Int32} {lo hi : Nat} {h : PH} (h1 : lo < 2147483648) (h2 : hi < 2147483648) (q : inR lo hi a) : f_X12_within a.toInt64 (lN lo) (lN hi) h = some (bI true, h) := by
  obtain ⟨a1, a2⟩ := (inR_iff h2 h1).mp q
  rw [e_within, decide_eq_true (show lN lo ≤ a.toInt64 by rw [Int64.le_iff_toInt_le, Int32.toInt_toInt64, lN_toInt (by omega)]; exact a1), decide_eq_true (show a.toInt64 ≤ lN hi by rw [Int64.le_iff_toInt_le, Int32.toInt_toInt64, lN_toInt (by omega)]; exact a2)]
  rfl
set_option maxRecDepth 16384 in
theorem e_withinR1 {a : Int32} {lo hi : Nat} {h : PH} (h1 : lo < 2147483648) (h2 : hi < 2147483648) (q : ¬ inR lo hi a) : f_X12_within a.toInt64 (lN lo) (lN hi) h = some (bI false, h) := by
  rw [e_within]
  cases hb : (decide (lN lo ≤ a.toInt64) && decide (a.toInt64 ≤ lN hi))
  · rfl
  · exfalso
    apply q
    simp only [Bool.and_eq_true, decide_eq_true_eq] at hb
    rw [Int64.le_iff_toInt_le, Int64.le_iff_toInt_le, Int32.toInt_toInt64, lN_toInt (by omega), lN_toInt (by omega)] at hb
    exact (inR_iff h2 h1).mpr hb
set_option maxRecDepth 16384 in
theorem c_rngR {α : Type} {a : Int32} {lo hi : Nat} {x y : α} (h1 : lo < 2147483648) (h2 : hi < 2147483648) (h : ¬ inR lo hi a) : (if a < nI lo then x else if a ≤ nI hi then y else x) = x := by
  by_cases c1 : a < nI lo
  · rw [if_pos c1]
  · rw [if_neg c1]
    by_cases c2 : a ≤ nI hi
    · refine absurd ((inR_iff h2 h1).mpr ⟨?_, ?_⟩) h
      · rw [Int32.lt_iff_toInt_lt, pw_toInt h1] at c1; omega
      · rw [Int32.le_iff_toInt_le, pw_toInt h2] at c2; exact c2
    · rw [if_neg c2]
def thK (K : Nat → Int32) (p : Nat) (v : Int32) : Nat → Int32 := updK (keepK K) (18 + p) (K (18 + p) - v)
set_option maxRecDepth 16384 in
theorem call_thank {h : PH} {a b : Int32} (I : INV h) : PC hs_L_thank (f_X11_thank 0 a b) (f_X12_thank 152 a b) h := by
  have H := I.1.1
  have hfail : ∀ h2 : PH, ok (cb (f_X12_fails 152 (nI 1) (pI h2 152 5 (nI 0))) (fun r5 h6 => some (r5, h6))) (fun b h3 => agr hs_L_thank (.inr 0 : Int32 ⊕ Nat) (h3.1 152 5) b ∧ RQ h2 h3) := fun h2 => by
    rw [e_fails]
    exact ok_some ⟨⟨(0, 1), rfl, by decide, th_pI⟩, r_fails⟩
  by_cases qa : inN 6 a
  · have hca := c_checkPerson (h := h) qa
    have hea : ∀ h3 : PH, f_X12_isBody a h3 = some (bI true, h3) := fun h3 => e_isBodyQ qa
    obtain ⟨p, hp, rfl⟩ := qa
    by_cases qb : inR 1 99 b
    · have heb : ∀ h3 : PH, f_X12_within b.toInt64 (lN 1) (lN 99) h3 = some (bI true, h3) := fun h3 => e_withinR (by decide) (by decide) qb
      have hz : keepK (h.1 153) (18 + p) = h.1 153 (18 + p) := keep_lo H (by omega) (by omega)
      obtain ⟨u1, u2, u3, u4⟩ := updK_lo (v := h.1 153 (18 + p) - b) (j := 18 + p) (keep_GK I.1) (by omega) (by omega)
      refine PC_ch I (h.1 153 (18 + p) - b) (thK (h.1 153) p b) (sameK_trans (keep_same H) u2) ?_ (fun h2 R2 => ?_)
      · obtain ⟨n, n1, n2, rfl⟩ := qb
        unfold f_X11_thank
        simp (disch := omega) only [hca, pw_cbx, pw_lt, pw_lit, pw_ltI, pw_leI, r_0_5, if_neg, if_pos]
        refine ok_cb (c_rem I.cs) ?_
        rintro r h1 ⟨e1, C1⟩
        have v18 : h1.1 18 p = h.1 153 (18 + p) := by rw [C1.2.2.2.1.2.2.1 p hp, hz]
        simp (disch := omega) only [pw_lt, pw_cb, pw_cbx, pw_cbxr, pw_lit, pw_litL, pw_oi, pw_oim, pw_oi8, pw_m, pw_ldI, pw_ldL, pw_ldR, pw_stI, pw_stL, pw_nz, pw_ltI, pw_leI, pw_eqI, pw_eqm, pw_eqm2, pw_ltm, pw_mlt, pw_lem, pw_mle, pw_mm, pw_dec, pw_nar0, pw_nar1, nI_add, pw_mul, pw_and, pw_or, pw_andn, pw_shl1, pw_shl, pw_shr, pw_dv, nI_l, lN_i, Bool.false_eq_true, reduceCtorEq, if_false, if_true, ↓reduceIte, if_pos, if_neg, r_16_2, v18, pw_pIs]
        exact ok_some ⟨rfl, eqx_trans (eqx_mono e1 (by decide)) (eqx_pI (by decide)), C1.k (eqx_pI (by decide)) u1 u2 (BK_due u3 hp C1.2.2.2.1)⟩
      · unfold f_X12_thank
        simp only [pw_lt, pw_lit, pw_litL, hea, pw_cb, bI_0', Bool.true_eq_false, if_false, heb]
        refine ok_cb (e_keepsR ⟨I.1, RX_pI (j := 5) (v := nI 0) R2⟩) ?_
        rintro r h3 ⟨e3, S3⟩
        have v18 : h3.1 153 (18 + p) = h.1 153 (18 + p) := by rw [S3.2.2.1, hz]
        simp (disch := omega) only [pw_lt, pw_cb, pw_cbx, pw_cbxr, pw_lit, pw_litL, pw_oi, pw_oim, pw_oi8, pw_m, pw_ldI, pw_ldL, pw_ldR, pw_stI, pw_stL, pw_nz, pw_ltI, pw_leI, pw_eqI, pw_eqm, pw_eqm2, pw_ltm, pw_mlt, pw_lem, pw_mle, pw_mm, pw_dec, pw_nar0, pw_nar1, nI_add, pw_mul, pw_and, pw_or, pw_andn, pw_shl1, pw_shl, pw_shr, pw_dv, nI_l, lN_i, Bool.false_eq_true, reduceCtorEq, if_false, if_true, ↓reduceIte, if_pos, if_neg, r_152_0, v18, pw_pIs]
        refine ok_some ⟨rfl, ?_, eqx_trans (eqx_pI (by decide)) (eqx_trans (eqx_mono e3 (by decide)) (eqx_pI (by decide))), f152_trans (f152_pI (by decide) (by decide) (by decide)) (f152_trans (f152_eq e3 (by decide)) (f152_eq (eqx_pI (S := [153]) (by decide)) (by decide))), ?_⟩
        · rw [pw_pIo (by omega), lays_th e3 (by decide), th_pI]
        · rw [pI_upd, S3.2.2.1]
          rfl
    · refine PC_q (.inr 0) ?_ (fun h2 R2 I2 k2 => ?_)
      · unfold f_X11_thank
        simp only [hca, pw_cbx, pw_lt, pw_lit]
        rw [c_rngR (by decide) (by decide) qb]
        exact ok_some ⟨rfl, CQ_rfl I⟩
      · have heb : ∀ h3 : PH, f_X12_within b.toInt64 (lN 1) (lN 99) h3 = some (bI false, h3) := fun h3 => e_withinR1 (by decide) (by decide) qb
        unfold f_X12_thank
        simp only [pw_lt, pw_lit, pw_litL, hea, pw_cb, bI_0', Bool.true_eq_false, if_false, heb, if_true]
        exact hfail h2
  · refine PC_q (.inr 0) ?_ (fun h2 R2 I2 k2 => ?_)
    · unfold f_X11_thank
      simp only [c_checkPerson1 (h := h) qa, pw_cbxr]
      exact ok_some ⟨rfl, CQ_rfl I⟩
    · have hea : ∀ h3 : PH, f_X12_isBody a h3 = some (bI false, h3) := fun h3 => e_isBodyQ1 qa
      unfold f_X12_thank
      simp only [pw_lt, pw_lit, hea, pw_cb, bI_0', if_true]
      exact hfail h2
set_option maxRecDepth 16384 in
theorem call_withdraw {h : PH} {a : Int32} (I : INV h) : PC hs_L_withdraw (f_X11_withdraw 0 a) (f_X12_withdraw 152 a) h := by
  have H := I.1.1
  have hb := rk_b H
  by_cases q : inN (gv (h.1 153) 5) a
  · have hcw := c_checkWish I q
    obtain ⟨k, hk, rfl⟩ := q
    rcases tf ((gv (h.1 153) 7).testBit k) with ho | ho
    · refine PC_q (.inr 2) ?_ (fun h2 R2 I2 k2 => ?_)
      · unfold f_X11_withdraw
        rw [hcw]
        simp (disch := omega) only [pw_lt, pw_cb, pw_cbx, pw_cbxr, pw_lit, pw_litL, pw_oi, pw_oim, pw_oi8, pw_m, pw_ldI, pw_ldL, pw_ldR, pw_stI, pw_stL, pw_nz, pw_ltI, pw_leI, pw_eqI, pw_eqm, pw_eqm2, pw_ltm, pw_mlt, pw_lem, pw_mle, pw_mm, pw_dec, pw_nar0, pw_nar1, nI_add, pw_sub, pw_mul, pw_and, pw_or, pw_andn, pw_shl1, pw_shl, pw_shr, pw_dv, nI_l, lN_i, Bool.false_eq_true, reduceCtorEq, if_false, if_true, ↓reduceIte, if_pos, if_neg, r_0_5, I.op, pw_tb, ho]
        exact ok_some ⟨rfl, CQ_rfl I⟩
      · unfold f_X12_withdraw
        rw [e_openFault R2 hk, ho]
        simp (disch := omega) only [pw_lt, pw_cb, pw_cbx, pw_cbxr, pw_lit, pw_litL, pw_oi, pw_oim, pw_oi8, pw_m, pw_ldI, pw_ldL, pw_ldR, pw_stI, pw_stL, pw_nz, pw_ltI, pw_leI, pw_eqI, pw_eqm, pw_eqm2, pw_ltm, pw_mlt, pw_lem, pw_mle, pw_mm, pw_dec, pw_nar0, pw_nar1, nI_add, pw_sub, pw_mul, pw_and, pw_or, pw_andn, pw_shl1, pw_shl, pw_shr, pw_dv, nI_l, lN_i, Bool.false_eq_true, reduceCtorEq, if_false, if_true, ↓reduceIte, if_pos, if_neg, th_pI]
        exact ok_some ⟨⟨(2, 2), rfl, by decide, th_pI⟩, RQ_th⟩
    · have h7 : gv (keepK (h.1 153)) 7 = gv (h.1 153) 7 := (keep_RK H).2.2
      have hsd := sdf_le (gv (h.1 153) 7) (2 ^ k)
      have h5 : gv (keepK (h.1 153)) 5 = gv (h.1 153) 5 := gv_same (keep_same H) (by omega)
      have hol := open_lt H
      obtain ⟨u1, u2, u3, u4⟩ := updK_op (o := sdf (gv (h.1 153) 7) (2 ^ k)) (keep_GK I.1) (by rw [h5]; omega)
      refine PC_ch I (nI (pc (sdf (gv (h.1 153) 7) (2 ^ k)))) _ (sameK_trans (keep_same H) u2) ?_ (fun h2 R2 => ?_)
      · unfold f_X11_withdraw
        rw [hcw]
        simp (disch := omega) only [pw_cbx, pw_lit, r_0_5, I.op, pw_and, pw_shr, pw_tb, ho, if_true, pw_eqI, show ¬ (1 = 0) by decide, if_false]
        refine ok_cb (c_rem I.cs) ?_
        rintro r h1 ⟨e1, C1⟩
        have o1 := C1.op
        rw [h7] at o1
        simp (disch := omega) only [pw_lt, pw_cb, pw_cbx, pw_cbxr, pw_lit, pw_litL, pw_oi, pw_oim, pw_oi8, pw_m, pw_ldI, pw_ldL, pw_ldR, pw_stI, pw_stL, pw_nz, pw_ltI, pw_leI, pw_eqI, pw_eqm, pw_eqm2, pw_ltm, pw_mlt, pw_lem, pw_mle, pw_mm, pw_dec, pw_nar0, pw_nar1, nI_add, pw_sub, pw_mul, pw_and, pw_or, pw_andn, pw_shl1, pw_shr, pw_dv, nI_l, lN_i, Bool.false_eq_true, reduceCtorEq, if_false, if_true, ↓reduceIte, if_pos, if_neg, o1, pw_pIs, e_bitCount]
        exact ok_some ⟨rfl, eqx_trans (eqx_mono e1 (by decide)) (eqx_pI (by decide)), C1.k (eqx_pI (by decide)) u1 u2 (BK_op u3 C1.2.2.2.1)⟩
      · unfold f_X12_withdraw
        rw [e_openFault R2 hk, ho]
        simp only [pw_cb, if_true, pw_lt, pw_lit, th_pI, Int32.le_refl]
        refine ok_cb (e_keepsR ⟨I.1, RX_pI (j := 5) (v := nI 0) R2⟩) ?_
        rintro r h3 ⟨e3, S3⟩
        have v7 : h3.1 153 7 = nI (gv (h.1 153) 7) := by rw [S3.2.2.1, ← h7]; exact (rk_e S3.1.1).2.2.2.2.2.2.2
        simp (disch := omega) only [pw_lt, pw_cb, pw_cbx, pw_cbxr, pw_lit, pw_litL, pw_oi, pw_oim, pw_oi8, pw_m, pw_ldI, pw_ldL, pw_ldR, pw_stI, pw_stL, pw_nz, pw_ltI, pw_leI, pw_eqI, pw_eqm, pw_eqm2, pw_ltm, pw_mlt, pw_lem, pw_mle, pw_mm, pw_dec, pw_nar0, pw_nar1, nI_add, pw_sub, pw_mul, pw_and, pw_or, pw_andn, pw_shl1, pw_shr, pw_dv, nI_l, lN_i, Bool.false_eq_true, reduceCtorEq, if_false, if_true, ↓reduceIte, if_pos, if_neg, r_152_0, v7, pw_pIs, e_size]
        refine ok_some ⟨rfl, ?_, eqx_trans (eqx_pI (by decide)) (eqx_trans (eqx_mono e3 (by decide)) (eqx_pI (by decide))), f152_trans (f152_pI (by decide) (by decide) (by decide)) (f152_trans (f152_eq e3 (by decide)) (f152_eq (eqx_pI (S := [153]) (by decide)) (by decide))), ?_⟩
        · rw [pw_pIo (by omega), lays_th e3 (by decide), th_pI]
        · rw [pI_upd, S3.2.2.1]
  · refine PC_q (.inr 1) ?_ (fun h2 R2 I2 k2 => ?_)
    · unfold f_X11_withdraw
      rw [c_checkWish1 I q]
      simp (disch := omega) only [pw_lt, pw_cb, pw_cbx, pw_cbxr, pw_lit, pw_litL, pw_oi, pw_oim, pw_oi8, pw_m, pw_ldI, pw_ldL, pw_ldR, pw_stI, pw_stL, pw_nz, pw_ltI, pw_leI, pw_eqI, pw_eqm, pw_eqm2, pw_ltm, pw_mlt, pw_lem, pw_mle, pw_mm, pw_dec, pw_nar0, pw_nar1, nI_add, pw_sub, pw_mul, pw_and, pw_or, pw_andn, pw_shl1, pw_shl, pw_shr, pw_dv, nI_l, lN_i, Bool.false_eq_true, reduceCtorEq, if_false, if_true, ↓reduceIte, if_pos, if_neg]
      exact ok_some ⟨rfl, CQ_rfl I⟩
    · unfold f_X12_withdraw
      rw [e_openFault1 R2 q]
      simp (disch := omega) only [pw_lt, pw_cb, pw_cbx, pw_cbxr, pw_lit, pw_litL, pw_oi, pw_oim, pw_oi8, pw_m, pw_ldI, pw_ldL, pw_ldR, pw_stI, pw_stL, pw_nz, pw_ltI, pw_leI, pw_eqI, pw_eqm, pw_eqm2, pw_ltm, pw_mlt, pw_lem, pw_mle, pw_mm, pw_dec, pw_nar0, pw_nar1, nI_add, pw_sub, pw_mul, pw_and, pw_or, pw_andn, pw_shl1, pw_shl, pw_shr, pw_dv, nI_l, lN_i, Bool.false_eq_true, reduceCtorEq, if_false, if_true, ↓reduceIte, if_pos, if_neg, th_pI]
      exact ok_some ⟨⟨(1, 1), rfl, by decide, th_pI⟩, RQ_th⟩
set_option maxRecDepth 16384 in
theorem call_again {h : PH} {a : Int32} (I : INV h) : PC hs_L_again (f_X11_again 0 a) (f_X12_again 152 a) h := by
  have H := I.1.1
  have hb := rk_b H
  by_cases q : inN (gv (h.1 153) 5) a
  · have hcw := c_checkWish I q
    obtain ⟨k, hk, rfl⟩ := q
    rcases tf ((gv (h.1 153) 7).testBit k) with ho | ho
    · have h7 : gv (keepK (h.1 153)) 7 = gv (h.1 153) 7 := (keep_RK H).2.2
      have h5 : gv (keepK (h.1 153)) 5 = gv (h.1 153) 5 := gv_same (keep_same H) (by omega)
      have hol := open_lt H
      obtain ⟨p1, p2⟩ := pow_lt10 hk (show gv (h.1 153) 5 ≤ 10 by omega)
      have hor : gv (h.1 153) 7 ||| 2 ^ k < 2 ^ gv (h.1 153) 5 := Nat.or_lt_two_pow hol p1
      obtain ⟨u1, u2, u3, u4⟩ := updK_op (o := gv (h.1 153) 7 ||| 2 ^ k) (keep_GK I.1) (by rw [h5]; exact hor)
      obtain ⟨w1, w2, w3, w4⟩ := updK_lo (v := nI 0) (j := 8 + k) u1 (by omega) (by omega)
      refine PC_ch I (nI (pc (gv (h.1 153) 7 ||| 2 ^ k))) _ (sameK_trans (sameK_trans (keep_same H) u2) w2) ?_ (fun h2 R2 => ?_)
      · unfold f_X11_again
        rw [hcw]
        simp (disch := omega) only [pw_cbx, pw_lit, r_0_5, I.op, pw_and, pw_shr, pw_tb, ho, Bool.false_eq_true, pw_eqI, show ¬ (0 = 1) by decide, if_false]
        refine ok_cb (c_rem I.cs) ?_
        rintro r h1 ⟨e1, C1⟩
        have o1 := C1.op
        rw [h7] at o1
        have C2 := C1.k (K' := updK (keepK (h.1 153)) 7 (nI (gv (h.1 153) 7 ||| 2 ^ k))) (eqx_pI (h := h1) (a := 16) (j := 0) (v := nI (gv (h.1 153) 7 ||| 2 ^ k)) (by decide)) u1 u2 (BK_op u3 C1.2.2.2.1)
        simp (disch := omega) only [pw_lt, pw_cb, pw_cbx, pw_cbxr, pw_lit, pw_litL, pw_oi, pw_oim, pw_oi8, pw_m, pw_ldI, pw_ldL, pw_ldR, pw_stI, pw_stL, pw_nz, pw_ltI, pw_leI, pw_eqI, pw_eqm, pw_eqm2, pw_ltm, pw_mlt, pw_lem, pw_mle, pw_mm, pw_dec, pw_nar0, pw_nar1, nI_add, pw_sub, pw_mul, pw_and, pw_or, pw_andn, pw_shl1, pw_shr, pw_dv, nI_l, lN_i, Bool.false_eq_true, reduceCtorEq, if_false, if_true, ↓reduceIte, if_pos, if_neg, r_16_1, o1, pw_pIs, pw_pIo, e_bitCount]
        exact ok_some ⟨rfl, eqx_trans (eqx_mono e1 (by decide)) (eqx_trans (eqx_pI (by decide)) (eqx_pI (by decide))), C2.k (eqx_pI (by decide)) w1 w2 (BK_age w3 (by omega) C2.2.2.2.1)⟩
      · have hio := e_isOpenQ (k := k) R2 (by omega)
        unfold f_X12_again
        rw [e_isWishQ R2 hk]
        simp only [pw_cb]
        refine ok_joinT (fun t h4 => t = nI 0 ∧ h4 = h2) ?_ (fun j hj => ?_)
        · rintro t h4 ⟨rfl, rfl⟩
          refine ok_lt ?_
          simp only [pw_lit, th_pI, Int32.le_refl, if_true]
          refine ok_cb (e_keepsR ⟨I.1, RX_pI (j := 5) (v := nI 0) R2⟩) ?_
          rintro r h3 ⟨e3, S3⟩
          have v7 : h3.1 153 7 = nI (gv (h.1 153) 7) := by rw [S3.2.2.1, ← h7]; exact (rk_e S3.1.1).2.2.2.2.2.2.2
          simp (disch := omega) only [pw_lt, pw_cb, pw_cbx, pw_cbxr, pw_lit, pw_litL, pw_oi, pw_oim, pw_oi8, pw_m, pw_ldI, pw_ldL, pw_ldR, pw_stI, pw_stL, pw_nz, pw_ltI, pw_leI, pw_eqI, pw_eqm, pw_eqm2, pw_ltm, pw_mlt, pw_lem, pw_mle, pw_mm, pw_dec, pw_nar0, pw_nar1, nI_add, pw_sub, pw_mul, pw_and, pw_or, pw_andn, pw_shl1, pw_shr, pw_dv, nI_l, lN_i, Bool.false_eq_true, reduceCtorEq, if_false, if_true, ↓reduceIte, if_pos, if_neg, r_152_0, v7, pw_pIs, pw_pIo, e_size]
          refine ok_some ⟨rfl, ?_, eqx_trans (eqx_pI (by decide)) (eqx_trans (eqx_mono e3 (by decide)) (eqx_trans (eqx_pI (by decide)) (eqx_pI (by decide)))), f152_trans (f152_pI (by decide) (by decide) (by decide)) (f152_trans (f152_eq e3 (by decide)) (f152_trans (f152_eq (eqx_pI (S := [153]) (by decide)) (by decide)) (f152_eq (eqx_pI (S := [153]) (by decide)) (by decide)))), ?_⟩
          · rw [pw_pIo (by omega), pw_pIo (by omega), lays_th e3 (by decide), th_pI]
          · rw [pI_upd, pI_upd, S3.2.2.1]
        · rw [ho] at hio
          simp only [pw_lit, bI_0', Bool.true_eq_false, if_false, hio, pw_cb, if_true]
          exact hj _ _ ⟨rfl, rfl⟩
    · refine PC_q (.inr 2) ?_ (fun h2 R2 I2 k2 => ?_)
      · unfold f_X11_again
        rw [hcw]
        simp (disch := omega) only [pw_lt, pw_cb, pw_cbx, pw_cbxr, pw_lit, pw_litL, pw_oi, pw_oim, pw_oi8, pw_m, pw_ldI, pw_ldL, pw_ldR, pw_stI, pw_stL, pw_nz, pw_ltI, pw_leI, pw_eqI, pw_eqm, pw_eqm2, pw_ltm, pw_mlt, pw_lem, pw_mle, pw_mm, pw_dec, pw_nar0, pw_nar1, nI_add, pw_sub, pw_mul, pw_and, pw_or, pw_andn, pw_shl1, pw_shl, pw_shr, pw_dv, nI_l, lN_i, Bool.false_eq_true, reduceCtorEq, if_false, if_true, ↓reduceIte, if_pos, if_neg, r_0_5, I.op, pw_tb, ho]
        exact ok_some ⟨rfl, CQ_rfl I⟩
      · have hio := e_isOpenQ (k := k) R2 (by omega)
        unfold f_X12_again
        rw [e_isWishQ R2 hk]
        simp only [pw_cb]
        refine ok_joinT (fun t h4 => t = nI 2 ∧ h4 = h2) ?_ (fun j hj => ?_)
        · rintro t h4 ⟨rfl, rfl⟩
          refine ok_lt ?_
          simp only [pw_lit, th_pI]
          rw [if_neg (by decide)]
          exact ok_some ⟨⟨(2, 2), rfl, by decide, th_pI⟩, RQ_th⟩
        · rw [ho] at hio
          simp only [pw_lit, bI_0', Bool.true_eq_false, if_false, hio, pw_cb]
          exact hj _ _ ⟨rfl, rfl⟩
  · refine PC_q (.inr 1) ?_ (fun h2 R2 I2 k2 => ?_)
    · unfold f_X11_again
      rw [c_checkWish1 I q]
      simp (disch := omega) only [pw_lt, pw_cb, pw_cbx, pw_cbxr, pw_lit, pw_litL, pw_oi, pw_oim, pw_oi8, pw_m, pw_ldI, pw_ldL, pw_ldR, pw_stI, pw_stL, pw_nz, pw_ltI, pw_leI, pw_eqI, pw_eqm, pw_eqm2, pw_ltm, pw_mlt, pw_lem, pw_mle, pw_mm, pw_dec, pw_nar0, pw_nar1, nI_add, pw_sub, pw_mul, pw_and, pw_or, pw_andn, pw_shl1, pw_shl, pw_shr, pw_dv, nI_l, lN_i, Bool.false_eq_true, reduceCtorEq, if_false, if_true, ↓reduceIte, if_pos, if_neg]
      exact ok_some ⟨rfl, CQ_rfl I⟩
    · unfold f_X12_again
      rw [e_isWishQ1 R2 q]
      simp only [pw_cb]
      refine ok_joinT (fun t h4 => t = nI 1 ∧ h4 = h2) ?_ (fun j hj => ?_)
      · rintro t h4 ⟨rfl, rfl⟩
        refine ok_lt ?_
        simp only [pw_lit, th_pI]
        rw [if_neg (by decide)]
        exact ok_some ⟨⟨(1, 1), rfl, by decide, th_pI⟩, RQ_th⟩
      · simp only [pw_lit, bI_0', if_true]
        exact hj _ _ ⟨rfl, rfl⟩

/-! ===== calls: holds, wish, owes, count, fault ===== -/
set_option maxRecDepth 16384 in
theorem nin_toInt {n : Nat} {a : Int32} (hn : n < 2147483647) (q : ¬ inN (n + 1) a) : a.toInt < 0 ∨ (n : Int) < a.toInt := by
  rcases Int.lt_or_le a.toInt 0 with h | h
  · exact Or.inl h
  · refine Or.inr (Int.not_le.mp (fun h2 => q ?_))
    refine ⟨a.toInt.toNat, by omega, Int32.toInt_inj.mp ?_⟩
    rw [pw_toInt (by omega)]
    omega
set_option maxRecDepth 16384 in
theorem hw_tb {K T : Nat → Int32} (E : EV K T) {i w : Nat} (hi : i < gv K 5) (hw' : w ≤ ga K) : (hw K T w).testBit i = tvR K w i := by
  unfold hw
  rw [orTo_tb, decide_eq_true hi, Bool.true_and, E i hi w hw', bI_dec]
set_option maxRecDepth 16384 in
theorem e_holdQ {K T : Nat → Int32} {h : PH} (E : EV K T) (R : RX K T h) {i w : Nat} (hi : i < gv K 5) (hw' : w ≤ ga K) : f_X12_doesHold 152 (nI i) (nI w) h = some (bI (tvR K w i), h) := by
  have hb := rk_b R.1
  exact e_doesHold (by omega) (by omega) (by rw [R.2.2.1]; exact E i hi w hw')
set_option maxRecDepth 16384 in
theorem call_holds {h : PH} {a b : Int32} (I : INV h) : PC hs_L_holds (f_X11_holds 0 a b) (f_X12_holds 152 a b) h := by
  have hb := rk_b I.1.1
  by_cases q : inN (gv (h.1 153) 5) a
  · have hcw := c_checkWish I q
    obtain ⟨k, hk, rfl⟩ := q
    by_cases qc : inN (ga (h.1 153) + 1) b
    · have hcc := c_checkCells I qc
      have hes : ∀ h3, RX (h.1 153) (h.1 159) h3 → f_X12_isSky 152 b.toInt64 h3 = some (bI true, h3) := fun h3 R => e_sky R qc
      obtain ⟨w, hw', rfl⟩ := qc
      refine PC_q (.inl (bI (tvR (h.1 153) w k))) ?_ (fun h2 R2 I2 k2 => ?_)
      · unfold f_X11_holds
        simp only [hcw, hcc, pw_cbx, r_0_6]
        refine ok_cb (c_at I.fc (by omega)) ?_
        rintro r h3 ⟨rfl, e3, F3⟩
        have hl := hw_lt (T := h.1 159) I.1.1 w
        have htb := hw_tb I.2.1 hk (show w ≤ ga (h.1 153) by omega)
        rcases tf (tvR (h.1 153) w k) with ht | ht
        · rw [ht] at htb
          simp (disch := omega) only [pw_lt, pw_cb, pw_cbx, pw_cbxr, pw_lit, pw_litL, pw_oi, pw_oim, pw_oi8, pw_m, pw_ldI, pw_ldL, pw_ldR, pw_stI, pw_stL, pw_nz, pw_ltI, pw_leI, pw_eqI, pw_eqm, pw_eqm2, pw_ltm, pw_mlt, pw_lem, pw_mle, pw_mm, pw_dec, pw_nar0, pw_nar1, nI_add, pw_sub, pw_mul, pw_and, pw_or, pw_andn, pw_shl1, pw_shl, pw_shr, pw_dv, nI_l, lN_i, Bool.false_eq_true, reduceCtorEq, if_false, if_true, ↓reduceIte, if_pos, if_neg, pw_tb, htb, ht]
          exact ok_some ⟨rfl, CQ_fc I e3 F3⟩
        · rw [ht] at htb
          simp (disch := omega) only [pw_lt, pw_cb, pw_cbx, pw_cbxr, pw_lit, pw_litL, pw_oi, pw_oim, pw_oi8, pw_m, pw_ldI, pw_ldL, pw_ldR, pw_stI, pw_stL, pw_nz, pw_ltI, pw_leI, pw_eqI, pw_eqm, pw_eqm2, pw_ltm, pw_mlt, pw_lem, pw_mle, pw_mm, pw_dec, pw_nar0, pw_nar1, nI_add, pw_sub, pw_mul, pw_and, pw_or, pw_andn, pw_shl1, pw_shl, pw_shr, pw_dv, nI_l, lN_i, Bool.false_eq_true, reduceCtorEq, if_false, if_true, ↓reduceIte, if_pos, if_neg, pw_tb, htb, ht]
          exact ok_some ⟨rfl, CQ_fc I e3 F3⟩
      · have hdo := fun h3 (R : RX (h.1 153) (h.1 159) h3) => e_holdQ (i := k) (w := w) I.2.1 R hk (by omega)
        unfold f_X12_holds
        rw [e_isWishQ R2 hk]
        simp only [pw_cb]
        refine ok_joinT (fun t h4 => t = nI 0 ∧ h4 = h2) ?_ (fun j hj => ?_)
        · rintro t h4 ⟨rfl, rfl⟩
          refine ok_lt ?_
          have hd := hdo _ (RX_pI (j := 5) (v := nI 0) R2)
          rcases tf (tvR (h.1 153) w k) with ht | ht
          · rw [ht] at hd
            simp only [pw_lit, th_pI, if_true, hd, pw_cb, pw_lt, bI_0', zr_0]
            exact ok_some ⟨⟨th_pI, by rw [ht]⟩, RQ_th⟩
          · rw [ht] at hd
            simp only [pw_lit, th_pI, if_true, hd, pw_cb, pw_lt, bI_0', Bool.true_eq_false, if_false, zr_1]
            exact ok_some ⟨⟨th_pI, by rw [ht]⟩, RQ_th⟩
        · simp only [pw_lit, bI_0', Bool.true_eq_false, if_false, hes h2 R2, pw_cb]
          exact hj _ _ ⟨rfl, rfl⟩
    · refine PC_q (.inr 0) ?_ (fun h2 R2 I2 k2 => ?_)
      · unfold f_X11_holds
        simp only [hcw, pw_cbx, c_checkCells1 I qc, pw_cbxr]
        exact ok_some ⟨rfl, CQ_rfl I⟩
      · unfold f_X12_holds
        rw [e_isWishQ R2 hk]
        simp only [pw_cb]
        refine ok_joinT (fun t h4 => t = nI 2 ∧ h4 = h2) ?_ (fun j hj => ?_)
        · rintro t h4 ⟨rfl, rfl⟩
          refine ok_lt ?_
          simp (disch := omega) only [pw_lt, pw_cb, pw_cbx, pw_cbxr, pw_lit, pw_litL, pw_oi, pw_oim, pw_oi8, pw_m, pw_ldI, pw_ldL, pw_ldR, pw_stI, pw_stL, pw_nz, pw_ltI, pw_leI, pw_eqI, pw_eqm, pw_eqm2, pw_ltm, pw_mlt, pw_lem, pw_mle, pw_mm, pw_dec, pw_nar0, pw_nar1, nI_add, pw_sub, pw_mul, pw_and, pw_or, pw_andn, pw_shl1, pw_shl, pw_shr, pw_dv, nI_l, lN_i, Bool.false_eq_true, reduceCtorEq, if_false, if_true, ↓reduceIte, if_pos, if_neg, th_pI, zr_0]
          exact ok_some ⟨⟨(0, 2), rfl, by decide, th_pI⟩, RQ_th⟩
        · simp only [pw_lit, bI_0', Bool.true_eq_false, if_false, e_sky1 R2 qc, pw_cb, if_true]
          exact hj _ _ ⟨rfl, rfl⟩
  · refine PC_q (.inr 1) ?_ (fun h2 R2 I2 k2 => ?_)
    · unfold f_X11_holds
      simp only [c_checkWish1 I q, pw_cbxr]
      exact ok_some ⟨rfl, CQ_rfl I⟩
    · unfold f_X12_holds
      rw [e_isWishQ1 R2 q]
      simp only [pw_cb]
      refine ok_joinT (fun t h4 => t = nI 1 ∧ h4 = h2) ?_ (fun j hj => ?_)
      · rintro t h4 ⟨rfl, rfl⟩
        refine ok_lt ?_
        simp (disch := omega) only [pw_lt, pw_cb, pw_cbx, pw_cbxr, pw_lit, pw_litL, pw_oi, pw_oim, pw_oi8, pw_m, pw_ldI, pw_ldL, pw_ldR, pw_stI, pw_stL, pw_nz, pw_ltI, pw_leI, pw_eqI, pw_eqm, pw_eqm2, pw_ltm, pw_mlt, pw_lem, pw_mle, pw_mm, pw_dec, pw_nar0, pw_nar1, nI_add, pw_sub, pw_mul, pw_and, pw_or, pw_andn, pw_shl1, pw_shl, pw_shr, pw_dv, nI_l, lN_i, Bool.false_eq_true, reduceCtorEq, if_false, if_true, ↓reduceIte, if_pos, if_neg, th_pI, zr_0]
        exact ok_some ⟨⟨(1, 1), rfl, by decide, th_pI⟩, RQ_th⟩
      · simp only [pw_lit, bI_0', if_true]
        exact hj _ _ ⟨rfl, rfl⟩
/-! in how many weathers -/
def cnW (K : Nat → Int32) (i n : Nat) : Nat := sumTo n (fun w => if tvR K w i = true then 1 else 0)
set_option maxRecDepth 16384 in
theorem cnW_le (K : Nat → Int32) (i n : Nat) : cnW K i n ≤ n := sumTo_b (fun i => by split <;> omega) n
set_option maxRecDepth 16384 in
theorem cnW_s (K : Nat → Int32) (i n : Nat) : cnW K i (n + 1) = cnW K i n + (if tvR K n i = true then 1 else 0) := rfl
set_option maxRecDepth 16384 in
theorem c_weathersOf {h : PH} {k : Nat} (I : INV h) (hk : k < gv (h.1 153) 5) : ok (f_X3_weathersOf 30 (nI k) h) (fun r h1 => r = nI (cnW (h.1 153) k (ga (h.1 153) + 1)) ∧ CQ h h1) := by
  have H := I.1.1
  have hb := rk_b H
  unfold f_X3_weathersOf
  simp only [pw_lt, pw_lit]
  refine lp_ok (fun n s h1 => n ≤ ga (h.1 153) + 1 ∧ s = (nI (cnW (h.1 153) k (ga (h.1 153) + 1 - n)), nI (ga (h.1 153) + 1 - n)) ∧ CQ h h1) ?_ FU (ga (h.1 153) + 1) _ h ⟨Nat.le_refl _, by rw [Nat.sub_self]; rfl, CQ_rfl I⟩ (fu_lt (by omega))
  rintro n rec s h1 ⟨hn, rfl, cq⟩ hrec
  have s8 := cq.2.s8
  rw [cq.k] at s8
  unfold b_X3_weathersOf_4
  by_cases h0 : n = 0
  · subst h0
    simp (disch := omega) only [pw_lt, pw_cb, pw_cbx, pw_cbxr, pw_lit, pw_litL, pw_oi, pw_oim, pw_oi8, pw_m, pw_ldI, pw_ldL, pw_ldR, pw_stI, pw_stL, pw_nz, pw_ltI, pw_leI, pw_eqI, pw_eqm, pw_eqm2, pw_ltm, pw_mlt, pw_lem, pw_mle, pw_mm, pw_dec, pw_nar0, pw_nar1, nI_add, pw_sub, pw_mul, pw_and, pw_or, pw_andn, pw_shl1, pw_shl, pw_shr, pw_dv, nI_l, lN_i, Bool.false_eq_true, reduceCtorEq, if_false, if_true, ↓reduceIte, if_pos, if_neg, r_30_0, s8]
    exact ok_some ⟨rfl, cq⟩
  · generalize hw' : ga (h.1 153) + 1 - n = w at *
    have e9 : ga (h.1 153) + 1 - (n - 1) = w + 1 := by omega
    have hcl := cnW_le (h.1 153) k w
    have hcs := cnW_s (h.1 153) k w
    simp (disch := omega) only [pw_lt, pw_cb, pw_cbx, pw_cbxr, pw_lit, pw_litL, pw_oi, pw_oim, pw_oi8, pw_m, pw_ldI, pw_ldL, pw_ldR, pw_stI, pw_stL, pw_nz, pw_ltI, pw_leI, pw_eqI, pw_eqm, pw_eqm2, pw_ltm, pw_mlt, pw_lem, pw_mle, pw_mm, pw_dec, pw_nar0, pw_nar1, nI_add, pw_sub, pw_mul, pw_and, pw_or, pw_andn, pw_shl1, pw_shl, pw_shr, pw_dv, nI_l, lN_i, Bool.false_eq_true, reduceCtorEq, if_false, if_true, ↓reduceIte, r_30_0, s8]
    rw [if_neg (by omega)]
    have F1 := cq.2.fc
    refine ok_cb (c_at (w := w) F1 (by rw [cq.k]; omega)) ?_
    rintro r h3 ⟨rfl, e3, F3⟩
    have hl := hw_lt (T := h1.1 159) cq.2.1.1 w
    have htb := hw_tb (w := w) cq.2.2.1 (by rw [cq.k]; exact hk) (by rw [cq.k]; omega)
    rw [cq.k] at htb hl
    rw [cq.t] at htb hl
    rw [cq.k, cq.t]
    have hrec := hrec (n - 1) (nI (cnW (h.1 153) k (w + 1)), nI (w + 1)) h3 (by omega) ⟨by omega, by rw [e9], CQ_trans cq (CQ_fc cq.2 e3 F3)⟩
    rcases tf (tvR (h.1 153) w k) with ht | ht
    · rw [ht] at htb hcs
      rw [hcs] at hrec
      simp (disch := omega) only [pw_lt, pw_cb, pw_cbx, pw_cbxr, pw_lit, pw_litL, pw_oi, pw_oim, pw_oi8, pw_m, pw_ldI, pw_ldL, pw_ldR, pw_stI, pw_stL, pw_nz, pw_ltI, pw_leI, pw_eqI, pw_eqm, pw_eqm2, pw_ltm, pw_mlt, pw_lem, pw_mle, pw_mm, pw_dec, pw_nar0, pw_nar1, nI_add, pw_sub, pw_mul, pw_and, pw_or, pw_andn, pw_shl1, pw_shl, pw_shr, pw_dv, nI_l, lN_i, Bool.false_eq_true, reduceCtorEq, if_false, if_true, ↓reduceIte, if_pos, if_neg, pw_tb, htb]
      exact hrec
    · rw [ht] at htb hcs
      rw [hcs] at hrec
      simp (disch := omega) only [pw_lt, pw_cb, pw_cbx, pw_cbxr, pw_lit, pw_litL, pw_oi, pw_oim, pw_oi8, pw_m, pw_ldI, pw_ldL, pw_ldR, pw_stI, pw_stL, pw_nz, pw_ltI, pw_leI, pw_eqI, pw_eqm, pw_eqm2, pw_ltm, pw_mlt, pw_lem, pw_mle, pw_mm, pw_dec, pw_nar0, pw_nar1, nI_add, pw_sub, pw_mul, pw_and, pw_or, pw_andn, pw_shl1, pw_shl, pw_shr, pw_dv, nI_l, lN_i, Bool.false_eq_true, reduceCtorEq, if_false, if_true, ↓reduceIte, if_pos, if_neg, pw_tb, htb]
      exact hrec
set_option maxRecDepth 16384 in
theorem e_wish_lp {K T : Nat → Int32} {h : PH} {k : Nat} {Q : Int32 → PH → Prop} {j : Int32 → PH → Option (Int32 × PH)} (E : EV K T) (R : RX K T h) (hk : k < gv K 5) (hj : ok (j (nI (cnW K k (ga K + 1))) h) Q) : ok (lp (b_X12_wish_47 152 (nI k) j) FU (nI 0, nI 0) h) Q := by
  have H := R.1
  have hb := rk_b H
  suffices hs : lp (b_X12_wish_47 152 (nI k) j) FU (nI 0, nI 0) h = j (nI (cnW K k (ga K + 1))) h by rw [hs]; exact hj
  refine lp_run (fun n => (nI (cnW K k n), nI n)) (fun _ => h) (ga K + 1) _ ?_ ?_ FU (fu_lt (by omega))
  · intro w hw' rec
    have hcl := cnW_le K k w
    have hcs := cnW_s K k w
    have hd := e_holdQ (w := w) E R hk (by omega)
    unfold b_X12_wish_47
    rcases tf (tvR K w k) with ht | ht
    · rw [ht] at hd hcs
      rw [hcs]
      simp (disch := omega) only [pw_lt, pw_cb, pw_cbx, pw_cbxr, pw_lit, pw_litL, pw_oi, pw_oim, pw_oi8, pw_m, pw_ldI, pw_ldL, pw_ldR, pw_stI, pw_stL, pw_nz, pw_ltI, pw_leI, pw_eqI, pw_eqm, pw_eqm2, pw_ltm, pw_mlt, pw_lem, pw_mle, pw_mm, pw_dec, pw_nar0, pw_nar1, nI_add, pw_sub, pw_mul, pw_and, pw_or, pw_andn, pw_shl1, pw_shl, pw_shr, pw_dv, nI_l, lN_i, Bool.false_eq_true, reduceCtorEq, if_false, if_true, ↓reduceIte, if_pos, if_neg, e_ev R, hd, bI_0']
    · rw [ht] at hd hcs
      rw [hcs]
      simp (disch := omega) only [pw_lt, pw_cb, pw_cbx, pw_cbxr, pw_lit, pw_litL, pw_oi, pw_oim, pw_oi8, pw_m, pw_ldI, pw_ldL, pw_ldR, pw_stI, pw_stL, pw_nz, pw_ltI, pw_leI, pw_eqI, pw_eqm, pw_eqm2, pw_ltm, pw_mlt, pw_lem, pw_mle, pw_mm, pw_dec, pw_nar0, pw_nar1, nI_add, pw_sub, pw_mul, pw_and, pw_or, pw_andn, pw_shl1, pw_shl, pw_shr, pw_dv, nI_l, lN_i, Bool.false_eq_true, reduceCtorEq, if_false, if_true, ↓reduceIte, if_pos, if_neg, e_ev R, hd, bI_0']
  · intro rec
    unfold b_X12_wish_47
    simp (disch := omega) only [pw_lt, pw_cb, pw_cbx, pw_cbxr, pw_lit, pw_litL, pw_oi, pw_oim, pw_oi8, pw_m, pw_ldI, pw_ldL, pw_ldR, pw_stI, pw_stL, pw_nz, pw_ltI, pw_leI, pw_eqI, pw_eqm, pw_eqm2, pw_ltm, pw_mlt, pw_lem, pw_mle, pw_mm, pw_dec, pw_nar0, pw_nar1, nI_add, pw_sub, pw_mul, pw_and, pw_or, pw_andn, pw_shl1, pw_shl, pw_shr, pw_dv, nI_l, lN_i, Bool.false_eq_true, reduceCtorEq, if_false, if_true, ↓reduceIte, if_pos, if_neg, e_ev R]
def wiV (K : Nat → Int32) (k m : Nat) : Int32 := if m = 0 then K (24 + k) else if m = 1 then K (34 + k) else if m = 2 then K (44 + k) else if m = 3 then nI (if (gv K 7).testBit k then 1 else 0) else if m = 4 then K (8 + k) else nI (cnW K k (ga K + 1))
set_option maxRecDepth 16384 in
theorem k_wish {h : PH} {k m : Nat} (I : INV h) (hk : k < gv (h.1 153) 5) (hm : m < 6) : ok (f_X11_wish 0 (nI k) (nI m) h) (fun y h1 => y = .inl (wiV (h.1 153) k m) ∧ CQ h h1) := by
  have H := I.1.1
  have hb := rk_b H
  have hcw := c_checkWish I ⟨k, hk, rfl⟩
  have hW := H.2.2.2.2.2.2.2.2.2.2.2
  obtain ⟨-, -, ⟨w5, w6⟩⟩ := hW k hk
  have s6 := I.2.2.2.1.1.2.2.2.2.2.2.1
  have hmm := mm_lt H
  have hmb : (mm (h.1 153)).testBit k = decide (gv (h.1 153) (44 + k) = 1) := by
    unfold mm
    rw [orTo_tb, decide_eq_true hk, Bool.true_and]
  have by4 := I.2.2.2.1.2.2.1 k hk
  have we5 := I.2.2.2.1.2.2.2.1 k hk
  have ag := I.2.2.2.2.1.2.1 k (by omega)
  unfold f_X11_wish
  rw [hcw]
  simp only [pw_cbx]
  rcases (show m = 0 ∨ m = 1 ∨ m = 2 ∨ m = 3 ∨ m = 4 ∨ m = 5 by omega) with rfl | rfl | rfl | rfl | rfl | rfl
  · rw [show (nI 0).toInt = 0 from by decide +kernel, if_neg (by decide)]
    simp only [show ((0 : Int) - 0).toNat = 0 from rfl, List.getD_cons_zero]
    simp (disch := omega) only [pw_lt, pw_cb, pw_cbx, pw_cbxr, pw_lit, pw_litL, pw_oi, pw_oim, pw_oi8, pw_m, pw_ldI, pw_ldL, pw_ldR, pw_stI, pw_stL, pw_nz, pw_ltI, pw_leI, pw_eqI, pw_eqm, pw_eqm2, pw_ltm, pw_mlt, pw_lem, pw_mle, pw_mm, pw_dec, pw_nar0, pw_nar1, nI_add, pw_sub, pw_mul, pw_and, pw_or, pw_andn, pw_shl1, pw_shl, pw_shr, pw_dv, nI_l, lN_i, Bool.false_eq_true, reduceCtorEq, if_false, if_true, ↓reduceIte, if_pos, if_neg, r_0_2, r_3_12, by4]
    exact ok_some ⟨rfl, CQ_rfl I⟩
  · rw [show (nI 1).toInt = 1 from by decide +kernel, if_neg (by decide)]
    simp only [show ((1 : Int) - 0).toNat = 1 from rfl, List.getD_cons_zero, List.getD_cons_succ]
    simp (disch := omega) only [pw_lt, pw_cb, pw_cbx, pw_cbxr, pw_lit, pw_litL, pw_oi, pw_oim, pw_oi8, pw_m, pw_ldI, pw_ldL, pw_ldR, pw_stI, pw_stL, pw_nz, pw_ltI, pw_leI, pw_eqI, pw_eqm, pw_eqm2, pw_ltm, pw_mlt, pw_lem, pw_mle, pw_mm, pw_dec, pw_nar0, pw_nar1, nI_add, pw_sub, pw_mul, pw_and, pw_or, pw_andn, pw_shl1, pw_shl, pw_shr, pw_dv, nI_l, lN_i, Bool.false_eq_true, reduceCtorEq, if_false, if_true, ↓reduceIte, if_pos, if_neg, r_0_2, r_3_13, we5]
    exact ok_some ⟨rfl, CQ_rfl I⟩
  · rw [show (nI 2).toInt = 2 from by decide +kernel, if_neg (by decide)]
    simp only [show ((2 : Int) - 0).toNat = 2 from rfl, List.getD_cons_zero, List.getD_cons_succ]
    have e : wiV (h.1 153) k 2 = h.1 153 (44 + k) := rfl
    rw [e, w5]
    by_cases hz : gv (h.1 153) (44 + k) = 1
    · rw [decide_eq_true hz] at hmb
      rw [hz]
      simp (disch := omega) only [pw_lt, pw_cb, pw_cbx, pw_cbxr, pw_lit, pw_litL, pw_oi, pw_oim, pw_oi8, pw_m, pw_ldI, pw_ldL, pw_ldR, pw_stI, pw_stL, pw_nz, pw_ltI, pw_leI, pw_eqI, pw_eqm, pw_eqm2, pw_ltm, pw_mlt, pw_lem, pw_mle, pw_mm, pw_dec, pw_nar0, pw_nar1, nI_add, pw_sub, pw_mul, pw_and, pw_or, pw_andn, pw_shl1, pw_shl, pw_shr, pw_dv, nI_l, lN_i, Bool.false_eq_true, reduceCtorEq, if_false, if_true, ↓reduceIte, if_pos, if_neg, r_0_2, s6, pw_tb, hmb]
      exact ok_some ⟨rfl, CQ_rfl I⟩
    · rw [decide_eq_false hz] at hmb
      have hz0 : gv (h.1 153) (44 + k) = 0 := by omega
      rw [hz0]
      simp (disch := omega) only [pw_lt, pw_cb, pw_cbx, pw_cbxr, pw_lit, pw_litL, pw_oi, pw_oim, pw_oi8, pw_m, pw_ldI, pw_ldL, pw_ldR, pw_stI, pw_stL, pw_nz, pw_ltI, pw_leI, pw_eqI, pw_eqm, pw_eqm2, pw_ltm, pw_mlt, pw_lem, pw_mle, pw_mm, pw_dec, pw_nar0, pw_nar1, nI_add, pw_sub, pw_mul, pw_and, pw_or, pw_andn, pw_shl1, pw_shl, pw_shr, pw_dv, nI_l, lN_i, Bool.false_eq_true, reduceCtorEq, if_false, if_true, ↓reduceIte, if_pos, if_neg, r_0_2, s6, pw_tb, hmb]
      exact ok_some ⟨rfl, CQ_rfl I⟩
  · rw [show (nI 3).toInt = 3 from by decide +kernel, if_neg (by decide)]
    simp only [show ((3 : Int) - 0).toNat = 3 from rfl, List.getD_cons_zero, List.getD_cons_succ]
    simp (disch := omega) only [pw_lt, pw_cb, pw_cbx, pw_cbxr, pw_lit, pw_litL, pw_oi, pw_oim, pw_oi8, pw_m, pw_ldI, pw_ldL, pw_ldR, pw_stI, pw_stL, pw_nz, pw_ltI, pw_leI, pw_eqI, pw_eqm, pw_eqm2, pw_ltm, pw_mlt, pw_lem, pw_mle, pw_mm, pw_dec, pw_nar0, pw_nar1, nI_add, pw_sub, pw_mul, pw_and, pw_or, pw_andn, pw_shl1, pw_shl, pw_shr, pw_dv, nI_l, lN_i, Bool.false_eq_true, reduceCtorEq, if_false, if_true, ↓reduceIte, if_pos, if_neg, r_0_5, I.op, pw_tb]
    exact ok_some ⟨rfl, CQ_rfl I⟩
  · rw [show (nI 4).toInt = 4 from by decide +kernel, if_neg (by decide)]
    simp only [show ((4 : Int) - 0).toNat = 4 from rfl, List.getD_cons_zero, List.getD_cons_succ]
    have ag : h.1 17 k = h.1 153 (8 + k) := ag
    simp (disch := omega) only [pw_lt, pw_cb, pw_cbx, pw_cbxr, pw_lit, pw_litL, pw_oi, pw_oim, pw_oi8, pw_m, pw_ldI, pw_ldL, pw_ldR, pw_stI, pw_stL, pw_nz, pw_ltI, pw_leI, pw_eqI, pw_eqm, pw_eqm2, pw_ltm, pw_mlt, pw_lem, pw_mle, pw_mm, pw_dec, pw_nar0, pw_nar1, nI_add, pw_sub, pw_mul, pw_and, pw_or, pw_andn, pw_shl1, pw_shl, pw_shr, pw_dv, nI_l, lN_i, Bool.false_eq_true, reduceCtorEq, if_false, if_true, ↓reduceIte, if_pos, if_neg, r_0_5, r_16_1, ag]
    exact ok_some ⟨rfl, CQ_rfl I⟩
  · rw [show (nI 5).toInt = 5 from by decide +kernel, if_neg (by decide)]
    simp only [show ((5 : Int) - 0).toNat = 5 from rfl, List.getD_cons_zero, List.getD_cons_succ, r_0_6]
    refine ok_cb (c_weathersOf I hk) ?_
    rintro r h3 ⟨rfl, cq⟩
    exact ok_some ⟨rfl, cq⟩
set_option maxRecDepth 16384 in
theorem r_wish {K T : Nat → Int32} {h : PH} {k m : Nat} (E : EV K T) (R : RX K T h) (hk : k < gv K 5) (hm : m < 6) : ok (f_X12_wish 152 (nI k) (nI m) h) (fun b h3 => agr hs_L_wish (.inl (wiV K k m)) (h3.1 152 5) b ∧ RQ h h3) := by
  have H := R.1
  have hb := rk_b H
  have hew : f_X12_within (nI m).toInt64 (lN 0) (lN 5) h = some (bI true, h) := e_withinI (by decide) ⟨m, hm, rfl⟩
  unfold f_X12_wish
  rw [e_isWishQ R hk]
  simp only [pw_cb]
  refine ok_joinT (fun t h4 => t = nI 0 ∧ h4 = h) ?_ (fun j hj => ?_)
  · rintro t h4 ⟨rfl, rfl⟩
    refine ok_lt ?_
    have R3 := RX_pI (j := 5) (v := nI 0) R
    have q153 := R3.2.1
    simp only [pw_lit, th_pI, Int32.le_refl, if_true]
    refine ok_lt (ok_lt (ok_joinT (fun y h5 => y = nI (cnW K k (ga K + 1)) ∧ h5 = pI h4 152 5 (nI 0)) ?_ (fun j2 hj2 => ?_)))
    · rintro y h5 ⟨rfl, rfl⟩
      have hop := e_isOpenQ (k := k) R3 (by omega)
      rcases (show m = 0 ∨ m = 1 ∨ m = 2 ∨ m = 3 ∨ m = 4 ∨ m = 5 by omega) with rfl | rfl | rfl | rfl | rfl | rfl
      · rw [show (nI 0).toInt = 0 from by decide +kernel, if_neg (by decide)]
        simp only [show ((0 : Int) - 0).toNat = 0 from rfl, List.getD_cons_zero]
        simp (disch := omega) only [pw_lt, pw_cb, pw_cbx, pw_cbxr, pw_lit, pw_litL, pw_oi, pw_oim, pw_oi8, pw_m, pw_ldI, pw_ldL, pw_ldR, pw_stI, pw_stL, pw_nz, pw_ltI, pw_leI, pw_eqI, pw_eqm, pw_eqm2, pw_ltm, pw_mlt, pw_lem, pw_mle, pw_mm, pw_dec, pw_nar0, pw_nar1, nI_add, pw_sub, pw_mul, pw_and, pw_or, pw_andn, pw_shl1, pw_shl, pw_shr, pw_dv, nI_l, lN_i, Bool.false_eq_true, reduceCtorEq, if_false, if_true, ↓reduceIte, if_pos, if_neg, r_152_0, q153]
        exact ok_some ⟨⟨th_pI, rfl⟩, RQ_th⟩
      · rw [show (nI 1).toInt = 1 from by decide +kernel, if_neg (by decide)]
        simp only [show ((1 : Int) - 0).toNat = 1 from rfl, List.getD_cons_zero, List.getD_cons_succ]
        simp (disch := omega) only [pw_lt, pw_cb, pw_cbx, pw_cbxr, pw_lit, pw_litL, pw_oi, pw_oim, pw_oi8, pw_m, pw_ldI, pw_ldL, pw_ldR, pw_stI, pw_stL, pw_nz, pw_ltI, pw_leI, pw_eqI, pw_eqm, pw_eqm2, pw_ltm, pw_mlt, pw_lem, pw_mle, pw_mm, pw_dec, pw_nar0, pw_nar1, nI_add, pw_sub, pw_mul, pw_and, pw_or, pw_andn, pw_shl1, pw_shl, pw_shr, pw_dv, nI_l, lN_i, Bool.false_eq_true, reduceCtorEq, if_false, if_true, ↓reduceIte, if_pos, if_neg, r_152_0, q153]
        exact ok_some ⟨⟨th_pI, rfl⟩, RQ_th⟩
      · rw [show (nI 2).toInt = 2 from by decide +kernel, if_neg (by decide)]
        simp only [show ((2 : Int) - 0).toNat = 2 from rfl, List.getD_cons_zero, List.getD_cons_succ]
        simp (disch := omega) only [pw_lt, pw_cb, pw_cbx, pw_cbxr, pw_lit, pw_litL, pw_oi, pw_oim, pw_oi8, pw_m, pw_ldI, pw_ldL, pw_ldR, pw_stI, pw_stL, pw_nz, pw_ltI, pw_leI, pw_eqI, pw_eqm, pw_eqm2, pw_ltm, pw_mlt, pw_lem, pw_mle, pw_mm, pw_dec, pw_nar0, pw_nar1, nI_add, pw_sub, pw_mul, pw_and, pw_or, pw_andn, pw_shl1, pw_shl, pw_shr, pw_dv, nI_l, lN_i, Bool.false_eq_true, reduceCtorEq, if_false, if_true, ↓reduceIte, if_pos, if_neg, r_152_0, q153]
        exact ok_some ⟨⟨th_pI, rfl⟩, RQ_th⟩
      · rw [show (nI 3).toInt = 3 from by decide +kernel, if_neg (by decide)]
        simp only [show ((3 : Int) - 0).toNat = 3 from rfl, List.getD_cons_zero, List.getD_cons_succ]
        rcases tf ((gv K 7).testBit k) with ho | ho
        · rw [ho] at hop
          simp (disch := omega) only [pw_lt, pw_cb, pw_cbx, pw_cbxr, pw_lit, pw_litL, pw_oi, pw_oim, pw_oi8, pw_m, pw_ldI, pw_ldL, pw_ldR, pw_stI, pw_stL, pw_nz, pw_ltI, pw_leI, pw_eqI, pw_eqm, pw_eqm2, pw_ltm, pw_mlt, pw_lem, pw_mle, pw_mm, pw_dec, pw_nar0, pw_nar1, nI_add, pw_sub, pw_mul, pw_and, pw_or, pw_andn, pw_shl1, pw_shl, pw_shr, pw_dv, nI_l, lN_i, Bool.false_eq_true, reduceCtorEq, if_false, if_true, ↓reduceIte, if_pos, if_neg, hop, bI_0']
          refine ok_some ⟨⟨th_pI, ?_⟩, RQ_th⟩
          show _ = nI (if (gv K 7).testBit k then 1 else 0)
          rw [ho]
          rfl
        · rw [ho] at hop
          simp (disch := omega) only [pw_lt, pw_cb, pw_cbx, pw_cbxr, pw_lit, pw_litL, pw_oi, pw_oim, pw_oi8, pw_m, pw_ldI, pw_ldL, pw_ldR, pw_stI, pw_stL, pw_nz, pw_ltI, pw_leI, pw_eqI, pw_eqm, pw_eqm2, pw_ltm, pw_mlt, pw_lem, pw_mle, pw_mm, pw_dec, pw_nar0, pw_nar1, nI_add, pw_sub, pw_mul, pw_and, pw_or, pw_andn, pw_shl1, pw_shl, pw_shr, pw_dv, nI_l, lN_i, Bool.false_eq_true, reduceCtorEq, if_false, if_true, ↓reduceIte, if_pos, if_neg, hop, bI_0']
          refine ok_some ⟨⟨th_pI, ?_⟩, RQ_th⟩
          show _ = nI (if (gv K 7).testBit k then 1 else 0)
          rw [ho]
          rfl
      · rw [show (nI 4).toInt = 4 from by decide +kernel, if_neg (by decide)]
        simp only [show ((4 : Int) - 0).toNat = 4 from rfl, List.getD_cons_zero, List.getD_cons_succ]
        simp (disch := omega) only [pw_lt, pw_cb, pw_cbx, pw_cbxr, pw_lit, pw_litL, pw_oi, pw_oim, pw_oi8, pw_m, pw_ldI, pw_ldL, pw_ldR, pw_stI, pw_stL, pw_nz, pw_ltI, pw_leI, pw_eqI, pw_eqm, pw_eqm2, pw_ltm, pw_mlt, pw_lem, pw_mle, pw_mm, pw_dec, pw_nar0, pw_nar1, nI_add, pw_sub, pw_mul, pw_and, pw_or, pw_andn, pw_shl1, pw_shl, pw_shr, pw_dv, nI_l, lN_i, Bool.false_eq_true, reduceCtorEq, if_false, if_true, ↓reduceIte, if_pos, if_neg, r_152_0, q153]
        exact ok_some ⟨⟨th_pI, rfl⟩, RQ_th⟩
      · rw [show (nI 5).toInt = 5 from by decide +kernel, if_pos (by decide)]
        exact ok_some ⟨⟨th_pI, rfl⟩, RQ_th⟩
    · exact e_wish_lp E R3 hk (hj2 _ _ ⟨rfl, rfl⟩)
  · simp only [pw_lit, pw_litL, bI_0', Bool.true_eq_false, if_false, hew, pw_cb]
    exact hj _ _ ⟨rfl, rfl⟩
set_option maxRecDepth 16384 in
theorem call_wish {h : PH} {a b : Int32} (I : INV h) : PC hs_L_wish (f_X11_wish 0 a b) (f_X12_wish 152 a b) h := by
  have hb := rk_b I.1.1
  by_cases q : inN (gv (h.1 153) 5) a
  · have hcw := c_checkWish I q
    obtain ⟨k, hk, rfl⟩ := q
    by_cases qc : inN 6 b
    · obtain ⟨m, hm, rfl⟩ := qc
      exact PC_q (.inl (wiV (h.1 153) k m)) (k_wish I hk hm) (fun h2 R2 I2 k2 => r_wish I.2.1 R2 hk hm)
    · refine PC_q (.inr 0) ?_ (fun h2 R2 I2 k2 => ?_)
      · unfold f_X11_wish
        rw [hcw]
        simp only [pw_cbx]
        have hc : b.toInt < 0 ∨ 5 < b.toInt := nin_toInt (n := 5) (by decide) qc
        rw [if_pos hc]
        exact ok_some ⟨rfl, CQ_rfl I⟩
      · have hew : f_X12_within b.toInt64 (lN 0) (lN 5) h2 = some (bI false, h2) := e_withinI1 (by decide) qc
        unfold f_X12_wish
        rw [e_isWishQ R2 hk]
        simp only [pw_cb]
        refine ok_joinT (fun t h4 => t = nI 2 ∧ h4 = h2) ?_ (fun j hj => ?_)
        · rintro t h4 ⟨rfl, rfl⟩
          refine ok_lt ?_
          simp only [pw_lit, th_pI]
          rw [if_neg (by decide)]
          exact ok_some ⟨⟨(0, 2), rfl, by decide, th_pI⟩, RQ_th⟩
        · simp only [pw_lit, pw_litL, bI_0', Bool.true_eq_false, if_false, hew, pw_cb, if_true]
          exact hj _ _ ⟨rfl, rfl⟩
  · refine PC_q (.inr 1) ?_ (fun h2 R2 I2 k2 => ?_)
    · unfold f_X11_wish
      rw [c_checkWish1 I q]
      simp only [pw_cbxr]
      exact ok_some ⟨rfl, CQ_rfl I⟩
    · unfold f_X12_wish
      rw [e_isWishQ1 R2 q]
      simp only [pw_cb]
      refine ok_joinT (fun t h4 => t = nI 1 ∧ h4 = h2) ?_ (fun j hj => ?_)
      · rintro t h4 ⟨rfl, rfl⟩
        refine ok_lt ?_
        simp only [pw_lit, th_pI]
        rw [if_neg (by decide)]
        exact ok_some ⟨⟨(1, 1), rfl, by decide, th_pI⟩, RQ_th⟩
      · simp only [pw_lit, bI_0', if_true]
        exact hj _ _ ⟨rfl, rfl⟩
/-! owes, fault, count -/
set_option maxRecDepth 16384 in
theorem call_owes {h : PH} {a : Int32} (I : INV h) : PC hs_L_owes (f_X11_owes 0 a) (f_X12_owes 152 a) h := by
  by_cases q : inN 6 a
  · have hcb := c_checkPerson (h := h) q
    have heb : ∀ h3 : PH, f_X12_isBody a h3 = some (bI true, h3) := fun h3 => e_isBodyQ q
    obtain ⟨p, hp, rfl⟩ := q
    have hd : h.1 18 p = h.1 153 (18 + p) := I.2.2.2.2.1.2.2.1 p hp
    refine PC_q (.inl (h.1 153 (18 + p))) ?_ (fun h2 R2 I2 k2 => ?_)
    · unfold f_X11_owes
      rw [hcb]
      simp (disch := omega) only [pw_lt, pw_cb, pw_cbx, pw_cbxr, pw_lit, pw_litL, pw_oi, pw_oim, pw_oi8, pw_m, pw_ldI, pw_ldL, pw_ldR, pw_stI, pw_stL, pw_nz, pw_ltI, pw_leI, pw_eqI, pw_eqm, pw_eqm2, pw_ltm, pw_mlt, pw_lem, pw_mle, pw_mm, pw_dec, pw_nar0, pw_nar1, nI_add, pw_sub, pw_mul, pw_and, pw_or, pw_andn, pw_shl1, pw_shl, pw_shr, pw_dv, nI_l, lN_i, Bool.false_eq_true, reduceCtorEq, if_false, if_true, ↓reduceIte, if_pos, if_neg, r_0_5, r_16_2, hd]
      exact ok_some ⟨rfl, CQ_rfl I⟩
    · have q153 := (RX_pI (j := 5) (v := nI 0) R2).2.1
      unfold f_X12_owes
      simp only [pw_lt, pw_lit, heb, pw_cb, bI_0', Bool.true_eq_false, if_false]
      simp (disch := omega) only [pw_lt, pw_cb, pw_cbx, pw_cbxr, pw_lit, pw_litL, pw_oi, pw_oim, pw_oi8, pw_m, pw_ldI, pw_ldL, pw_ldR, pw_stI, pw_stL, pw_nz, pw_ltI, pw_leI, pw_eqI, pw_eqm, pw_eqm2, pw_ltm, pw_mlt, pw_lem, pw_mle, pw_mm, pw_dec, pw_nar0, pw_nar1, nI_add, pw_sub, pw_mul, pw_and, pw_or, pw_andn, pw_shl1, pw_shl, pw_shr, pw_dv, nI_l, lN_i, Bool.false_eq_true, reduceCtorEq, if_false, if_true, ↓reduceIte, if_pos, if_neg, r_152_0, q153]
      exact ok_some ⟨⟨th_pI, rfl⟩, RQ_th⟩
  · refine PC_q (.inr 0) ?_ (fun h2 R2 I2 k2 => ?_)
    · unfold f_X11_owes
      simp only [c_checkPerson1 (h := h) q, pw_cbxr]
      exact ok_some ⟨rfl, CQ_rfl I⟩
    · have heb : ∀ h3 : PH, f_X12_isBody a h3 = some (bI false, h3) := fun h3 => e_isBodyQ1 q
      unfold f_X12_owes
      simp only [pw_lt, pw_lit, heb, pw_cb, bI_0', if_true, e_fails]
      exact ok_some ⟨⟨(0, 1), rfl, by decide, th_pI⟩, r_fails⟩
set_option maxRecDepth 16384 in
theorem call_fault {h : PH} {a : Int32} (I : INV h) : PN (f_X11_fault 0 a) (f_X12_fault 152 a) h := by
  obtain ⟨f1, f2⟩ := I.2.2.2.2.2.2.2.2.1
  have r4 : rt 0 4 = 13 := id rfl
  refine ⟨if a = nI 0 then h.1 13 10 else if a = nI 1 then h.1 13 11 else mI, h, ?_, ?_⟩
  · unfold f_X11_fault
    simp only [pw_lt, pw_lit, pw_m, r4]
    by_cases c1 : a = nI 0
    · rw [if_pos c1, if_pos c1]
    · rw [if_neg c1, if_neg c1]
      by_cases c2 : a = nI 1
      · rw [if_pos c2, if_pos c2]
      · rw [if_neg c2, if_neg c2]
  · have I3 : INV (pI h 152 5 (nI 0)) := I.r (RQ_th (v := nI 0)).1 (RQ_th (v := nI 0)).2
    have g1 : (pI h 152 5 (nI 0)).1 152 15 = h.1 13 10 := by rw [pw_pIo (by omega), f1]
    have g2 : (pI h 152 5 (nI 0)).1 152 16 = h.1 13 11 := by rw [pw_pIo (by omega), f2]
    unfold f_X12_fault
    simp only [pw_lt, pw_lit, pw_m, g1, g2]
    by_cases c1 : a = nI 0
    · rw [if_pos c1, if_pos c1]
      exact ok_some ⟨rfl, I3⟩
    · rw [if_neg c1, if_neg c1]
      by_cases c2 : a = nI 1
      · rw [if_pos c2, if_pos c2]
        exact ok_some ⟨rfl, I3⟩
      · rw [if_neg c2, if_neg c2]
        exact ok_some ⟨rfl, I3⟩
def dueS (K : Nat → Int32) : Nat → Int32
  | 0 => nI 0
  | n + 1 => dueS K n + K (18 + n)
set_option maxRecDepth 16384 in
theorem c_allDues {h : PH} (I : INV h) : f_X0_allDues 16 h = some (dueS (h.1 153) 6, h) := by
  have hd := I.2.2.2.2.1.2.2.1
  unfold f_X0_allDues
  simp only [pw_lt, pw_lit]
  refine lp_run (fun n => (dueS (h.1 153) n, nI n)) (fun _ => h) 6 _ ?_ ?_ FU (fu_lt (by omega))
  · intro p hp rec
    have hd : h.1 18 p = h.1 153 (18 + p) := hd p hp
    unfold b_X0_allDues_4
    simp (disch := omega) only [pw_lt, pw_cb, pw_cbx, pw_cbxr, pw_lit, pw_litL, pw_oi, pw_oim, pw_oi8, pw_m, pw_ldI, pw_ldL, pw_ldR, pw_stI, pw_stL, pw_nz, pw_ltI, pw_leI, pw_eqI, pw_eqm, pw_eqm2, pw_ltm, pw_mlt, pw_lem, pw_mle, pw_mm, pw_dec, pw_nar0, pw_nar1, nI_add, pw_sub, pw_mul, pw_and, pw_or, pw_andn, pw_shl1, pw_shl, pw_shr, pw_dv, nI_l, lN_i, Bool.false_eq_true, reduceCtorEq, if_false, if_true, ↓reduceIte, if_pos, if_neg, r_16_2, hd, dueS]
  · intro rec
    unfold b_X0_allDues_4
    simp (disch := omega) only [pw_lt, pw_cb, pw_cbx, pw_cbxr, pw_lit, pw_litL, pw_oi, pw_oim, pw_oi8, pw_m, pw_ldI, pw_ldL, pw_ldR, pw_stI, pw_stL, pw_nz, pw_ltI, pw_leI, pw_eqI, pw_eqm, pw_eqm2, pw_ltm, pw_mlt, pw_lem, pw_mle, pw_mm, pw_dec, pw_nar0, pw_nar1, nI_add, pw_sub, pw_mul, pw_and, pw_or, pw_andn, pw_shl1, pw_shl, pw_shr, pw_dv, nI_l, lN_i, Bool.false_eq_true, reduceCtorEq, if_false, if_true, ↓reduceIte, if_pos, if_neg]
set_option maxRecDepth 16384 in
theorem call_count {h : PH} {a : Int32} (I : INV h) : PN (f_X11_count 0 a) (f_X12_count 152 a) h := by
  have H := I.1.1
  have hb := rk_b H
  obtain ⟨k0, k1, k2, k3, k4, k5, k6, k7⟩ := rk_e H
  obtain ⟨z0, z1, z2, z3, z4, z5, -⟩ := I.2.2.2.1.1
  have zd := I.2.2.2.2.1.2.2.2.1
  obtain ⟨n, hn, t1, t2, -⟩ := I.2.2.2.2.2.2.2.1
  have had := c_allDues I
  have hop := I.op
  have key : ∀ (v : Int32), f_X11_count 0 a h = some (v, h) → (∀ h2, RX (h.1 153) (h.1 159) h2 → h2.1 152 7 = nI n → h2.1 153 = h.1 153 → ok (lp (b_X12_count_9 152 (fun (y4 : Int32) (h5 : PH) => if a.toInt < 0 ∨ 9 < a.toInt then (some ((-1 : Int32), h5)) else ([ldI h5 (rt 152 0) 1200 (nI 0) (fun (x6 : Int32) => some (x6, h5)), ldI h5 (rt 152 0) 1200 (1 : Int32) (fun (x7 : Int32) => some (x7, h5)), ldI h5 (rt 152 0) 1200 (2 : Int32) (fun (x8 : Int32) => some (x8, h5)), ldI h5 (rt 152 0) 1200 (3 : Int32) (fun (x9 : Int32) => some (x9, h5)), ldI h5 (rt 152 0) 1200 (4 : Int32) (fun (x10 : Int32) => some (x10, h5)), ldI h5 (rt 152 0) 1200 (5 : Int32) (fun (x11 : Int32) => some (x11, h5)), ldI h5 (rt 152 0) 1200 (7 : Int32) (fun (x12 : Int32) => cb (f_X12_size x12 h5) (fun (r13 : Int32) (h14 : PH) => some (r13, h14))), some (y4, h5), ldI h5 (rt 152 0) 1200 (6 : Int32) (fun (x15 : Int32) => some (x15, h5)), some ((h5.1 152 7), h5)] : List (Option (Int32 × PH))).getD (a.toInt - 0).toNat none)) FU (nI 0, nI 0) h2) (fun b h3 => b = v ∧ h3 = h2)) → PN (f_X11_count 0 a) (f_X12_count 152 a) h := by
    intro v h1 h2
    refine ⟨v, h, h1, ?_⟩
    have I3 : INV (pI h 152 5 (nI 0)) := I.r (RQ_th (v := nI 0)).1 (RQ_th (v := nI 0)).2
    have R3 := RX_pI (j := 5) (v := nI 0) I.rx
    have hx := h2 (pI h 152 5 (nI 0)) R3 (by rw [pw_pIo (by omega)]; exact t2) R3.2.1
    show ok (f_X12_count 152 a h) _
    unfold f_X12_count
    refine ok_lt (ok_lt (ok_lt (ok_lt ?_)))
    rw [show (0 : Int32) = nI 0 from pw_lit 0]
    refine ok_mono hx ?_
    rintro b h3 ⟨rfl, rfl⟩
    exact ⟨rfl, I3⟩
  have key2 : ∀ (v : Int32) (j : Int32 → PH → Option (Int32 × PH)) (h2 : PH), h2.1 153 = h.1 153 → j (dueS (h.1 153) 6) h2 = some (v, h2) → ok (lp (b_X12_count_9 152 j) FU (nI 0, nI 0) h2) (fun b h3 => b = v ∧ h3 = h2) := by
    intro v j h2 e1 e2
    suffices hs : lp (b_X12_count_9 152 j) FU (nI 0, nI 0) h2 = some (v, h2) by rw [hs]; exact ok_some ⟨rfl, rfl⟩
    refine lp_run (fun n => (dueS (h.1 153) n, nI n)) (fun _ => h2) 6 _ ?_ ?_ FU (fu_lt (by omega))
    · intro p hp rec
      unfold b_X12_count_9
      simp (disch := omega) only [pw_lt, pw_cb, pw_cbx, pw_cbxr, pw_lit, pw_litL, pw_oi, pw_oim, pw_oi8, pw_m, pw_ldI, pw_ldL, pw_ldR, pw_stI, pw_stL, pw_nz, pw_ltI, pw_leI, pw_eqI, pw_eqm, pw_eqm2, pw_ltm, pw_mlt, pw_lem, pw_mle, pw_mm, pw_dec, pw_nar0, pw_nar1, nI_add, pw_sub, pw_mul, pw_and, pw_or, pw_andn, pw_shl1, pw_shl, pw_shr, pw_dv, nI_l, lN_i, Bool.false_eq_true, reduceCtorEq, if_false, if_true, ↓reduceIte, if_pos, if_neg, r_152_0, e1, dueS]
    · intro rec
      unfold b_X12_count_9
      simp (disch := omega) only [pw_lt, pw_cb, pw_cbx, pw_cbxr, pw_lit, pw_litL, pw_oi, pw_oim, pw_oi8, pw_m, pw_ldI, pw_ldL, pw_ldR, pw_stI, pw_stL, pw_nz, pw_ltI, pw_leI, pw_eqI, pw_eqm, pw_eqm2, pw_ltm, pw_mlt, pw_lem, pw_mle, pw_mm, pw_dec, pw_nar0, pw_nar1, nI_add, pw_sub, pw_mul, pw_and, pw_or, pw_andn, pw_shl1, pw_shl, pw_shr, pw_dv, nI_l, lN_i, Bool.false_eq_true, reduceCtorEq, if_false, if_true, ↓reduceIte, if_pos, if_neg]
      exact e2
  by_cases q : inN 10 a
  · obtain ⟨m, hm, rfl⟩ := q
    have hti : (nI m).toInt = (m : Int) := pw_toInt (by omega)
    rcases (show m = 0 ∨ m = 1 ∨ m = 2 ∨ m = 3 ∨ m = 4 ∨ m = 5 ∨ m = 6 ∨ m = 7 ∨ m = 8 ∨ m = 9 by omega) with rfl | rfl | rfl | rfl | rfl | rfl | rfl | rfl | rfl | rfl
    · refine key (h.1 153 0) ?_ (fun h2 R2 f7 e1 => key2 (h.1 153 0) _ h2 e1 ?_)
      · unfold f_X11_count
        rw [show (nI 0).toInt = 0 from by decide +kernel, if_neg (by decide)]
        simp only [show ((0 : Int) - 0).toNat = 0 from rfl, List.getD_cons_zero, List.getD_cons_succ]
        simp (disch := omega) only [pw_lt, pw_cb, pw_cbx, pw_cbxr, pw_lit, pw_litL, pw_oi, pw_oim, pw_oi8, pw_m, pw_ldI, pw_ldL, pw_ldR, pw_stI, pw_stL, pw_nz, pw_ltI, pw_leI, pw_eqI, pw_eqm, pw_eqm2, pw_ltm, pw_mlt, pw_lem, pw_mle, pw_mm, pw_dec, pw_nar0, pw_nar1, nI_add, pw_sub, pw_mul, pw_and, pw_or, pw_andn, pw_shl1, pw_shl, pw_shr, pw_dv, nI_l, lN_i, Bool.false_eq_true, reduceCtorEq, if_false, if_true, ↓reduceIte, if_pos, if_neg, r_0_2, z0]
      · rw [show (nI 0).toInt = 0 from by decide +kernel, if_neg (by decide)]
        simp only [show ((0 : Int) - 0).toNat = 0 from rfl, List.getD_cons_zero, List.getD_cons_succ]
        simp (disch := omega) only [pw_lt, pw_cb, pw_cbx, pw_cbxr, pw_lit, pw_litL, pw_oi, pw_oim, pw_oi8, pw_m, pw_ldI, pw_ldL, pw_ldR, pw_stI, pw_stL, pw_nz, pw_ltI, pw_leI, pw_eqI, pw_eqm, pw_eqm2, pw_ltm, pw_mlt, pw_lem, pw_mle, pw_mm, pw_dec, pw_nar0, pw_nar1, nI_add, pw_sub, pw_mul, pw_and, pw_or, pw_andn, pw_shl1, pw_shl, pw_shr, pw_dv, nI_l, lN_i, Bool.false_eq_true, reduceCtorEq, if_false, if_true, ↓reduceIte, if_pos, if_neg, r_152_0, e1]
    · refine key (h.1 153 1) ?_ (fun h2 R2 f7 e1 => key2 (h.1 153 1) _ h2 e1 ?_)
      · unfold f_X11_count
        rw [show (nI 1).toInt = 1 from by decide +kernel, if_neg (by decide)]
        simp only [show ((1 : Int) - 0).toNat = 1 from rfl, List.getD_cons_zero, List.getD_cons_succ]
        simp (disch := omega) only [pw_lt, pw_cb, pw_cbx, pw_cbxr, pw_lit, pw_litL, pw_oi, pw_oim, pw_oi8, pw_m, pw_ldI, pw_ldL, pw_ldR, pw_stI, pw_stL, pw_nz, pw_ltI, pw_leI, pw_eqI, pw_eqm, pw_eqm2, pw_ltm, pw_mlt, pw_lem, pw_mle, pw_mm, pw_dec, pw_nar0, pw_nar1, nI_add, pw_sub, pw_mul, pw_and, pw_or, pw_andn, pw_shl1, pw_shl, pw_shr, pw_dv, nI_l, lN_i, Bool.false_eq_true, reduceCtorEq, if_false, if_true, ↓reduceIte, if_pos, if_neg, r_0_2, z1]
      · rw [show (nI 1).toInt = 1 from by decide +kernel, if_neg (by decide)]
        simp only [show ((1 : Int) - 0).toNat = 1 from rfl, List.getD_cons_zero, List.getD_cons_succ]
        simp (disch := omega) only [pw_lt, pw_cb, pw_cbx, pw_cbxr, pw_lit, pw_litL, pw_oi, pw_oim, pw_oi8, pw_m, pw_ldI, pw_ldL, pw_ldR, pw_stI, pw_stL, pw_nz, pw_ltI, pw_leI, pw_eqI, pw_eqm, pw_eqm2, pw_ltm, pw_mlt, pw_lem, pw_mle, pw_mm, pw_dec, pw_nar0, pw_nar1, nI_add, pw_sub, pw_mul, pw_and, pw_or, pw_andn, pw_shl1, pw_shl, pw_shr, pw_dv, nI_l, lN_i, Bool.false_eq_true, reduceCtorEq, if_false, if_true, ↓reduceIte, if_pos, if_neg, r_152_0, e1]
    · refine key (h.1 153 2) ?_ (fun h2 R2 f7 e1 => key2 (h.1 153 2) _ h2 e1 ?_)
      · unfold f_X11_count
        rw [show (nI 2).toInt = 2 from by decide +kernel, if_neg (by decide)]
        simp only [show ((2 : Int) - 0).toNat = 2 from rfl, List.getD_cons_zero, List.getD_cons_succ]
        simp (disch := omega) only [pw_lt, pw_cb, pw_cbx, pw_cbxr, pw_lit, pw_litL, pw_oi, pw_oim, pw_oi8, pw_m, pw_ldI, pw_ldL, pw_ldR, pw_stI, pw_stL, pw_nz, pw_ltI, pw_leI, pw_eqI, pw_eqm, pw_eqm2, pw_ltm, pw_mlt, pw_lem, pw_mle, pw_mm, pw_dec, pw_nar0, pw_nar1, nI_add, pw_sub, pw_mul, pw_and, pw_or, pw_andn, pw_shl1, pw_shl, pw_shr, pw_dv, nI_l, lN_i, Bool.false_eq_true, reduceCtorEq, if_false, if_true, ↓reduceIte, if_pos, if_neg, r_0_2, z2]
      · rw [show (nI 2).toInt = 2 from by decide +kernel, if_neg (by decide)]
        simp only [show ((2 : Int) - 0).toNat = 2 from rfl, List.getD_cons_zero, List.getD_cons_succ]
        simp (disch := omega) only [pw_lt, pw_cb, pw_cbx, pw_cbxr, pw_lit, pw_litL, pw_oi, pw_oim, pw_oi8, pw_m, pw_ldI, pw_ldL, pw_ldR, pw_stI, pw_stL, pw_nz, pw_ltI, pw_leI, pw_eqI, pw_eqm, pw_eqm2, pw_ltm, pw_mlt, pw_lem, pw_mle, pw_mm, pw_dec, pw_nar0, pw_nar1, nI_add, pw_sub, pw_mul, pw_and, pw_or, pw_andn, pw_shl1, pw_shl, pw_shr, pw_dv, nI_l, lN_i, Bool.false_eq_true, reduceCtorEq, if_false, if_true, ↓reduceIte, if_pos, if_neg, r_152_0, e1]
    · refine key (h.1 153 3) ?_ (fun h2 R2 f7 e1 => key2 (h.1 153 3) _ h2 e1 ?_)
      · unfold f_X11_count
        rw [show (nI 3).toInt = 3 from by decide +kernel, if_neg (by decide)]
        simp only [show ((3 : Int) - 0).toNat = 3 from rfl, List.getD_cons_zero, List.getD_cons_succ]
        simp (disch := omega) only [pw_lt, pw_cb, pw_cbx, pw_cbxr, pw_lit, pw_litL, pw_oi, pw_oim, pw_oi8, pw_m, pw_ldI, pw_ldL, pw_ldR, pw_stI, pw_stL, pw_nz, pw_ltI, pw_leI, pw_eqI, pw_eqm, pw_eqm2, pw_ltm, pw_mlt, pw_lem, pw_mle, pw_mm, pw_dec, pw_nar0, pw_nar1, nI_add, pw_sub, pw_mul, pw_and, pw_or, pw_andn, pw_shl1, pw_shl, pw_shr, pw_dv, nI_l, lN_i, Bool.false_eq_true, reduceCtorEq, if_false, if_true, ↓reduceIte, if_pos, if_neg, r_0_2, z3]
      · rw [show (nI 3).toInt = 3 from by decide +kernel, if_neg (by decide)]
        simp only [show ((3 : Int) - 0).toNat = 3 from rfl, List.getD_cons_zero, List.getD_cons_succ]
        simp (disch := omega) only [pw_lt, pw_cb, pw_cbx, pw_cbxr, pw_lit, pw_litL, pw_oi, pw_oim, pw_oi8, pw_m, pw_ldI, pw_ldL, pw_ldR, pw_stI, pw_stL, pw_nz, pw_ltI, pw_leI, pw_eqI, pw_eqm, pw_eqm2, pw_ltm, pw_mlt, pw_lem, pw_mle, pw_mm, pw_dec, pw_nar0, pw_nar1, nI_add, pw_sub, pw_mul, pw_and, pw_or, pw_andn, pw_shl1, pw_shl, pw_shr, pw_dv, nI_l, lN_i, Bool.false_eq_true, reduceCtorEq, if_false, if_true, ↓reduceIte, if_pos, if_neg, r_152_0, e1]
    · refine key (h.1 153 4) ?_ (fun h2 R2 f7 e1 => key2 (h.1 153 4) _ h2 e1 ?_)
      · unfold f_X11_count
        rw [show (nI 4).toInt = 4 from by decide +kernel, if_neg (by decide)]
        simp only [show ((4 : Int) - 0).toNat = 4 from rfl, List.getD_cons_zero, List.getD_cons_succ]
        simp (disch := omega) only [pw_lt, pw_cb, pw_cbx, pw_cbxr, pw_lit, pw_litL, pw_oi, pw_oim, pw_oi8, pw_m, pw_ldI, pw_ldL, pw_ldR, pw_stI, pw_stL, pw_nz, pw_ltI, pw_leI, pw_eqI, pw_eqm, pw_eqm2, pw_ltm, pw_mlt, pw_lem, pw_mle, pw_mm, pw_dec, pw_nar0, pw_nar1, nI_add, pw_sub, pw_mul, pw_and, pw_or, pw_andn, pw_shl1, pw_shl, pw_shr, pw_dv, nI_l, lN_i, Bool.false_eq_true, reduceCtorEq, if_false, if_true, ↓reduceIte, if_pos, if_neg, r_0_2, z4]
      · rw [show (nI 4).toInt = 4 from by decide +kernel, if_neg (by decide)]
        simp only [show ((4 : Int) - 0).toNat = 4 from rfl, List.getD_cons_zero, List.getD_cons_succ]
        simp (disch := omega) only [pw_lt, pw_cb, pw_cbx, pw_cbxr, pw_lit, pw_litL, pw_oi, pw_oim, pw_oi8, pw_m, pw_ldI, pw_ldL, pw_ldR, pw_stI, pw_stL, pw_nz, pw_ltI, pw_leI, pw_eqI, pw_eqm, pw_eqm2, pw_ltm, pw_mlt, pw_lem, pw_mle, pw_mm, pw_dec, pw_nar0, pw_nar1, nI_add, pw_sub, pw_mul, pw_and, pw_or, pw_andn, pw_shl1, pw_shl, pw_shr, pw_dv, nI_l, lN_i, Bool.false_eq_true, reduceCtorEq, if_false, if_true, ↓reduceIte, if_pos, if_neg, r_152_0, e1]
    · refine key (h.1 153 5) ?_ (fun h2 R2 f7 e1 => key2 (h.1 153 5) _ h2 e1 ?_)
      · unfold f_X11_count
        rw [show (nI 5).toInt = 5 from by decide +kernel, if_neg (by decide)]
        simp only [show ((5 : Int) - 0).toNat = 5 from rfl, List.getD_cons_zero, List.getD_cons_succ]
        simp (disch := omega) only [pw_lt, pw_cb, pw_cbx, pw_cbxr, pw_lit, pw_litL, pw_oi, pw_oim, pw_oi8, pw_m, pw_ldI, pw_ldL, pw_ldR, pw_stI, pw_stL, pw_nz, pw_ltI, pw_leI, pw_eqI, pw_eqm, pw_eqm2, pw_ltm, pw_mlt, pw_lem, pw_mle, pw_mm, pw_dec, pw_nar0, pw_nar1, nI_add, pw_sub, pw_mul, pw_and, pw_or, pw_andn, pw_shl1, pw_shl, pw_shr, pw_dv, nI_l, lN_i, Bool.false_eq_true, reduceCtorEq, if_false, if_true, ↓reduceIte, if_pos, if_neg, r_0_2, z5]
      · rw [show (nI 5).toInt = 5 from by decide +kernel, if_neg (by decide)]
        simp only [show ((5 : Int) - 0).toNat = 5 from rfl, List.getD_cons_zero, List.getD_cons_succ]
        simp (disch := omega) only [pw_lt, pw_cb, pw_cbx, pw_cbxr, pw_lit, pw_litL, pw_oi, pw_oim, pw_oi8, pw_m, pw_ldI, pw_ldL, pw_ldR, pw_stI, pw_stL, pw_nz, pw_ltI, pw_leI, pw_eqI, pw_eqm, pw_eqm2, pw_ltm, pw_mlt, pw_lem, pw_mle, pw_mm, pw_dec, pw_nar0, pw_nar1, nI_add, pw_sub, pw_mul, pw_and, pw_or, pw_andn, pw_shl1, pw_shl, pw_shr, pw_dv, nI_l, lN_i, Bool.false_eq_true, reduceCtorEq, if_false, if_true, ↓reduceIte, if_pos, if_neg, r_152_0, e1]
    · refine key (nI (pc (gv (h.1 153) 7))) ?_ (fun h2 R2 f7 e1 => key2 (nI (pc (gv (h.1 153) 7))) _ h2 e1 ?_)
      · unfold f_X11_count
        rw [show (nI 6).toInt = 6 from by decide +kernel, if_neg (by decide)]
        simp only [show ((6 : Int) - 0).toNat = 6 from rfl, List.getD_cons_zero, List.getD_cons_succ]
        simp (disch := omega) only [pw_lt, pw_cb, pw_cbx, pw_cbxr, pw_lit, pw_litL, pw_oi, pw_oim, pw_oi8, pw_m, pw_ldI, pw_ldL, pw_ldR, pw_stI, pw_stL, pw_nz, pw_ltI, pw_leI, pw_eqI, pw_eqm, pw_eqm2, pw_ltm, pw_mlt, pw_lem, pw_mle, pw_mm, pw_dec, pw_nar0, pw_nar1, nI_add, pw_sub, pw_mul, pw_and, pw_or, pw_andn, pw_shl1, pw_shl, pw_shr, pw_dv, nI_l, lN_i, Bool.false_eq_true, reduceCtorEq, if_false, if_true, ↓reduceIte, if_pos, if_neg, r_0_5, hop, e_bitCount]
      · rw [show (nI 6).toInt = 6 from by decide +kernel, if_neg (by decide)]
        simp only [show ((6 : Int) - 0).toNat = 6 from rfl, List.getD_cons_zero, List.getD_cons_succ]
        simp (disch := omega) only [pw_lt, pw_cb, pw_cbx, pw_cbxr, pw_lit, pw_litL, pw_oi, pw_oim, pw_oi8, pw_m, pw_ldI, pw_ldL, pw_ldR, pw_stI, pw_stL, pw_nz, pw_ltI, pw_leI, pw_eqI, pw_eqm, pw_eqm2, pw_ltm, pw_mlt, pw_lem, pw_mle, pw_mm, pw_dec, pw_nar0, pw_nar1, nI_add, pw_sub, pw_mul, pw_and, pw_or, pw_andn, pw_shl1, pw_shl, pw_shr, pw_dv, nI_l, lN_i, Bool.false_eq_true, reduceCtorEq, if_false, if_true, ↓reduceIte, if_pos, if_neg, r_152_0, e1, k7, e_size]
    · refine key (dueS (h.1 153) 6) ?_ (fun h2 R2 f7 e1 => key2 (dueS (h.1 153) 6) _ h2 e1 ?_)
      · unfold f_X11_count
        rw [show (nI 7).toInt = 7 from by decide +kernel, if_neg (by decide)]
        simp only [show ((7 : Int) - 0).toNat = 7 from rfl, List.getD_cons_zero, List.getD_cons_succ]
        simp (disch := omega) only [pw_lt, pw_cb, pw_cbx, pw_cbxr, pw_lit, pw_litL, pw_oi, pw_oim, pw_oi8, pw_m, pw_ldI, pw_ldL, pw_ldR, pw_stI, pw_stL, pw_nz, pw_ltI, pw_leI, pw_eqI, pw_eqm, pw_eqm2, pw_ltm, pw_mlt, pw_lem, pw_mle, pw_mm, pw_dec, pw_nar0, pw_nar1, nI_add, pw_sub, pw_mul, pw_and, pw_or, pw_andn, pw_shl1, pw_shl, pw_shr, pw_dv, nI_l, lN_i, Bool.false_eq_true, reduceCtorEq, if_false, if_true, ↓reduceIte, if_pos, if_neg, r_0_5, had]
      · rw [show (nI 7).toInt = 7 from by decide +kernel, if_neg (by decide)]
        simp only [show ((7 : Int) - 0).toNat = 7 from rfl, List.getD_cons_zero, List.getD_cons_succ]
    · refine key (h.1 153 6) ?_ (fun h2 R2 f7 e1 => key2 (h.1 153 6) _ h2 e1 ?_)
      · unfold f_X11_count
        rw [show (nI 8).toInt = 8 from by decide +kernel, if_neg (by decide)]
        simp only [show ((8 : Int) - 0).toNat = 8 from rfl, List.getD_cons_zero, List.getD_cons_succ]
        simp (disch := omega) only [pw_lt, pw_cb, pw_cbx, pw_cbxr, pw_lit, pw_litL, pw_oi, pw_oim, pw_oi8, pw_m, pw_ldI, pw_ldL, pw_ldR, pw_stI, pw_stL, pw_nz, pw_ltI, pw_leI, pw_eqI, pw_eqm, pw_eqm2, pw_ltm, pw_mlt, pw_lem, pw_mle, pw_mm, pw_dec, pw_nar0, pw_nar1, nI_add, pw_sub, pw_mul, pw_and, pw_or, pw_andn, pw_shl1, pw_shl, pw_shr, pw_dv, nI_l, lN_i, Bool.false_eq_true, reduceCtorEq, if_false, if_true, ↓reduceIte, if_pos, if_neg, r_0_5, zd]
      · rw [show (nI 8).toInt = 8 from by decide +kernel, if_neg (by decide)]
        simp only [show ((8 : Int) - 0).toNat = 8 from rfl, List.getD_cons_zero, List.getD_cons_succ]
        simp (disch := omega) only [pw_lt, pw_cb, pw_cbx, pw_cbxr, pw_lit, pw_litL, pw_oi, pw_oim, pw_oi8, pw_m, pw_ldI, pw_ldL, pw_ldR, pw_stI, pw_stL, pw_nz, pw_ltI, pw_leI, pw_eqI, pw_eqm, pw_eqm2, pw_ltm, pw_mlt, pw_lem, pw_mle, pw_mm, pw_dec, pw_nar0, pw_nar1, nI_add, pw_sub, pw_mul, pw_and, pw_or, pw_andn, pw_shl1, pw_shl, pw_shr, pw_dv, nI_l, lN_i, Bool.false_eq_true, reduceCtorEq, if_false, if_true, ↓reduceIte, if_pos, if_neg, r_152_0, e1]
    · refine key (nI n) ?_ (fun h2 R2 f7 e1 => key2 (nI n) _ h2 e1 ?_)
      · unfold f_X11_count
        rw [show (nI 9).toInt = 9 from by decide +kernel, if_neg (by decide)]
        simp only [show ((9 : Int) - 0).toNat = 9 from rfl, List.getD_cons_zero, List.getD_cons_succ]
        simp (disch := omega) only [pw_lt, pw_cb, pw_cbx, pw_cbxr, pw_lit, pw_litL, pw_oi, pw_oim, pw_oi8, pw_m, pw_ldI, pw_ldL, pw_ldR, pw_stI, pw_stL, pw_nz, pw_ltI, pw_leI, pw_eqI, pw_eqm, pw_eqm2, pw_ltm, pw_mlt, pw_lem, pw_mle, pw_mm, pw_dec, pw_nar0, pw_nar1, nI_add, pw_sub, pw_mul, pw_and, pw_or, pw_andn, pw_shl1, pw_shl, pw_shr, pw_dv, nI_l, lN_i, Bool.false_eq_true, reduceCtorEq, if_false, if_true, ↓reduceIte, if_pos, if_neg, t1]
      · rw [show (nI 9).toInt = 9 from by decide +kernel, if_neg (by decide)]
        simp only [show ((9 : Int) - 0).toNat = 9 from rfl, List.getD_cons_zero, List.getD_cons_succ]
        rw [f7]
  · have hc : a.toInt < 0 ∨ 9 < a.toInt := nin_toInt (n := 9) (by decide) q
    refine key mI ?_ (fun h2 R2 f7 e1 => key2 mI _ h2 e1 ?_)
    · unfold f_X11_count
      rw [if_pos hc]
      rfl
    · rw [if_pos hc]
      rfl

/-! ===== calls: together and such ===== -/
set_option maxRecDepth 16384 in
theorem c_checkOpen {h : PH} {k : Nat} (I : INV h) (hk : k < gv (h.1 153) 5) (ho : (gv (h.1 153) 7).testBit k = true) : f_X11_checkOpen 0 (nI k) h = some (.inl (), h) := by
  have hb := rk_b I.1.1
  unfold f_X11_checkOpen
  rw [c_checkWish I ⟨k, hk, rfl⟩]
  simp (disch := omega) only [pw_lt, pw_cb, pw_cbx, pw_cbxr, pw_lit, pw_litL, pw_oi, pw_oim, pw_oi8, pw_m, pw_ldI, pw_ldL, pw_ldR, pw_stI, pw_stL, pw_nz, pw_ltI, pw_leI, pw_eqI, pw_eqm, pw_eqm2, pw_ltm, pw_mlt, pw_lem, pw_mle, pw_mm, pw_dec, pw_nar0, pw_nar1, nI_add, pw_sub, pw_mul, pw_and, pw_or, pw_andn, pw_shl1, pw_shl, pw_shr, pw_dv, nI_l, lN_i, Bool.false_eq_true, reduceCtorEq, if_false, if_true, ↓reduceIte, if_pos, if_neg, r_0_5, I.op, pw_tb, ho]
set_option maxRecDepth 16384 in
theorem c_checkOpen1 {h : PH} {k : Nat} (I : INV h) (hk : k < gv (h.1 153) 5) (ho : (gv (h.1 153) 7).testBit k = false) : f_X11_checkOpen 0 (nI k) h = some (.inr 0, h) := by
  have hb := rk_b I.1.1
  unfold f_X11_checkOpen
  rw [c_checkWish I ⟨k, hk, rfl⟩]
  simp (disch := omega) only [pw_lt, pw_cb, pw_cbx, pw_cbxr, pw_lit, pw_litL, pw_oi, pw_oim, pw_oi8, pw_m, pw_ldI, pw_ldL, pw_ldR, pw_stI, pw_stL, pw_nz, pw_ltI, pw_leI, pw_eqI, pw_eqm, pw_eqm2, pw_ltm, pw_mlt, pw_lem, pw_mle, pw_mm, pw_dec, pw_nar0, pw_nar1, nI_add, pw_sub, pw_mul, pw_and, pw_or, pw_andn, pw_shl1, pw_shl, pw_shr, pw_dv, nI_l, lN_i, Bool.false_eq_true, reduceCtorEq, if_false, if_true, ↓reduceIte, if_pos, if_neg, r_0_5, I.op, pw_tb, ho]
set_option maxRecDepth 16384 in
theorem c_checkOpen2 {h : PH} {a : Int32} (I : INV h) (q : ¬ inN (gv (h.1 153) 5) a) : f_X11_checkOpen 0 a h = some (.inr 1, h) := by
  unfold f_X11_checkOpen
  rw [c_checkWish1 I q]
  simp (disch := omega) only [pw_lt, pw_cb, pw_cbx, pw_cbxr, pw_lit, pw_litL, pw_oi, pw_oim, pw_oi8, pw_m, pw_ldI, pw_ldL, pw_ldR, pw_stI, pw_stL, pw_nz, pw_ltI, pw_leI, pw_eqI, pw_eqm, pw_eqm2, pw_ltm, pw_mlt, pw_lem, pw_mle, pw_mm, pw_dec, pw_nar0, pw_nar1, nI_add, pw_sub, pw_mul, pw_and, pw_or, pw_andn, pw_shl1, pw_shl, pw_shr, pw_dv, nI_l, lN_i, Bool.false_eq_true, reduceCtorEq, if_false, if_true, ↓reduceIte, if_pos, if_neg]
set_option maxRecDepth 16384 in
theorem e_isWishQ {K T : Nat → Int32} {h : PH} {k : Nat} (R : RX K T h) (hk : k < gv K 5) : f_X12_isWish 152 (nI k) h = some (bI true, h) := by
  have hb := rk_b R.1
  have := e_isWishN (h := h) (i := k) (by rw [R.2.1]; exact R.1) (by omega)
  rw [R.2.1, decide_eq_true hk] at this
  exact this
set_option maxRecDepth 16384 in
theorem e_isWishQ1 {K T : Nat → Int32} {h : PH} {a : Int32} (R : RX K T h) (q : ¬ inN (gv K 5) a) : f_X12_isWish 152 a h = some (bI false, h) := by
  have := e_isWish (h := h) (i := a) (by rw [R.2.1]; exact R.1)
  rw [R.2.1] at this
  rw [this]
  refine congrArg (fun z => some (bI z, h)) (decide_eq_false ?_)
  exact q
set_option maxRecDepth 16384 in
theorem e_isOpenQ {K T : Nat → Int32} {h : PH} {k : Nat} (R : RX K T h) (hk : k < 32) : f_X12_isOpen 152 (nI k) h = some (bI ((gv K 7).testBit k), h) := by
  have := e_isOpen (h := h) (k := k) (by rw [R.2.1]; exact R.1) hk
  rw [R.2.1] at this
  exact this
set_option maxRecDepth 16384 in
theorem e_openFault {K T : Nat → Int32} {h : PH} {k : Nat} (R : RX K T h) (hk : k < gv K 5) : f_X12_openFault 152 (nI k) h = some (nI (if (gv K 7).testBit k then 0 else 2), h) := by
  have hb := rk_b R.1
  unfold f_X12_openFault
  rw [e_isWishQ R hk]
  simp (disch := omega) only [pw_lt, pw_cb, pw_cbx, pw_cbxr, pw_lit, pw_litL, pw_oi, pw_oim, pw_oi8, pw_m, pw_ldI, pw_ldL, pw_ldR, pw_stI, pw_stL, pw_nz, pw_ltI, pw_leI, pw_eqI, pw_eqm, pw_eqm2, pw_ltm, pw_mlt, pw_lem, pw_mle, pw_mm, pw_dec, pw_nar0, pw_nar1, nI_add, pw_sub, pw_mul, pw_and, pw_or, pw_andn, pw_shl1, pw_shl, pw_shr, pw_dv, nI_l, lN_i, Bool.false_eq_true, reduceCtorEq, if_false, if_true, ↓reduceIte, if_pos, if_neg, bI_0', e_isOpenQ R]
  rcases tf ((gv K 7).testBit k) with ho | ho
  · simp (disch := omega) only [pw_lt, pw_cb, pw_cbx, pw_cbxr, pw_lit, pw_litL, pw_oi, pw_oim, pw_oi8, pw_m, pw_ldI, pw_ldL, pw_ldR, pw_stI, pw_stL, pw_nz, pw_ltI, pw_leI, pw_eqI, pw_eqm, pw_eqm2, pw_ltm, pw_mlt, pw_lem, pw_mle, pw_mm, pw_dec, pw_nar0, pw_nar1, nI_add, pw_sub, pw_mul, pw_and, pw_or, pw_andn, pw_shl1, pw_shl, pw_shr, pw_dv, nI_l, lN_i, Bool.false_eq_true, reduceCtorEq, if_false, if_true, ↓reduceIte, if_pos, if_neg, ho]
  · simp (disch := omega) only [pw_lt, pw_cb, pw_cbx, pw_cbxr, pw_lit, pw_litL, pw_oi, pw_oim, pw_oi8, pw_m, pw_ldI, pw_ldL, pw_ldR, pw_stI, pw_stL, pw_nz, pw_ltI, pw_leI, pw_eqI, pw_eqm, pw_eqm2, pw_ltm, pw_mlt, pw_lem, pw_mle, pw_mm, pw_dec, pw_nar0, pw_nar1, nI_add, pw_sub, pw_mul, pw_and, pw_or, pw_andn, pw_shl1, pw_shl, pw_shr, pw_dv, nI_l, lN_i, Bool.false_eq_true, reduceCtorEq, if_false, if_true, ↓reduceIte, if_pos, if_neg, ho]
set_option maxRecDepth 16384 in
theorem e_openFault1 {K T : Nat → Int32} {h : PH} {a : Int32} (R : RX K T h) (q : ¬ inN (gv K 5) a) : f_X12_openFault 152 a h = some (nI 1, h) := by
  unfold f_X12_openFault
  rw [e_isWishQ1 R q]
  simp (disch := omega) only [pw_lt, pw_cb, pw_cbx, pw_cbxr, pw_lit, pw_litL, pw_oi, pw_oim, pw_oi8, pw_m, pw_ldI, pw_ldL, pw_ldR, pw_stI, pw_stL, pw_nz, pw_ltI, pw_leI, pw_eqI, pw_eqm, pw_eqm2, pw_ltm, pw_mlt, pw_lem, pw_mle, pw_mm, pw_dec, pw_nar0, pw_nar1, nI_add, pw_sub, pw_mul, pw_and, pw_or, pw_andn, pw_shl1, pw_shl, pw_shr, pw_dv, nI_l, lN_i, Bool.false_eq_true, reduceCtorEq, if_false, if_true, ↓reduceIte, if_pos, if_neg, bI_0']
set_option maxRecDepth 16384 in
theorem agr_l {β : Type} {hs : List (Nat × Int32)} {r : β} {h : PH} (e : h.1 152 5 = nI 0) : agr hs (.inl r) (h.1 152 5) r := ⟨e, rfl⟩
set_option maxRecDepth 16384 in
theorem call_quarrel {h : PH} {a : Int32} (I : INV h) : PC hs_L_quarrel (f_X11_quarrel 0 a) (f_X12_quarrel 152 a) h := by
  by_cases q : isSet (h.1 153) a
  · obtain ⟨s, rfl, q1, q2⟩ := id q
    have hsl : s < 2 ^ gv (h.1 153) 5 := Nat.lt_of_le_of_lt (sub_le q1) (open_lt I.1.1)
    refine PC_q (.inl (oI (bestP (quP (h.1 153) (h.1 159) s) (s + 1)))) ?_ (fun h2 R2 I2 k2 => ?_)
    · unfold f_X11_quarrel
      rw [c_checkSet I q]
      simp (disch := omega) only [pw_lt, pw_cb, pw_cbx, pw_cbxr, pw_lit, pw_litL, pw_oi, pw_oim, pw_oi8, pw_m, pw_ldI, pw_ldL, pw_ldR, pw_stI, pw_stL, pw_nz, pw_ltI, pw_leI, pw_eqI, pw_eqm, pw_eqm2, pw_ltm, pw_mlt, pw_lem, pw_mle, pw_mm, pw_dec, pw_nar0, pw_nar1, nI_add, pw_sub, pw_mul, pw_and, pw_or, pw_andn, pw_shl1, pw_shl, pw_shr, pw_dv, nI_l, lN_i, Bool.false_eq_true, reduceCtorEq, if_false, if_true, ↓reduceIte, if_pos, if_neg, r_0_7]
      refine ok_cb (c_set I) ?_
      rintro r h1 ⟨cq, R⟩
      simp (disch := omega) only [pw_lt, pw_cb, pw_cbx, pw_cbxr, pw_lit, pw_litL, pw_oi, pw_oim, pw_oi8, pw_m, pw_ldI, pw_ldL, pw_ldR, pw_stI, pw_stL, pw_nz, pw_ltI, pw_leI, pw_eqI, pw_eqm, pw_eqm2, pw_ltm, pw_mlt, pw_lem, pw_mle, pw_mm, pw_dec, pw_nar0, pw_nar1, nI_add, pw_sub, pw_mul, pw_and, pw_or, pw_andn, pw_shl1, pw_shl, pw_shr, pw_dv, nI_l, lN_i, Bool.false_eq_true, reduceCtorEq, if_false, if_true, ↓reduceIte, if_pos, if_neg, c_smallestQuarrel R.1.1 R.2.1 hsl]
      exact ok_some ⟨rfl, cq⟩
    · unfold f_X12_quarrel
      simp only [pw_lt, pw_lit, pw_m]
      have R3 := RX_pI (j := 5) (v := nI 0) R2
      rw [e_asked R3 q]
      simp (disch := omega) only [pw_lt, pw_cb, pw_cbx, pw_cbxr, pw_lit, pw_litL, pw_oi, pw_oim, pw_oi8, pw_m, pw_ldI, pw_ldL, pw_ldR, pw_stI, pw_stL, pw_nz, pw_ltI, pw_leI, pw_eqI, pw_eqm, pw_eqm2, pw_ltm, pw_mlt, pw_lem, pw_mle, pw_mm, pw_dec, pw_nar0, pw_nar1, nI_add, pw_sub, pw_mul, pw_and, pw_or, pw_andn, pw_shl1, pw_shl, pw_shr, pw_dv, nI_l, lN_i, Bool.false_eq_true, reduceCtorEq, if_false, if_true, ↓reduceIte, if_pos, if_neg, bI_0']
      refine ok_cb (e_lays R3) ?_
      rintro r h3 ⟨e3, G⟩
      rw [e_quarrelLp G q2]
      exact ok_some ⟨⟨by rw [lays_th e3 (by decide), th_pI], rfl⟩, RQ_lays RQ_th e3⟩
  · refine PC_q (.inr 0) ?_ (fun h2 R2 I2 k2 => ?_)
    · unfold f_X11_quarrel
      rw [c_checkSet1 I q]
      simp (disch := omega) only [pw_lt, pw_cb, pw_cbx, pw_cbxr, pw_lit, pw_litL, pw_oi, pw_oim, pw_oi8, pw_m, pw_ldI, pw_ldL, pw_ldR, pw_stI, pw_stL, pw_nz, pw_ltI, pw_leI, pw_eqI, pw_eqm, pw_eqm2, pw_ltm, pw_mlt, pw_lem, pw_mle, pw_mm, pw_dec, pw_nar0, pw_nar1, nI_add, pw_sub, pw_mul, pw_and, pw_or, pw_andn, pw_shl1, pw_shl, pw_shr, pw_dv, nI_l, lN_i, Bool.false_eq_true, reduceCtorEq, if_false, if_true, ↓reduceIte, if_pos, if_neg]
      exact ok_some ⟨rfl, CQ_rfl I⟩
    · unfold f_X12_quarrel
      simp only [pw_lt, pw_lit, pw_m]
      rw [e_asked1 (RX_pI R2) q]
      simp (disch := omega) only [pw_lt, pw_cb, pw_cbx, pw_cbxr, pw_lit, pw_litL, pw_oi, pw_oim, pw_oi8, pw_m, pw_ldI, pw_ldL, pw_ldR, pw_stI, pw_stL, pw_nz, pw_ltI, pw_leI, pw_eqI, pw_eqm, pw_eqm2, pw_ltm, pw_mlt, pw_lem, pw_mle, pw_mm, pw_dec, pw_nar0, pw_nar1, nI_add, pw_sub, pw_mul, pw_and, pw_or, pw_andn, pw_shl1, pw_shl, pw_shr, pw_dv, nI_l, lN_i, Bool.false_eq_true, reduceCtorEq, if_false, if_true, ↓reduceIte, if_pos, if_neg, bI_0', e_fails]
      exact ok_some ⟨⟨(0, 1), rfl, by decide, th_pI⟩, r_fails⟩
set_option maxRecDepth 16384 in
theorem call_foes {h : PH} {a : Int32} (I : INV h) : PC hs_L_foes (f_X11_foes 0 a) (f_X12_foes 152 a) h := by
  have hb := rk_b I.1.1
  by_cases q : inN (gv (h.1 153) 5) a
  · obtain ⟨k, hk, rfl⟩ := q
    rcases tf ((gv (h.1 153) 7).testBit k) with ho | ho
    · refine PC_q (.inr 0) ?_ (fun h2 R2 I2 k2 => ?_)
      · unfold f_X11_foes
        rw [c_checkOpen1 I hk ho]
        simp (disch := omega) only [pw_lt, pw_cb, pw_cbx, pw_cbxr, pw_lit, pw_litL, pw_oi, pw_oim, pw_oi8, pw_m, pw_ldI, pw_ldL, pw_ldR, pw_stI, pw_stL, pw_nz, pw_ltI, pw_leI, pw_eqI, pw_eqm, pw_eqm2, pw_ltm, pw_mlt, pw_lem, pw_mle, pw_mm, pw_dec, pw_nar0, pw_nar1, nI_add, pw_sub, pw_mul, pw_and, pw_or, pw_andn, pw_shl1, pw_shl, pw_shr, pw_dv, nI_l, lN_i, Bool.false_eq_true, reduceCtorEq, if_false, if_true, ↓reduceIte, if_pos, if_neg]
        exact ok_some ⟨rfl, CQ_rfl I⟩
      · unfold f_X12_foes
        rw [e_openFault R2 hk, ho]
        simp (disch := omega) only [pw_lt, pw_cb, pw_cbx, pw_cbxr, pw_lit, pw_litL, pw_oi, pw_oim, pw_oi8, pw_m, pw_ldI, pw_ldL, pw_ldR, pw_stI, pw_stL, pw_nz, pw_ltI, pw_leI, pw_eqI, pw_eqm, pw_eqm2, pw_ltm, pw_mlt, pw_lem, pw_mle, pw_mm, pw_dec, pw_nar0, pw_nar1, nI_add, pw_sub, pw_mul, pw_and, pw_or, pw_andn, pw_shl1, pw_shl, pw_shr, pw_dv, nI_l, lN_i, Bool.false_eq_true, reduceCtorEq, if_false, if_true, ↓reduceIte, if_pos, if_neg, th_pI]
        exact ok_some ⟨⟨(0, 2), rfl, by decide, th_pI⟩, RQ_th⟩
    · refine PC_q (.inl (nI (foS (h.1 153) (h.1 159) k))) ?_ (fun h2 R2 I2 k2 => ?_)
      · unfold f_X11_foes
        rw [c_checkOpen I hk ho]
        simp (disch := omega) only [pw_lt, pw_cb, pw_cbx, pw_cbxr, pw_lit, pw_litL, pw_oi, pw_oim, pw_oi8, pw_m, pw_ldI, pw_ldL, pw_ldR, pw_stI, pw_stL, pw_nz, pw_ltI, pw_leI, pw_eqI, pw_eqm, pw_eqm2, pw_ltm, pw_mlt, pw_lem, pw_mle, pw_mm, pw_dec, pw_nar0, pw_nar1, nI_add, pw_sub, pw_mul, pw_and, pw_or, pw_andn, pw_shl1, pw_shl, pw_shr, pw_dv, nI_l, lN_i, Bool.false_eq_true, reduceCtorEq, if_false, if_true, ↓reduceIte, if_pos, if_neg, r_0_7]
        refine ok_cb (c_set I) ?_
        rintro r h1 ⟨cq, R⟩
        simp (disch := omega) only [pw_lt, pw_cb, pw_cbx, pw_cbxr, pw_lit, pw_litL, pw_oi, pw_oim, pw_oi8, pw_m, pw_ldI, pw_ldL, pw_ldR, pw_stI, pw_stL, pw_nz, pw_ltI, pw_leI, pw_eqI, pw_eqm, pw_eqm2, pw_ltm, pw_mlt, pw_lem, pw_mle, pw_mm, pw_dec, pw_nar0, pw_nar1, nI_add, pw_sub, pw_mul, pw_and, pw_or, pw_andn, pw_shl1, pw_shl, pw_shr, pw_dv, nI_l, lN_i, Bool.false_eq_true, reduceCtorEq, if_false, if_true, ↓reduceIte, if_pos, if_neg, c_foesOf R hk]
        exact ok_some ⟨rfl, cq⟩
      · unfold f_X12_foes
        rw [e_openFault R2 hk, ho]
        simp (disch := omega) only [pw_lt, pw_cb, pw_cbx, pw_cbxr, pw_lit, pw_litL, pw_oi, pw_oim, pw_oi8, pw_m, pw_ldI, pw_ldL, pw_ldR, pw_stI, pw_stL, pw_nz, pw_ltI, pw_leI, pw_eqI, pw_eqm, pw_eqm2, pw_ltm, pw_mlt, pw_lem, pw_mle, pw_mm, pw_dec, pw_nar0, pw_nar1, nI_add, pw_sub, pw_mul, pw_and, pw_or, pw_andn, pw_shl1, pw_shl, pw_shr, pw_dv, nI_l, lN_i, Bool.false_eq_true, reduceCtorEq, if_false, if_true, ↓reduceIte, if_pos, if_neg, th_pI, Nat.le_refl]
        refine ok_cb (e_lays (RX_pI R2)) ?_
        rintro r h3 ⟨e3, G⟩
        exact e_foes_lp G hk (ok_some ⟨⟨by rw [lays_th e3 (by decide), th_pI], rfl⟩, RQ_lays RQ_th e3⟩)
  · refine PC_q (.inr 1) ?_ (fun h2 R2 I2 k2 => ?_)
    · unfold f_X11_foes
      rw [c_checkOpen2 I q]
      simp (disch := omega) only [pw_lt, pw_cb, pw_cbx, pw_cbxr, pw_lit, pw_litL, pw_oi, pw_oim, pw_oi8, pw_m, pw_ldI, pw_ldL, pw_ldR, pw_stI, pw_stL, pw_nz, pw_ltI, pw_leI, pw_eqI, pw_eqm, pw_eqm2, pw_ltm, pw_mlt, pw_lem, pw_mle, pw_mm, pw_dec, pw_nar0, pw_nar1, nI_add, pw_sub, pw_mul, pw_and, pw_or, pw_andn, pw_shl1, pw_shl, pw_shr, pw_dv, nI_l, lN_i, Bool.false_eq_true, reduceCtorEq, if_false, if_true, ↓reduceIte, if_pos, if_neg]
      exact ok_some ⟨rfl, CQ_rfl I⟩
    · unfold f_X12_foes
      rw [e_openFault1 R2 q]
      simp (disch := omega) only [pw_lt, pw_cb, pw_cbx, pw_cbxr, pw_lit, pw_litL, pw_oi, pw_oim, pw_oi8, pw_m, pw_ldI, pw_ldL, pw_ldR, pw_stI, pw_stL, pw_nz, pw_ltI, pw_leI, pw_eqI, pw_eqm, pw_eqm2, pw_ltm, pw_mlt, pw_lem, pw_mle, pw_mm, pw_dec, pw_nar0, pw_nar1, nI_add, pw_sub, pw_mul, pw_and, pw_or, pw_andn, pw_shl1, pw_shl, pw_shr, pw_dv, nI_l, lN_i, Bool.false_eq_true, reduceCtorEq, if_false, if_true, ↓reduceIte, if_pos, if_neg, th_pI]
      exact ok_some ⟨⟨(1, 1), rfl, by decide, th_pI⟩, RQ_th⟩
set_option maxRecDepth 16384 in
theorem call_follows {h : PH} {a : Int32} (I : INV h) : PC hs_L_follows (f_X11_follows 0 a) (f_X12_follows 152 a) h := by
  have hb := rk_b I.1.1
  by_cases q : inN (gv (h.1 153) 5) a
  · obtain ⟨k, hk, rfl⟩ := q
    rcases tf ((gv (h.1 153) 7).testBit k) with ho | ho
    · refine PC_q (.inr 0) ?_ (fun h2 R2 I2 k2 => ?_)
      · unfold f_X11_follows
        rw [c_checkOpen1 I hk ho]
        simp (disch := omega) only [pw_lt, pw_cb, pw_cbx, pw_cbxr, pw_lit, pw_litL, pw_oi, pw_oim, pw_oi8, pw_m, pw_ldI, pw_ldL, pw_ldR, pw_stI, pw_stL, pw_nz, pw_ltI, pw_leI, pw_eqI, pw_eqm, pw_eqm2, pw_ltm, pw_mlt, pw_lem, pw_mle, pw_mm, pw_dec, pw_nar0, pw_nar1, nI_add, pw_sub, pw_mul, pw_and, pw_or, pw_andn, pw_shl1, pw_shl, pw_shr, pw_dv, nI_l, lN_i, Bool.false_eq_true, reduceCtorEq, if_false, if_true, ↓reduceIte, if_pos, if_neg]
        exact ok_some ⟨rfl, CQ_rfl I⟩
      · unfold f_X12_follows
        rw [e_openFault R2 hk, ho]
        simp (disch := omega) only [pw_lt, pw_cb, pw_cbx, pw_cbxr, pw_lit, pw_litL, pw_oi, pw_oim, pw_oi8, pw_m, pw_ldI, pw_ldL, pw_ldR, pw_stI, pw_stL, pw_nz, pw_ltI, pw_leI, pw_eqI, pw_eqm, pw_eqm2, pw_ltm, pw_mlt, pw_lem, pw_mle, pw_mm, pw_dec, pw_nar0, pw_nar1, nI_add, pw_sub, pw_mul, pw_and, pw_or, pw_andn, pw_shl1, pw_shl, pw_shr, pw_dv, nI_l, lN_i, Bool.false_eq_true, reduceCtorEq, if_false, if_true, ↓reduceIte, if_pos, if_neg, th_pI]
        exact ok_some ⟨⟨(0, 2), rfl, by decide, th_pI⟩, RQ_th⟩
    · refine PC_q (.inl (nI (fwS (h.1 153) (h.1 159) k))) ?_ (fun h2 R2 I2 k2 => ?_)
      · unfold f_X11_follows
        rw [c_checkOpen I hk ho]
        simp (disch := omega) only [pw_lt, pw_cb, pw_cbx, pw_cbxr, pw_lit, pw_litL, pw_oi, pw_oim, pw_oi8, pw_m, pw_ldI, pw_ldL, pw_ldR, pw_stI, pw_stL, pw_nz, pw_ltI, pw_leI, pw_eqI, pw_eqm, pw_eqm2, pw_ltm, pw_mlt, pw_lem, pw_mle, pw_mm, pw_dec, pw_nar0, pw_nar1, nI_add, pw_sub, pw_mul, pw_and, pw_or, pw_andn, pw_shl1, pw_shl, pw_shr, pw_dv, nI_l, lN_i, Bool.false_eq_true, reduceCtorEq, if_false, if_true, ↓reduceIte, if_pos, if_neg, r_0_7]
        refine ok_cb (c_set I) ?_
        rintro r h1 ⟨cq, R⟩
        refine ok_cb (c_followersOf R hk) ?_
        rintro r2 h3 ⟨rfl, e3, R3⟩
        have F3 : FC (h1.1 153) (h1.1 159) h3 := by rw [cq.k, cq.t]; exact R3.1
        exact ok_some ⟨rfl, CQ_trans cq (CQ_fc cq.2 e3 F3)⟩
      · unfold f_X12_follows
        rw [e_openFault R2 hk, ho]
        simp (disch := omega) only [pw_lt, pw_cb, pw_cbx, pw_cbxr, pw_lit, pw_litL, pw_oi, pw_oim, pw_oi8, pw_m, pw_ldI, pw_ldL, pw_ldR, pw_stI, pw_stL, pw_nz, pw_ltI, pw_leI, pw_eqI, pw_eqm, pw_eqm2, pw_ltm, pw_mlt, pw_lem, pw_mle, pw_mm, pw_dec, pw_nar0, pw_nar1, nI_add, pw_sub, pw_mul, pw_and, pw_or, pw_andn, pw_shl1, pw_shl, pw_shr, pw_dv, nI_l, lN_i, Bool.false_eq_true, reduceCtorEq, if_false, if_true, ↓reduceIte, if_pos, if_neg, th_pI, Nat.le_refl]
        refine ok_cb (e_lays (RX_pI R2)) ?_
        rintro r h3 ⟨e3, G⟩
        have k7 : h3.1 153 7 = nI (gv (h.1 153) 7) := by rw [G.1.2.1]; exact (rk_e I.1.1).2.2.2.2.2.2.2
        simp (disch := omega) only [pw_lt, pw_cb, pw_cbx, pw_cbxr, pw_lit, pw_litL, pw_oi, pw_oim, pw_oi8, pw_m, pw_ldI, pw_ldL, pw_ldR, pw_stI, pw_stL, pw_nz, pw_ltI, pw_leI, pw_eqI, pw_eqm, pw_eqm2, pw_ltm, pw_mlt, pw_lem, pw_mle, pw_mm, pw_dec, pw_nar0, pw_nar1, nI_add, pw_sub, pw_mul, pw_and, pw_or, pw_andn, pw_shl1, pw_shl, pw_shr, pw_dv, nI_l, lN_i, Bool.false_eq_true, reduceCtorEq, if_false, if_true, ↓reduceIte, if_pos, if_neg, r_152_0, k7]
        rw [e_follows_lp G (by omega)]
        exact ok_some ⟨⟨by rw [lays_th e3 (by decide), th_pI], rfl⟩, RQ_lays RQ_th e3⟩
  · refine PC_q (.inr 1) ?_ (fun h2 R2 I2 k2 => ?_)
    · unfold f_X11_follows
      rw [c_checkOpen2 I q]
      simp (disch := omega) only [pw_lt, pw_cb, pw_cbx, pw_cbxr, pw_lit, pw_litL, pw_oi, pw_oim, pw_oi8, pw_m, pw_ldI, pw_ldL, pw_ldR, pw_stI, pw_stL, pw_nz, pw_ltI, pw_leI, pw_eqI, pw_eqm, pw_eqm2, pw_ltm, pw_mlt, pw_lem, pw_mle, pw_mm, pw_dec, pw_nar0, pw_nar1, nI_add, pw_sub, pw_mul, pw_and, pw_or, pw_andn, pw_shl1, pw_shl, pw_shr, pw_dv, nI_l, lN_i, Bool.false_eq_true, reduceCtorEq, if_false, if_true, ↓reduceIte, if_pos, if_neg]
      exact ok_some ⟨rfl, CQ_rfl I⟩
    · unfold f_X12_follows
      rw [e_openFault1 R2 q]
      simp (disch := omega) only [pw_lt, pw_cb, pw_cbx, pw_cbxr, pw_lit, pw_litL, pw_oi, pw_oim, pw_oi8, pw_m, pw_ldI, pw_ldL, pw_ldR, pw_stI, pw_stL, pw_nz, pw_ltI, pw_leI, pw_eqI, pw_eqm, pw_eqm2, pw_ltm, pw_mlt, pw_lem, pw_mle, pw_mm, pw_dec, pw_nar0, pw_nar1, nI_add, pw_sub, pw_mul, pw_and, pw_or, pw_andn, pw_shl1, pw_shl, pw_shr, pw_dv, nI_l, lN_i, Bool.false_eq_true, reduceCtorEq, if_false, if_true, ↓reduceIte, if_pos, if_neg, th_pI]
      exact ok_some ⟨⟨(1, 1), rfl, by decide, th_pI⟩, RQ_th⟩
set_option maxRecDepth 16384 in
theorem giv_lt {K T : Nat → Int32} (H : RK K) {i b : Nat} (h : bestP (giP K T (giU K i)) (giU K i + 1) = some b) : b < 4096 := by
  have hb := rk_b H
  have h2 := giU_lt (K := K) (i := i)
  have := best_lt (by omega) h
  omega
def heV (K T : Nat → Int32) (k m : Nat) : Int32 := match bestP (giP K T (giU K k)) (giU K k + 1) with
  | none => mI
  | some b => nI (if m = 1 then b else pc b)
set_option maxRecDepth 16384 in
theorem r_hearts {K T : Nat → Int32} {h : PH} {k : Nat} {w : Int32} (R : RX K T h) (hk : k < gv K 5) (ho : (gv K 7).testBit k = true) : (∀ m, m < 2 → w = nI m → ok (f_X12_hearts 152 (nI k) w h) (fun b h3 => agr hs_L_hearts (.inl (heV K T k m)) (h3.1 152 5) b ∧ RQ h h3)) ∧ (¬ inN 2 w → ok (f_X12_hearts 152 (nI k) w h) (fun b h3 => agr hs_L_hearts (.inr 0) (h3.1 152 5) b ∧ RQ h h3)) := by
  have hb := rk_b R.1
  constructor
  · rintro m hm rfl
    have hew : ∀ h3 : PH, f_X12_within (nI m).toInt64 (lN 0) (lN 1) h3 = some (bI true, h3) := fun h3 => e_withinI (by decide) ⟨m, hm, rfl⟩
    unfold f_X12_hearts
    rw [e_openFault R hk, ho]
    simp only [pw_cb, if_true]
    refine ok_lt (ok_join (fun h4 => h4 = pI h 152 5 (nI 0)) ?_ (fun j hj => ?_))
    · rintro h4 rfl
      simp only [pw_lit, th_pI, Int32.le_refl, if_true]
      refine ok_cb (e_lays (RX_pI R)) ?_
      rintro r h3 ⟨e3, G⟩
      have hg := e_heartsOf (i := k) G (by omega)
      rw [hg]
      have hv : h3.1 152 5 = nI 0 := by rw [lays_th e3 (by decide), th_pI]
      have hq : RQ h h3 := RQ_lays RQ_th e3
      unfold heV
      cases hbs : bestP (giP K T (giU K k)) (giU K k + 1) with
      | none =>
        simp (disch := omega) only [pw_lt, pw_cb, pw_cbx, pw_cbxr, pw_lit, pw_litL, pw_oi, pw_oim, pw_oi8, pw_m, pw_ldI, pw_ldL, pw_ldR, pw_stI, pw_stL, pw_nz, pw_ltI, pw_leI, pw_eqI, pw_eqm, pw_eqm2, pw_ltm, pw_mlt, pw_lem, pw_mle, pw_mm, pw_dec, pw_nar0, pw_nar1, nI_add, pw_sub, pw_mul, pw_and, pw_or, pw_andn, pw_shl1, pw_shl, pw_shr, pw_dv, nI_l, lN_i, Bool.false_eq_true, reduceCtorEq, if_false, if_true, ↓reduceIte, if_pos, if_neg, oI]
        exact ok_some ⟨⟨hv, rfl⟩, hq⟩
      | some b =>
        have hbl := giv_lt R.1 hbs
        by_cases hm1 : m = 1
        · subst hm1
          simp (disch := omega) only [pw_lt, pw_cb, pw_cbx, pw_cbxr, pw_lit, pw_litL, pw_oi, pw_oim, pw_oi8, pw_m, pw_ldI, pw_ldL, pw_ldR, pw_stI, pw_stL, pw_nz, pw_ltI, pw_leI, pw_eqI, pw_eqm, pw_eqm2, pw_ltm, pw_mlt, pw_lem, pw_mle, pw_mm, pw_dec, pw_nar0, pw_nar1, nI_add, pw_sub, pw_mul, pw_and, pw_or, pw_andn, pw_shl1, pw_shl, pw_shr, pw_dv, nI_l, lN_i, Bool.false_eq_true, reduceCtorEq, if_false, if_true, ↓reduceIte, if_pos, if_neg, oI]
          exact ok_some ⟨⟨hv, rfl⟩, hq⟩
        · simp (disch := omega) only [pw_lt, pw_cb, pw_cbx, pw_cbxr, pw_lit, pw_litL, pw_oi, pw_oim, pw_oi8, pw_m, pw_ldI, pw_ldL, pw_ldR, pw_stI, pw_stL, pw_nz, pw_ltI, pw_leI, pw_eqI, pw_eqm, pw_eqm2, pw_ltm, pw_mlt, pw_lem, pw_mle, pw_mm, pw_dec, pw_nar0, pw_nar1, nI_add, pw_sub, pw_mul, pw_and, pw_or, pw_andn, pw_shl1, pw_shl, pw_shr, pw_dv, nI_l, lN_i, Bool.false_eq_true, reduceCtorEq, if_false, if_true, ↓reduceIte, if_pos, if_neg, oI, hm1, e_size]
          exact ok_some ⟨⟨hv, rfl⟩, hq⟩
    · simp only [pw_lit, th_pI, if_true, pw_litL, hew, pw_cb, bI_0', Bool.true_eq_false, if_false]
      exact hj _ rfl
  · intro qw
    have hew : ∀ h3 : PH, f_X12_within w.toInt64 (lN 0) (lN 1) h3 = some (bI false, h3) := fun h3 => e_withinI1 (by decide) qw
    unfold f_X12_hearts
    rw [e_openFault R hk, ho]
    simp only [pw_cb, if_true]
    refine ok_lt (ok_join (fun h4 => h4 = pI (pI h 152 5 (nI 0)) 152 5 (nI 2)) ?_ (fun j hj => ?_))
    · rintro h4 rfl
      simp (disch := omega) only [pw_lt, pw_cb, pw_cbx, pw_cbxr, pw_lit, pw_litL, pw_oi, pw_oim, pw_oi8, pw_m, pw_ldI, pw_ldL, pw_ldR, pw_stI, pw_stL, pw_nz, pw_ltI, pw_leI, pw_eqI, pw_eqm, pw_eqm2, pw_ltm, pw_mlt, pw_lem, pw_mle, pw_mm, pw_dec, pw_nar0, pw_nar1, nI_add, pw_sub, pw_mul, pw_and, pw_or, pw_andn, pw_shl1, pw_shl, pw_shr, pw_dv, nI_l, lN_i, Bool.false_eq_true, reduceCtorEq, if_false, if_true, ↓reduceIte, if_pos, if_neg, th_pI]
      exact ok_some ⟨⟨(0, 2), rfl, by decide, th_pI⟩, RQ_trans RQ_th RQ_th⟩
    · simp only [pw_lit, th_pI, if_true, pw_litL, hew, pw_cb, bI_0', pw_lt]
      exact hj _ rfl
set_option maxRecDepth 16384 in
theorem k_hearts {h : PH} {k : Nat} {w : Int32} (I : INV h) (hk : k < gv (h.1 153) 5) (ho : (gv (h.1 153) 7).testBit k = true) : (∀ m, m < 2 → w = nI m → ok (f_X11_hearts 0 (nI k) w h) (fun y h1 => y = .inl (heV (h.1 153) (h.1 159) k m) ∧ CQ h h1)) ∧ (¬ inN 2 w → ok (f_X11_hearts 0 (nI k) w h) (fun y h1 => y = .inr 0 ∧ CQ h h1)) := by
  have hb := rk_b I.1.1
  constructor
  · rintro m hm rfl
    have hcw := c_checkWhat (h := h) (n := 1) (by decide) ⟨m, hm, rfl⟩
    unfold f_X11_hearts
    rw [c_checkOpen I hk ho]
    simp only [pw_cbx, pw_lit, hcw, r_0_7]
    refine ok_cb (c_set I) ?_
    rintro r h1 ⟨cq, R⟩
    have hg := c_givenUpFor R.1 R.2.1 R.2.2.1 hk ho
    rw [hg]
    unfold heV
    cases hbs : bestP (giP (h.1 153) (h.1 159) (giU (h.1 153) k)) (giU (h.1 153) k + 1) with
    | none =>
      simp (disch := omega) only [pw_lt, pw_cb, pw_cbx, pw_cbxr, pw_lit, pw_litL, pw_oi, pw_oim, pw_oi8, pw_m, pw_ldI, pw_ldL, pw_ldR, pw_stI, pw_stL, pw_nz, pw_ltI, pw_leI, pw_eqI, pw_eqm, pw_eqm2, pw_ltm, pw_mlt, pw_lem, pw_mle, pw_mm, pw_dec, pw_nar0, pw_nar1, nI_add, pw_sub, pw_mul, pw_and, pw_or, pw_andn, pw_shl1, pw_shl, pw_shr, pw_dv, nI_l, lN_i, Bool.false_eq_true, reduceCtorEq, if_false, if_true, ↓reduceIte, if_pos, if_neg, oI]
      exact ok_some ⟨rfl, cq⟩
    | some b =>
      have hbl := giv_lt I.1.1 hbs
      by_cases hm1 : m = 1
      · subst hm1
        simp (disch := omega) only [pw_lt, pw_cb, pw_cbx, pw_cbxr, pw_lit, pw_litL, pw_oi, pw_oim, pw_oi8, pw_m, pw_ldI, pw_ldL, pw_ldR, pw_stI, pw_stL, pw_nz, pw_ltI, pw_leI, pw_eqI, pw_eqm, pw_eqm2, pw_ltm, pw_mlt, pw_lem, pw_mle, pw_mm, pw_dec, pw_nar0, pw_nar1, nI_add, pw_sub, pw_mul, pw_and, pw_or, pw_andn, pw_shl1, pw_shl, pw_shr, pw_dv, nI_l, lN_i, Bool.false_eq_true, reduceCtorEq, if_false, if_true, ↓reduceIte, if_pos, if_neg, oI]
        exact ok_some ⟨rfl, cq⟩
      · simp (disch := omega) only [pw_lt, pw_cb, pw_cbx, pw_cbxr, pw_lit, pw_litL, pw_oi, pw_oim, pw_oi8, pw_m, pw_ldI, pw_ldL, pw_ldR, pw_stI, pw_stL, pw_nz, pw_ltI, pw_leI, pw_eqI, pw_eqm, pw_eqm2, pw_ltm, pw_mlt, pw_lem, pw_mle, pw_mm, pw_dec, pw_nar0, pw_nar1, nI_add, pw_sub, pw_mul, pw_and, pw_or, pw_andn, pw_shl1, pw_shl, pw_shr, pw_dv, nI_l, lN_i, Bool.false_eq_true, reduceCtorEq, if_false, if_true, ↓reduceIte, if_pos, if_neg, oI, hm1, e_bitCount]
        exact ok_some ⟨rfl, cq⟩
  · intro qw
    unfold f_X11_hearts
    rw [c_checkOpen I hk ho]
    simp only [pw_cbx, pw_lit, c_checkWhat1 (h := h) (n := 1) (by decide) qw, pw_cbxr]
    exact ok_some ⟨rfl, CQ_rfl I⟩
set_option maxRecDepth 16384 in
theorem call_hearts {h : PH} {a w : Int32} (I : INV h) : PC hs_L_hearts (f_X11_hearts 0 a w) (f_X12_hearts 152 a w) h := by
  have hb := rk_b I.1.1
  by_cases q : inN (gv (h.1 153) 5) a
  · obtain ⟨k, hk, rfl⟩ := q
    rcases tf ((gv (h.1 153) 7).testBit k) with ho | ho
    · refine PC_q (.inr 0) ?_ (fun h2 R2 I2 k2 => ?_)
      · unfold f_X11_hearts
        rw [c_checkOpen1 I hk ho]
        simp only [pw_cbxr]
        exact ok_some ⟨rfl, CQ_rfl I⟩
      · unfold f_X12_hearts
        rw [e_openFault R2 hk, ho]
        simp only [pw_cb]
        refine ok_lt (ok_join (fun h4 => h4 = pI h2 152 5 (nI 2)) ?_ (fun j hj => ?_))
        · rintro h4 rfl
          simp (disch := omega) only [pw_lt, pw_cb, pw_cbx, pw_cbxr, pw_lit, pw_litL, pw_oi, pw_oim, pw_oi8, pw_m, pw_ldI, pw_ldL, pw_ldR, pw_stI, pw_stL, pw_nz, pw_ltI, pw_leI, pw_eqI, pw_eqm, pw_eqm2, pw_ltm, pw_mlt, pw_lem, pw_mle, pw_mm, pw_dec, pw_nar0, pw_nar1, nI_add, pw_sub, pw_mul, pw_and, pw_or, pw_andn, pw_shl1, pw_shl, pw_shr, pw_dv, nI_l, lN_i, Bool.false_eq_true, reduceCtorEq, if_false, if_true, ↓reduceIte, if_pos, if_neg, th_pI]
          exact ok_some ⟨⟨(0, 2), rfl, by decide, th_pI⟩, RQ_th⟩
        · simp (disch := omega) only [pw_lt, pw_cb, pw_cbx, pw_cbxr, pw_lit, pw_litL, pw_oi, pw_oim, pw_oi8, pw_m, pw_ldI, pw_ldL, pw_ldR, pw_stI, pw_stL, pw_nz, pw_ltI, pw_leI, pw_eqI, pw_eqm, pw_eqm2, pw_ltm, pw_mlt, pw_lem, pw_mle, pw_mm, pw_dec, pw_nar0, pw_nar1, nI_add, pw_sub, pw_mul, pw_and, pw_or, pw_andn, pw_shl1, pw_shl, pw_shr, pw_dv, nI_l, lN_i, Bool.false_eq_true, reduceCtorEq, if_false, if_true, ↓reduceIte, if_pos, if_neg, th_pI]
          exact hj _ rfl
    · by_cases qw : inN 2 w
      · obtain ⟨m, hm, rfl⟩ := qw
        exact PC_q (.inl (heV (h.1 153) (h.1 159) k m)) ((k_hearts I hk ho).1 m hm rfl) (fun h2 R2 I2 k2 => (r_hearts R2 hk ho).1 m hm rfl)
      · exact PC_q (.inr 0) ((k_hearts I hk ho).2 qw) (fun h2 R2 I2 k2 => (r_hearts R2 hk ho).2 qw)
  · refine PC_q (.inr 1) ?_ (fun h2 R2 I2 k2 => ?_)
    · unfold f_X11_hearts
      rw [c_checkOpen2 I q]
      simp only [pw_cbxr]
      exact ok_some ⟨rfl, CQ_rfl I⟩
    · unfold f_X12_hearts
      rw [e_openFault1 R2 q]
      simp only [pw_cb]
      refine ok_lt (ok_join (fun h4 => h4 = pI h2 152 5 (nI 1)) ?_ (fun j hj => ?_))
      · rintro h4 rfl
        simp (disch := omega) only [pw_lt, pw_cb, pw_cbx, pw_cbxr, pw_lit, pw_litL, pw_oi, pw_oim, pw_oi8, pw_m, pw_ldI, pw_ldL, pw_ldR, pw_stI, pw_stL, pw_nz, pw_ltI, pw_leI, pw_eqI, pw_eqm, pw_eqm2, pw_ltm, pw_mlt, pw_lem, pw_mle, pw_mm, pw_dec, pw_nar0, pw_nar1, nI_add, pw_sub, pw_mul, pw_and, pw_or, pw_andn, pw_shl1, pw_shl, pw_shr, pw_dv, nI_l, lN_i, Bool.false_eq_true, reduceCtorEq, if_false, if_true, ↓reduceIte, if_pos, if_neg, th_pI]
        exact ok_some ⟨⟨(1, 1), rfl, by decide, th_pI⟩, RQ_th⟩
      · simp (disch := omega) only [pw_lt, pw_cb, pw_cbx, pw_cbxr, pw_lit, pw_litL, pw_oi, pw_oim, pw_oi8, pw_m, pw_ldI, pw_ldL, pw_ldR, pw_stI, pw_stL, pw_nz, pw_ltI, pw_leI, pw_eqI, pw_eqm, pw_eqm2, pw_ltm, pw_mlt, pw_lem, pw_mle, pw_mm, pw_dec, pw_nar0, pw_nar1, nI_add, pw_sub, pw_mul, pw_and, pw_or, pw_andn, pw_shl1, pw_shl, pw_shr, pw_dv, nI_l, lN_i, Bool.false_eq_true, reduceCtorEq, if_false, if_true, ↓reduceIte, if_pos, if_neg, th_pI]
        exact hj _ rfl
set_option maxRecDepth 16384 in
theorem call_sure {h : PH} {a : Int32} {wet : Bool} (I : INV h) : PC hs_L_sure (f_X11_sure 0 a (bI wet)) (f_X12_sure 152 a (bI wet)) h := by
  by_cases q : isSet (h.1 153) a
  · obtain ⟨s, rfl, q1, q2⟩ := id q
    have hb := rk_b I.1.1
    refine PC_q (.inl (if tg (h.1 153) (h.1 159) s then nI (suR (h.1 153) (h.1 159) s wet) else mI)) ?_ (fun h2 R2 I2 k2 => ?_)
    · unfold f_X11_sure
      rw [c_checkSet I q]
      simp (disch := omega) only [pw_lt, pw_cb, pw_cbx, pw_cbxr, pw_lit, pw_litL, pw_oi, pw_oim, pw_oi8, pw_m, pw_ldI, pw_ldL, pw_ldR, pw_stI, pw_stL, pw_nz, pw_ltI, pw_leI, pw_eqI, pw_eqm, pw_eqm2, pw_ltm, pw_mlt, pw_lem, pw_mle, pw_mm, pw_dec, pw_nar0, pw_nar1, nI_add, pw_sub, pw_mul, pw_and, pw_or, pw_andn, pw_shl1, pw_shl, pw_shr, pw_dv, nI_l, lN_i, Bool.false_eq_true, reduceCtorEq, if_false, if_true, ↓reduceIte, if_pos, if_neg, r_0_7]
      refine ok_cb (c_set I) ?_
      rintro r h1 ⟨cq, R⟩
      refine ok_cb (c_sureCells R q1) ?_
      rintro r2 h3 ⟨rfl, e3, R3⟩
      have F3 : FC (h1.1 153) (h1.1 159) h3 := by rw [cq.k, cq.t]; exact R3.1
      exact ok_some ⟨rfl, CQ_trans cq (CQ_fc cq.2 e3 F3)⟩
    · unfold f_X12_sure
      simp only [pw_lt, pw_lit, pw_m]
      have R3 := RX_pI (j := 5) (v := nI 0) R2
      rw [e_asked R3 q]
      simp (disch := omega) only [pw_lt, pw_cb, pw_cbx, pw_cbxr, pw_lit, pw_litL, pw_oi, pw_oim, pw_oi8, pw_m, pw_ldI, pw_ldL, pw_ldR, pw_stI, pw_stL, pw_nz, pw_ltI, pw_leI, pw_eqI, pw_eqm, pw_eqm2, pw_ltm, pw_mlt, pw_lem, pw_mle, pw_mm, pw_dec, pw_nar0, pw_nar1, nI_add, pw_sub, pw_mul, pw_and, pw_or, pw_andn, pw_shl1, pw_shl, pw_shr, pw_dv, nI_l, lN_i, Bool.false_eq_true, reduceCtorEq, if_false, if_true, ↓reduceIte, if_pos, if_neg, bI_0']
      refine ok_cb (e_lays R3) ?_
      rintro r h3 ⟨e3, G⟩
      have hat := G.2.2 s (by omega)
      have hev := e_everywhere (h := h3) (by rw [G.1.2.1]; exact G.1.1)
      rw [G.1.2.1] at hev
      rcases tf (tg (h.1 153) (h.1 159) s) with ht | ht
      · rw [ht] at hat
        simp (disch := omega) only [pw_lt, pw_cb, pw_cbx, pw_cbxr, pw_lit, pw_litL, pw_oi, pw_oim, pw_oi8, pw_m, pw_ldI, pw_ldL, pw_ldR, pw_stI, pw_stL, pw_nz, pw_ltI, pw_leI, pw_eqI, pw_eqm, pw_eqm2, pw_ltm, pw_mlt, pw_lem, pw_mle, pw_mm, pw_dec, pw_nar0, pw_nar1, nI_add, pw_sub, pw_mul, pw_and, pw_or, pw_andn, pw_shl1, pw_shl, pw_shr, pw_dv, nI_l, lN_i, Bool.false_eq_true, reduceCtorEq, if_false, if_true, ↓reduceIte, if_pos, if_neg, r_152_22, hat, bI_0', ht]
        exact ok_some ⟨⟨by rw [lays_th e3 (by decide), th_pI], rfl⟩, RQ_lays RQ_th e3⟩
      · rw [ht] at hat
        simp (disch := omega) only [pw_lt, pw_cb, pw_cbx, pw_cbxr, pw_lit, pw_litL, pw_oi, pw_oim, pw_oi8, pw_m, pw_ldI, pw_ldL, pw_ldR, pw_stI, pw_stL, pw_nz, pw_ltI, pw_leI, pw_eqI, pw_eqm, pw_eqm2, pw_ltm, pw_mlt, pw_lem, pw_mle, pw_mm, pw_dec, pw_nar0, pw_nar1, nI_add, pw_sub, pw_mul, pw_and, pw_or, pw_andn, pw_shl1, pw_shl, pw_shr, pw_dv, nI_l, lN_i, Bool.false_eq_true, reduceCtorEq, if_false, if_true, ↓reduceIte, if_pos, if_neg, r_152_22, hat, bI_0', ht, hev]
        rw [e_sure_lp G q2]
        exact ok_some ⟨⟨by rw [lays_th e3 (by decide), th_pI], rfl⟩, RQ_lays RQ_th e3⟩
  · refine PC_q (.inr 0) ?_ (fun h2 R2 I2 k2 => ?_)
    · unfold f_X11_sure
      rw [c_checkSet1 I q]
      simp (disch := omega) only [pw_lt, pw_cb, pw_cbx, pw_cbxr, pw_lit, pw_litL, pw_oi, pw_oim, pw_oi8, pw_m, pw_ldI, pw_ldL, pw_ldR, pw_stI, pw_stL, pw_nz, pw_ltI, pw_leI, pw_eqI, pw_eqm, pw_eqm2, pw_ltm, pw_mlt, pw_lem, pw_mle, pw_mm, pw_dec, pw_nar0, pw_nar1, nI_add, pw_sub, pw_mul, pw_and, pw_or, pw_andn, pw_shl1, pw_shl, pw_shr, pw_dv, nI_l, lN_i, Bool.false_eq_true, reduceCtorEq, if_false, if_true, ↓reduceIte, if_pos, if_neg]
      exact ok_some ⟨rfl, CQ_rfl I⟩
    · unfold f_X12_sure
      simp only [pw_lt, pw_lit, pw_m]
      rw [e_asked1 (RX_pI R2) q]
      simp (disch := omega) only [pw_lt, pw_cb, pw_cbx, pw_cbxr, pw_lit, pw_litL, pw_oi, pw_oim, pw_oi8, pw_m, pw_ldI, pw_ldL, pw_ldR, pw_stI, pw_stL, pw_nz, pw_ltI, pw_leI, pw_eqI, pw_eqm, pw_eqm2, pw_ltm, pw_mlt, pw_lem, pw_mle, pw_mm, pw_dec, pw_nar0, pw_nar1, nI_add, pw_sub, pw_mul, pw_and, pw_or, pw_andn, pw_shl1, pw_shl, pw_shr, pw_dv, nI_l, lN_i, Bool.false_eq_true, reduceCtorEq, if_false, if_true, ↓reduceIte, if_pos, if_neg, bI_0', e_fails]
      exact ok_some ⟨⟨(0, 1), rfl, by decide, th_pI⟩, r_fails⟩
set_option maxRecDepth 16384 in
theorem call_nights {h : PH} (I : INV h) : PN (f_X11_nights 0) (f_X12_nights 152) h := by
  refine PN_q (nT (h.1 153) (h.1 159) (gv (h.1 153) 7) (gv (h.1 153) 7)) ?_ (fun h2 R2 I2 k2 => ?_)
  · unfold f_X11_nights
    simp (disch := omega) only [pw_lt, pw_cb, pw_cbx, pw_cbxr, pw_lit, pw_litL, pw_oi, pw_oim, pw_oi8, pw_m, pw_ldI, pw_ldL, pw_ldR, pw_stI, pw_stL, pw_nz, pw_ltI, pw_leI, pw_eqI, pw_eqm, pw_eqm2, pw_ltm, pw_mlt, pw_lem, pw_mle, pw_mm, pw_dec, pw_nar0, pw_nar1, nI_add, pw_sub, pw_mul, pw_and, pw_or, pw_andn, pw_shl1, pw_shl, pw_shr, pw_dv, nI_l, lN_i, Bool.false_eq_true, reduceCtorEq, if_false, if_true, ↓reduceIte, if_pos, if_neg, r_0_7]
    refine ok_cb (c_set I) ?_
    rintro r h1 ⟨cq, R⟩
    refine ok_cb (c_nightsForAll R) ?_
    rintro r2 h3 ⟨rfl, e3⟩
    exact ok_some ⟨rfl, CQ_trans cq (CQ_sc cq.2 e3 (by decide) (by decide) (by decide) (by decide) (by decide))⟩
  · unfold f_X12_nights
    simp only [pw_lt, pw_lit]
    refine ok_cb (e_lays (RX_pI R2)) ?_
    rintro r h3 ⟨e3, G⟩
    have k7 : h3.1 153 7 = nI (gv (h.1 153) 7) := by rw [G.1.2.1]; exact (rk_e I.1.1).2.2.2.2.2.2.2
    simp (disch := omega) only [pw_lt, pw_cb, pw_cbx, pw_cbxr, pw_lit, pw_litL, pw_oi, pw_oim, pw_oi8, pw_m, pw_ldI, pw_ldL, pw_ldR, pw_stI, pw_stL, pw_nz, pw_ltI, pw_leI, pw_eqI, pw_eqm, pw_eqm2, pw_ltm, pw_mlt, pw_lem, pw_mle, pw_mm, pw_dec, pw_nar0, pw_nar1, nI_add, pw_sub, pw_mul, pw_and, pw_or, pw_andn, pw_shl1, pw_shl, pw_shr, pw_dv, nI_l, lN_i, Bool.false_eq_true, reduceCtorEq, if_false, if_true, ↓reduceIte, if_pos, if_neg, r_152_0, r_152_23, k7]
    refine ok_mono (e_nights_lp (G.to (eqx_pI (S := [164]) (by decide)) (by decide) (by decide) (by decide) (by decide) (by decide)) pw_pIs) ?_
    rintro b h4 ⟨rfl, e4⟩
    exact ⟨rfl, RQ_trans (RQ_lays RQ_th e3) (RQ_eq (eqx_trans (eqx_pI (by decide)) e4) (by decide) (by decide))⟩
set_option maxRecDepth 16384 in
theorem aL_cnt {K T : Nat → Int32} (H : RK K) (n : Nat) : (aL K T (gv K 7) (n + 1)).length = (aL K T (gv K 7) n).length + (if abl K T n then 1 else 0) := by
  rw [aL_s, List.length_append, ablo_abl H]
  cases abl K T n <;> rfl
set_option maxRecDepth 16384 in
theorem e_wy {K T : Nat → Int32} {h : PH} {p : Nat} (R : RX K T h) (hp : p ≤ ga K) : f_X12_whyNot 152 (lN p) h = some (nI (wy K T p), h) := by
  obtain ⟨H, r1, r2, r3, r4⟩ := R
  have := e_whyNot (h := h) (p := p) (by rw [r1]; exact H) (by rw [r1, r2]; exact r3) (by rw [r1]; exact r4) (by rw [r1]; exact hp)
  rw [r1, r2] at this
  exact this
set_option maxRecDepth 16384 in
theorem e_wy1 {K T : Nat → Int32} {h : PH} {v : Int64} (R : RX K T h) (q : ¬ ∃ k, k ≤ ga K ∧ v = lN k) : f_X12_whyNot 152 v h = some (nI 1, h) := e_whyNot1 (by rw [R.2.1]; exact R.1) (by rw [R.2.1]; exact q)
set_option maxRecDepth 16384 in
theorem e_ev {K T : Nat → Int32} {h : PH} (R : RX K T h) : f_X12_everywhere 152 h = some (nI (ga K), h) := by
  have := e_everywhere (h := h) (by rw [R.2.1]; exact R.1)
  rw [R.2.1] at this
  exact this
set_option maxRecDepth 16384 in
theorem call_plans {h : PH} (I : INV h) : PN (f_X11_plans 0) (f_X12_plans 152) h := by
  have H := I.1.1
  have hb := rk_b H
  refine PN_q (nI (aL (h.1 153) (h.1 159) (gv (h.1 153) 7) (ga (h.1 153) + 1)).length) ?_ (fun h2 R2 I2 k2 => ?_)
  · unfold f_X11_plans
    simp (disch := omega) only [pw_lt, pw_cb, pw_cbx, pw_cbxr, pw_lit, pw_litL, pw_oi, pw_oim, pw_oi8, pw_m, pw_ldI, pw_ldL, pw_ldR, pw_stI, pw_stL, pw_nz, pw_ltI, pw_leI, pw_eqI, pw_eqm, pw_eqm2, pw_ltm, pw_mlt, pw_lem, pw_mle, pw_mm, pw_dec, pw_nar0, pw_nar1, nI_add, pw_sub, pw_mul, pw_and, pw_or, pw_andn, pw_shl1, pw_shl, pw_shr, pw_dv, nI_l, lN_i, Bool.false_eq_true, reduceCtorEq, if_false, if_true, ↓reduceIte, if_pos, if_neg, r_0_7]
    refine ok_cb (c_set I) ?_
    rintro r h1 ⟨cq, R⟩
    exact ok_some ⟨R.2.1.1, cq⟩
  · unfold f_X12_plans
    simp only [pw_lt, pw_lit]
    have R3 := RX_pI (j := 5) (v := nI 0) R2
    have hq : RQ h2 (pI h2 152 5 (nI 0)) := RQ_th
    generalize pI h2 152 5 (nI 0) = h3 at *
    generalize h.1 153 = K at *
    generalize h.1 159 = T at *
    suffices hs : lp (b_X12_plans_9 152) FU (nI 0, nI 0) h3 = some (nI (aL K T (gv K 7) (ga K + 1)).length, h3) by rw [hs]; exact ok_some ⟨rfl, hq⟩
    refine lp_run (fun n => (nI (aL K T (gv K 7) n).length, nI n)) (fun _ => h3) (ga K + 1) _ ?_ ?_ FU (fu_lt (by omega))
    · intro i hi rec
      have hal := aL_len K T (gv K 7) i
      have hc := aL_cnt (T := T) H i
      have hwl := wy_le K T i
      unfold b_X12_plans_9
      by_cases h1 : wy K T i = 0
      · have hA : abl K T i = true := decide_eq_true h1
        rw [hA, if_pos rfl] at hc
        simp (disch := omega) only [pw_lt, pw_cb, pw_cbx, pw_cbxr, pw_lit, pw_litL, pw_oi, pw_oim, pw_oi8, pw_m, pw_ldI, pw_ldL, pw_ldR, pw_stI, pw_stL, pw_nz, pw_ltI, pw_leI, pw_eqI, pw_eqm, pw_eqm2, pw_ltm, pw_mlt, pw_lem, pw_mle, pw_mm, pw_dec, pw_nar0, pw_nar1, nI_add, pw_sub, pw_mul, pw_and, pw_or, pw_andn, pw_shl1, pw_shl, pw_shr, pw_dv, nI_l, lN_i, Bool.false_eq_true, reduceCtorEq, if_false, if_true, ↓reduceIte, if_pos, if_neg, e_ev R3, e_wy R3, h1, hc]
      · have hA : abl K T i = false := decide_eq_false h1
        rw [hA, if_neg (by decide)] at hc
        simp (disch := omega) only [pw_lt, pw_cb, pw_cbx, pw_cbxr, pw_lit, pw_litL, pw_oi, pw_oim, pw_oi8, pw_m, pw_ldI, pw_ldL, pw_ldR, pw_stI, pw_stL, pw_nz, pw_ltI, pw_leI, pw_eqI, pw_eqm, pw_eqm2, pw_ltm, pw_mlt, pw_lem, pw_mle, pw_mm, pw_dec, pw_nar0, pw_nar1, nI_add, pw_sub, pw_mul, pw_and, pw_or, pw_andn, pw_shl1, pw_shl, pw_shr, pw_dv, nI_l, lN_i, Bool.false_eq_true, reduceCtorEq, if_false, if_true, ↓reduceIte, if_pos, if_neg, e_ev R3, e_wy R3, h1, hc]
    · intro rec
      unfold b_X12_plans_9
      simp (disch := omega) only [pw_lt, pw_cb, pw_cbx, pw_cbxr, pw_lit, pw_litL, pw_oi, pw_oim, pw_oi8, pw_m, pw_ldI, pw_ldL, pw_ldR, pw_stI, pw_stL, pw_nz, pw_ltI, pw_leI, pw_eqI, pw_eqm, pw_eqm2, pw_ltm, pw_mlt, pw_lem, pw_mle, pw_mm, pw_dec, pw_nar0, pw_nar1, nI_add, pw_sub, pw_mul, pw_and, pw_or, pw_andn, pw_shl1, pw_shl, pw_shr, pw_dv, nI_l, lN_i, Bool.false_eq_true, reduceCtorEq, if_false, if_true, ↓reduceIte, if_pos, if_neg, e_ev R3]

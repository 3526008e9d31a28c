/-! ===== undo ===== -/
def unK (K : Nat → Int32) (n j : Nat) : Int32 := if j = 6 then nI (gv K 6 - n) else if 7 ≤ j ∧ j < 24 then K (66 + 17 * (gv K 6 - n) + (j - 7)) else K j
set_option maxRecDepth 16384 in
theorem unK_ok {K : Nat → Int32} (G : GK K) {n : Nat} (h1 : 1 ≤ n) (h2 : n ≤ gv K 6) : GK (unK K n) ∧ sameK K (unK K n) ∧ gv (unK K n) 6 = gv K 6 - n := by
  obtain ⟨H, U, W⟩ := G
  have h6l := (rk_b H).2.2.2.2.2.2.2.1
  have s : sameK K (unK K n) := fun j hj => by
    unfold unK
    rw [if_neg (by omega), if_neg (by omega)]
  obtain ⟨o, ho, hv⟩ := U (gv K 6 - n) (by omega)
  have h7 : unK K n 7 = nI o := by
    unfold unK
    rw [if_neg (by omega), if_pos (by omega)]
    exact hv
  obtain ⟨H', g6, g7⟩ := RK_same H s (d := gv K 6 - n) (o := o) (by unfold unK; rw [if_pos rfl]) (by omega) h7 ho
  refine ⟨⟨H', fun k hk => ?_, KW_same H s W⟩, s, g6⟩
  rw [g6] at hk
  rw [gv_same s (show 5 < 6 ∨ _ by omega)]
  obtain ⟨o2, ho2, hv2⟩ := U k (by omega)
  refine ⟨o2, ho2, ?_⟩
  unfold unK
  rw [if_neg (by omega), if_neg (by omega)]
  exact hv2
set_option maxRecDepth 16384 in
theorem c_takeBack {K T : Nat → Int32} {h : PH} {n : Nat} (C : CS K T h) (h1 : 1 ≤ n) (h2 : n ≤ gv K 6) : ok (f_X0_takeBack 16 (nI n) h) (fun _ h' => eqx bkS h h' ∧ CS (unK K n) T h' ∧ h'.1 16 3 = nI (gv K 6 - n)) := by
  obtain ⟨G, s, g6⟩ := unK_ok C.1 h1 h2
  obtain ⟨B0, B1, B2, B3, e, he, B4, B5⟩ := C.2.2.2.1
  have h6l := (rk_b C.1.1).2.2.2.2.2.2.2.1
  have hk6 := (rk_e C.1.1).2.2.2.2.2.2.1
  rw [hk6] at B3
  have hmod : e + (gv K 6 - n) - (e + (gv K 6 - n)) / 10 * 10 = (e + (gv K 6 - n)) % 10 := by omega
  have hv : (e + (gv K 6 - n)) % 10 < 10 := by omega
  have hrow := fun j (hj : j < 17) => B5 (gv K 6 - n) (by omega) j hj
  have hrow : ∀ j, j < 17 → h.1 (20 + (e + (gv K 6 - n)) % 10) j = K (66 + 17 * (gv K 6 - n) + j) := hrow
  unfold f_X0_takeBack
  simp (disch := omega) only [pw_lt, pw_cb, pw_cbx, pw_cbxr, pw_lit, pw_litL, pw_oi, pw_oim, pw_oi8, pw_m, pw_ldI, pw_ldL, pw_ldR, pw_stI, pw_stL, pw_nz, pw_ltI, pw_leI, pw_eqI, pw_eqm, pw_eqm2, pw_ltm, pw_mlt, pw_lem, pw_mle, pw_mm, pw_dec, pw_nar0, pw_nar1, nI_add, pw_sub, pw_mul, pw_and, pw_or, pw_andn, pw_shl1, pw_shl, pw_shr, pw_dv, nI_l, lN_i, Bool.false_eq_true, reduceCtorEq, if_false, if_true, ↓reduceIte, if_pos, if_neg, B3, B4, pw_pIs, pw_pIo, hmod, r_16_5, r_19, r_16_1, r_16_2, hrow, pw_cyI]
  refine ok_some ?_
  generalize hx : (e + (gv K 6 - n)) % 10 = x at *
  generalize hh : pI (pI h 16 3 (nI (gv K 6 - n))) 16 0 (K (66 + 17 * (gv K 6 - n) + 0)) = h3
  have e3 : eqx [16] h h3 := by rw [← hh]; exact eqx_trans (eqx_pI (by decide)) (eqx_pI (by decide))
  have v0 : h3.1 16 0 = K (66 + 17 * (gv K 6 - n) + 0) := by rw [← hh, pw_pIs]
  have v3 : h3.1 16 3 = nI (gv K 6 - n) := by rw [← hh, pw_pIo (by omega), pw_pIs]
  have v4 : h3.1 16 4 = nI e := by rw [← hh, pw_pIo (by omega), pw_pIo (by omega)]; exact B4
  have hr3 : ∀ j, j < 17 → h3.1 (20 + x) j = K (66 + 17 * (gv K 6 - n) + j) := fun j hj => by rw [(e3 (20 + x) (by simp; omega)).1]; exact hrow j hj
  have ee : eqx bkS h (cpI (cpI h3 (20 + x) 17 1 0 10) (20 + x) 18 11 0 6) := eqx_trans (eqx_mono e3 (by decide)) (eqx_trans (eqx_cp (by decide)) (eqx_cp (by decide)))
  refine ⟨ee, C.k ee G s ⟨?_, fun i hi => ?_, fun p hp => ?_, ?_, e, he, ?_, fun k hk j hj => ?_⟩, ?_⟩
  · rw [cp_o (by omega), cp_o (by omega), v0]
    unfold unK
    rw [if_neg (by omega), if_pos (by omega)]
  · show (cpI (cpI h3 (20 + x) 17 1 0 10) (20 + x) 18 11 0 6).1 17 i = _
    rw [cp_o (by omega), cp_in (by omega) (by omega), hr3 _ (by omega)]
    unfold unK
    rw [if_neg (by omega), if_pos (by omega)]
    congr 1
    omega
  · show (cpI (cpI h3 (20 + x) 17 1 0 10) (20 + x) 18 11 0 6).1 18 p = _
    rw [cp_in (by omega) (by omega), cp_o (by omega), hr3 _ (by omega)]
    unfold unK
    rw [if_neg (by omega), if_pos (by omega)]
    congr 1
    omega
  · rw [cp_o (by omega), cp_o (by omega), v3]
    unfold unK
    rw [if_pos rfl]
  · rw [cp_o (by omega), cp_o (by omega)]
    exact v4
  · rw [g6] at hk
    rw [cp_o (by omega), cp_o (by omega), (e3 _ (by simp; omega)).1, B5 k (by omega) j hj]
    unfold unK
    rw [if_neg (by omega), if_neg (by omega)]
  · rw [cp_o (by omega), cp_o (by omega), v3]
def unN (K : Nat → Int32) (d i j : Nat) : Int32 := if j = 6 then nI d else if 7 ≤ j ∧ j < 7 + i then K (66 + 17 * d + (j - 7)) else K j
set_option maxRecDepth 16384 in
theorem unN_17 {K : Nat → Int32} {n : Nat} : unN K (gv K 6 - n) 17 = unK K n := by
  funext j
  unfold unN unK
  rfl
set_option maxRecDepth 16384 in
theorem unN_0 {K : Nat → Int32} {d : Nat} : unN K d 0 = updK K 6 (nI d) := by
  funext j
  unfold unN updK
  by_cases hj : j = 6
  · rw [if_pos hj, if_pos hj]
  · rw [if_neg hj, if_neg hj, if_neg (by omega)]
set_option maxRecDepth 16384 in
theorem unN_s {K : Nat → Int32} {d i : Nat} : unN K d (i + 1) = updK (unN K d i) (7 + i) (K (66 + 17 * d + i)) := by
  funext j
  unfold unN updK
  dsimp only
  by_cases hj : j = 7 + i
  · rw [if_pos hj, if_neg (by omega), if_pos (by omega), hj, show 7 + i - 7 = i by omega]
  · rw [if_neg hj]
    by_cases hj6 : j = 6
    · rw [if_pos hj6, if_pos hj6]
    · rw [if_neg hj6, if_neg hj6]
      by_cases hj2 : 7 ≤ j ∧ j < 7 + i
      · rw [if_pos hj2, if_pos (by omega)]
      · rw [if_neg hj2, if_neg (by omega)]
set_option maxRecDepth 16384 in
theorem unN_6 {K : Nat → Int32} {d i : Nat} : unN K d i 6 = nI d := by
  unfold unN
  exact if_pos rfl
set_option maxRecDepth 16384 in
theorem unN_hi {K : Nat → Int32} {d i j : Nat} (hj : 66 ≤ j) (hi : i ≤ 17) : unN K d i j = K j := by
  unfold unN
  rw [if_neg (by omega), if_neg (by omega)]
set_option maxRecDepth 16384 in
theorem e_undo_lp {K : Nat → Int32} {h : PH} {d : Nat} (hd : d < 10) (k : h.1 153 = unN K d 0) : ok (lp (b_X12_undo_47 152) FU (nI 0) h) (fun r h' => r = nI d ∧ eqx [153] h h' ∧ h'.1 153 = unN K d 17) := by
  refine lp_ok (fun m x h3 => m ≤ 17 ∧ x = nI (17 - m) ∧ eqx [153] h h3 ∧ h3.1 153 = unN K d (17 - m)) ?_ FU 17 _ h ⟨by omega, rfl, eqx_rfl _ _, k⟩ (fu_lt (by omega))
  rintro m rec x h3 ⟨hm, rfl, e3, k3⟩ hrec
  have w6 : h3.1 153 6 = nI d := by rw [k3, unN_6]
  unfold b_X12_undo_47
  by_cases h0 : m = 0
  · subst h0
    simp (disch := omega) only [pw_lt, pw_cb, pw_cbx, pw_cbxr, pw_lit, pw_litL, pw_oi, pw_oim, pw_oi8, pw_m, pw_ldI, pw_ldL, pw_ldR, pw_stI, pw_stL, pw_nz, pw_ltI, pw_leI, pw_eqI, pw_eqm, pw_eqm2, pw_ltm, pw_mlt, pw_lem, pw_mle, pw_mm, pw_dec, pw_nar0, pw_nar1, nI_add, pw_sub, pw_mul, pw_and, pw_or, pw_andn, pw_shl1, pw_shl, pw_shr, pw_dv, nI_l, lN_i, Bool.false_eq_true, reduceCtorEq, if_false, if_true, ↓reduceIte, if_pos, if_neg, r_152_0, w6]
    exact ok_some ⟨rfl, e3, k3⟩
  · generalize hi : 17 - m = i at *
    have e9 : 17 - (m - 1) = i + 1 := by omega
    have wi : h3.1 153 (66 + 17 * d + i) = K (66 + 17 * d + i) := by rw [k3, unN_hi (by omega) (by omega)]
    simp (disch := omega) only [pw_lt, pw_cb, pw_cbx, pw_cbxr, pw_lit, pw_litL, pw_oi, pw_oim, pw_oi8, pw_m, pw_ldI, pw_ldL, pw_ldR, pw_stI, pw_stL, pw_nz, pw_ltI, pw_leI, pw_eqI, pw_eqm, pw_eqm2, pw_ltm, pw_mlt, pw_lem, pw_mle, pw_mm, pw_dec, pw_nar0, pw_nar1, nI_add, pw_sub, pw_mul, pw_and, pw_or, pw_andn, pw_shl1, pw_shl, pw_shr, pw_dv, nI_l, lN_i, Bool.false_eq_true, reduceCtorEq, if_false, if_true, ↓reduceIte, if_pos, if_neg, r_152_0, w6, wi]
    refine hrec (m - 1) _ _ (by omega) ⟨by omega, by rw [e9], eqx_trans e3 (eqx_pI (by decide)), ?_⟩
    rw [pI_upd, k3, e9, unN_s]
set_option maxRecDepth 16384 in
theorem r_undo {K T : Nat → Int32} {h : PH} {n : Nat} (R : RX K T h) (n1 : 1 ≤ n) (n2 : n ≤ gv K 6) : ok (f_X12_undo 152 (nI n) h) (fun b h3 => b = nI (gv K 6 - n) ∧ h3.1 152 5 = nI 0 ∧ eqx (153 :: rfL) h h3 ∧ f152 h h3 ∧ h3.1 153 = unK K n) := by
  have h6l := (rk_b R.1).2.2.2.2.2.2.2.1
  have hk6 := (rk_e R.1).2.2.2.2.2.2.1
  have hew : ∀ h3 : PH, f_X12_within (nI n).toInt64 (lN 1) (lN 10) h3 = some (bI true, h3) := fun h3 => e_withinR (by decide) (by decide) ⟨n, n1, by omega, rfl⟩
  have q153 := (RX_pI (j := 5) (v := nI 0) R).2.1
  unfold f_X12_undo
  simp only [pw_lt, pw_lit, pw_litL, hew, pw_cb, bI_0', Bool.true_eq_false, if_false]
  have hth : (pI h 152 5 (nI 0)).1 152 5 = nI 0 := th_pI
  have hx : eqx [152] h (pI h 152 5 (nI 0)) := eqx_pI (by decide)
  have hf : f152 h (pI h 152 5 (nI 0)) := f152_pI (by decide) (by decide) (by decide)
  generalize pI h 152 5 (nI 0) = h1 at *
  have v6 : h1.1 153 6 = nI (gv K 6) := by rw [q153]; exact hk6
  simp (disch := omega) only [pw_lt, pw_cb, pw_cbx, pw_cbxr, pw_lit, pw_litL, pw_oi, pw_oim, pw_oi8, pw_m, pw_ldI, pw_ldL, pw_ldR, pw_stI, pw_stL, pw_nz, pw_ltI, pw_leI, pw_eqI, pw_eqm, pw_eqm2, pw_ltm, pw_mlt, pw_lem, pw_mle, pw_mm, pw_dec, pw_nar0, pw_nar1, nI_add, pw_sub, pw_mul, pw_and, pw_or, pw_andn, pw_shl1, pw_shl, pw_shr, pw_dv, nI_l, lN_i, Bool.false_eq_true, reduceCtorEq, if_false, if_true, ↓reduceIte, if_pos, if_neg, r_152_0, v6]
  have hu := e_undo_lp (K := K) (h := pI h1 153 6 (nI (gv K 6 - n))) (d := gv K 6 - n) (by omega) (by rw [pI_upd, q153, unN_0])
  refine ok_mono hu ?_
  rintro r h3 ⟨rfl, e3, k3⟩
  have e13 : eqx [153] h1 h3 := eqx_trans (eqx_pI (by decide)) e3
  exact ⟨rfl, by rw [(e13 152 (by decide)).1]; exact hth, eqx_trans (eqx_mono hx (by decide)) (eqx_mono e13 (by decide)), f152_trans hf (f152_eq e13 (by decide)), by rw [k3, unN_17]⟩
set_option maxRecDepth 16384 in
theorem call_undo {h : PH} {a : Int32} (I : INV h) : PC hs_L_undo (f_X11_undo 0 a) (f_X12_undo 152 a) h := by
  have H := I.1.1
  have h6l := (rk_b H).2.2.2.2.2.2.2.1
  have hk6 := (rk_e H).2.2.2.2.2.2.1
  have hd : h.1 16 3 = nI (gv (h.1 153) 6) := by rw [I.2.2.2.2.1.2.2.2.1]; exact hk6
  by_cases q : inR 1 (gv (h.1 153) 6) a
  · obtain ⟨n, n1, n2, rfl⟩ := q
    obtain ⟨G, s, g6⟩ := unK_ok I.1 n1 n2
    refine PC_ch I (nI (gv (h.1 153) 6 - n)) (unK (h.1 153) n) s ?_ (fun h2 R2 => r_undo R2 n1 n2)
    unfold f_X11_undo
    simp (disch := omega) only [pw_lt, pw_lit, pw_ltI, r_0_5, hd, pw_leI, if_neg, if_pos]
    refine ok_cb (c_takeBack I.cs n1 n2) ?_
    rintro r h1 ⟨e1, C1, v3⟩
    rw [v3]
    exact ok_some ⟨rfl, eqx_mono e1 (by decide), C1⟩
  · refine PC_q (.inr 0) ?_ (fun h2 R2 I2 k2 => ?_)
    · unfold f_X11_undo
      simp only [pw_lt, pw_lit, r_0_5, hd]
      rw [c_rngR (by decide) (by omega) q]
      exact ok_some ⟨rfl, CQ_rfl I⟩
    · have v6 : (pI h2 152 5 (nI 0)).1 153 6 = nI (gv (h.1 153) 6) := by rw [pw_pIo (by omega), k2]; exact hk6
      have hfail : ok (cb (f_X12_fails 152 (nI 1) (pI h2 152 5 (nI 0))) (fun r5 h6 => some (r5, h6))) (fun b h3 => agr hs_L_undo (.inr 0 : Int32 ⊕ Nat) (h3.1 152 5) b ∧ RQ h2 h3) := by
        rw [e_fails]
        exact ok_some ⟨⟨(0, 1), rfl, by decide, th_pI⟩, r_fails⟩
      unfold f_X12_undo
      simp only [pw_lt, pw_lit, pw_litL]
      by_cases q10 : inR 1 10 a
      · rw [e_withinR (by decide) (by decide) q10]
        obtain ⟨n, n1, n2, rfl⟩ := q10
        have hn : ¬ n ≤ gv (h.1 153) 6 := fun z => q ⟨n, n1, z, rfl⟩
        simp (disch := omega) only [pw_cb, bI_0', Bool.true_eq_false, if_false, r_152_0, pw_ldI, v6, pw_leI, hn]
        exact hfail
      · rw [e_withinR1 (by decide) (by decide) q10]
        simp only [pw_cb, bI_0', if_true]
        exact hfail
/-! ===== trays looked up ===== -/
set_option maxRecDepth 16384 in
theorem r_84 {k : Nat} (h : k < 4) : rt 84 k = 85 + 2 * k := (by decide : ∀ k, k < 4 → rt 84 k = 85 + 2 * k) k h
set_option maxRecDepth 16384 in
theorem r_tr {k : Nat} (h : k < 4) : rt (85 + 2 * k) 2 = 86 + 2 * k := (by decide : ∀ k, k < 4 → rt (85 + 2 * k) 2 = 86 + 2 * k) k h
set_option maxRecDepth 16384 in
theorem gk_tr {γ : Type} {k : Nat} {o : Option γ} (h : k < 4) : gk (85 + 2 * k) 10 o = o := by
  unfold gk
  rw [if_pos ((by decide : ∀ k, k < 4 → (kd (85 + 2 * k)).1 = 10) k h)]
/- a tray that is there: sort, many, row -/
def trayIs (t s m : Nat) (h : PH) : Prop := s ≤ 3 ∧ m ≤ 30 ∧ h.1 (85 + 2 * t) 0 = nI s ∧ h.1 174 t = nI s ∧ h.1 (85 + 2 * t) 1 = nI m ∧ h.1 175 t = nI m ∧ ∀ k, k < 30 → h.2 (86 + 2 * t) k = h.2 176 (30 * t + k)
set_option maxRecDepth 16384 in
theorem e_isTrayQ {a : Int32} {h : PH} (q : inN 4 a) : f_X12_isTray a h = some (bI true, h) := by
  unfold f_X12_isTray
  simp only [pw_litL]
  rw [e_withinI (n := 3) (by decide) q]
  simp only [pw_cb, zr_b]
set_option maxRecDepth 16384 in
theorem e_isTrayQ1 {a : Int32} {h : PH} (q : ¬ inN 4 a) : f_X12_isTray a h = some (bI false, h) := by
  unfold f_X12_isTray
  simp only [pw_litL]
  rw [e_withinI1 (n := 3) (by decide) q]
  simp only [pw_cb, zr_b]
/- the three cases of a tray asked for -/
set_option maxRecDepth 16384 in
theorem tray_cases {h : PH} (a : Int32) (I : INV h) :
    (f_X11_trayThere 0 a h = some (.inr 1, h) ∧ ∀ h2 : PH, h2.1 174 = h.1 174 → f_X12_trayFault 152 a h2 = some (nI 1, h2)) ∨
    (f_X11_trayThere 0 a h = some (.inr 2, h) ∧ ∀ h2 : PH, h2.1 174 = h.1 174 → f_X12_trayFault 152 a h2 = some (nI 2, h2)) ∨
    (∃ t s m, t < 4 ∧ a = nI t ∧ trayIs t s m h ∧ f_X11_trayThere 0 a h = some (.inl (85 + 2 * t), h) ∧ ∀ h2 : PH, h2.1 174 = h.1 174 → f_X12_trayFault 152 a h2 = some (nI 0, h2)) := by
  by_cases q : inN 4 a
  · have het := fun h2 : PH => e_isTrayQ (h := h2) q
    obtain ⟨t, ht, rfl⟩ := q
    rcases I.2.2.2.2.2.2.2.2.2.1 t ht with ⟨d1, d2⟩ | ⟨s, m, d1, d2, d3, d4, d5, d6, d7⟩
    · refine Or.inr (Or.inl ⟨?_, fun h2 e => ?_⟩)
      · unfold f_X11_trayThere
        simp (disch := omega) only [pw_lt, pw_cb, pw_cbx, pw_cbxr, pw_lit, pw_litL, pw_oi, pw_oim, pw_oi8, pw_m, pw_ldI, pw_ldL, pw_ldR, pw_stI, pw_stL, pw_nz, pw_ltI, pw_leI, pw_eqI, pw_eqm, pw_eqm2, pw_ltm, pw_mlt, pw_lem, pw_mle, pw_mm, pw_dec, pw_nar0, pw_nar1, nI_add, pw_sub, pw_mul, pw_and, pw_or, pw_andn, pw_shl1, pw_shl, pw_shr, pw_dv, nI_l, lN_i, Bool.false_eq_true, reduceCtorEq, if_false, if_true, ↓reduceIte, if_pos, if_neg, r_0_12, r_84, d1]
      · unfold f_X12_trayFault
        rw [het]
        have d2 : h2.1 174 t = mI := by rw [e]; exact d2
        simp (disch := omega) only [pw_lt, pw_cb, pw_cbx, pw_cbxr, pw_lit, pw_litL, pw_oi, pw_oim, pw_oi8, pw_m, pw_ldI, pw_ldL, pw_ldR, pw_stI, pw_stL, pw_nz, pw_ltI, pw_leI, pw_eqI, pw_eqm, pw_eqm2, pw_ltm, pw_mlt, pw_lem, pw_mle, pw_mm, pw_dec, pw_nar0, pw_nar1, nI_add, pw_sub, pw_mul, pw_and, pw_or, pw_andn, pw_shl1, pw_shl, pw_shr, pw_dv, nI_l, lN_i, Bool.false_eq_true, reduceCtorEq, if_false, if_true, ↓reduceIte, if_pos, if_neg, bI_0', r_152_36, d2]
    · refine Or.inr (Or.inr ⟨t, s, m, ht, rfl, ⟨d1, d2, d3, d4, d5, d6, d7⟩, ?_, fun h2 e => ?_⟩)
      · unfold f_X11_trayThere
        simp (disch := omega) only [pw_lt, pw_cb, pw_cbx, pw_cbxr, pw_lit, pw_litL, pw_oi, pw_oim, pw_oi8, pw_m, pw_ldI, pw_ldL, pw_ldR, pw_stI, pw_stL, pw_nz, pw_ltI, pw_leI, pw_eqI, pw_eqm, pw_eqm2, pw_ltm, pw_mlt, pw_lem, pw_mle, pw_mm, pw_dec, pw_nar0, pw_nar1, nI_add, pw_sub, pw_mul, pw_and, pw_or, pw_andn, pw_shl1, pw_shl, pw_shr, pw_dv, nI_l, lN_i, Bool.false_eq_true, reduceCtorEq, if_false, if_true, ↓reduceIte, if_pos, if_neg, r_0_12, r_84, d5]
      · unfold f_X12_trayFault
        rw [het]
        have d4 : h2.1 174 t = nI s := by rw [e]; exact d4
        simp (disch := omega) only [pw_lt, pw_cb, pw_cbx, pw_cbxr, pw_lit, pw_litL, pw_oi, pw_oim, pw_oi8, pw_m, pw_ldI, pw_ldL, pw_ldR, pw_stI, pw_stL, pw_nz, pw_ltI, pw_leI, pw_eqI, pw_eqm, pw_eqm2, pw_ltm, pw_mlt, pw_lem, pw_mle, pw_mm, pw_dec, pw_nar0, pw_nar1, nI_add, pw_sub, pw_mul, pw_and, pw_or, pw_andn, pw_shl1, pw_shl, pw_shr, pw_dv, nI_l, lN_i, Bool.false_eq_true, reduceCtorEq, if_false, if_true, ↓reduceIte, if_pos, if_neg, bI_0', r_152_36, d4]
  · refine Or.inl ⟨?_, fun h2 e => ?_⟩
    · unfold f_X11_trayThere
      simp only [pw_lt, pw_lit]
      exact c_rng (by decide) q
    · unfold f_X12_trayFault
      rw [e_isTrayQ1 q]
      simp (disch := omega) only [pw_lt, pw_cb, pw_cbx, pw_cbxr, pw_lit, pw_litL, pw_oi, pw_oim, pw_oi8, pw_m, pw_ldI, pw_ldL, pw_ldR, pw_stI, pw_stL, pw_nz, pw_ltI, pw_leI, pw_eqI, pw_eqm, pw_eqm2, pw_ltm, pw_mlt, pw_lem, pw_mle, pw_mm, pw_dec, pw_nar0, pw_nar1, nI_add, pw_sub, pw_mul, pw_and, pw_or, pw_andn, pw_shl1, pw_shl, pw_shr, pw_dv, nI_l, lN_i, Bool.false_eq_true, reduceCtorEq, if_false, if_true, ↓reduceIte, if_pos, if_neg, bI_0']

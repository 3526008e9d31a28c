/-! ===== calls: most, chances, who is served, weathers ===== -/
def moV (K T : Nat → Int32) (m : Nat) : Int32 := match mB K T with
  | none => mI
  | some b => nI (if m = 2 then b else if m = 1 then gG K T b else wG K T b)
set_option maxRecDepth 16384 in
theorem mB_ok {K T : Nat → Int32} (H : RK K) {b : Nat} (h : mB K T = some b) : b ≤ ga K ∧ abl K T b = true := by
  have h1 := mst_lt _ b h
  have habb : ∀ n c, fA (abl K T) (mst K T) none n = some c → abl K T c = true := by
    intro n
    induction n with
    | zero => intro c hc; cases hc
    | succ n ih =>
      intro c hc
      rw [fA] at hc
      by_cases hb : abl K T n = true
      · rw [if_pos hb] at hc
        cases hq : fA (abl K T) (mst K T) none n with
        | none => rw [hq, mst] at hc; cases hc; exact hb
        | some d =>
          rw [hq, mst] at hc
          by_cases hz : wG K T d < wG K T n ∨ wG K T d = wG K T n ∧ pc n < pc d
          · rw [if_pos hz] at hc; cases hc; exact hb
          · rw [if_neg hz] at hc; cases hc; exact ih _ hq
      · rw [if_neg hb] at hc
        exact ih c hc
  exact ⟨by omega, habb _ b h⟩
set_option maxRecDepth 16384 in
theorem call_most {h : PH} {a : Int32} (I : INV h) : PC hs_L_most (f_X11_most 0 a) (f_X12_most 152 a) h := by
  have H := I.1.1
  have hb := rk_b H
  by_cases q : inN 3 a
  · have hcw := c_checkWhat (h := h) (n := 2) (by decide) q
    have hew : ∀ h3 : PH, f_X12_within a.toInt64 (lN 0) (lN 2) h3 = some (bI true, h3) := fun h3 => e_withinI (by decide) q
    obtain ⟨m, hm, rfl⟩ := q
    refine PC_q (.inl (moV (h.1 153) (h.1 159) m)) ?_ (fun h2 R2 I2 k2 => ?_)
    · unfold f_X11_most
      simp only [pw_lit, hcw, pw_cbx, r_0_7]
      refine ok_cb (c_set I) ?_
      rintro r h1 ⟨cq, R⟩
      refine ok_cb (c_mostPlan R) ?_
      rintro r2 h3 ⟨rfl, e3, R3⟩
      have F3 : FC (h1.1 153) (h1.1 159) h3 := by rw [cq.k, cq.t]; exact R3.1
      have cq3 := CQ_trans cq (CQ_fc cq.2 e3 F3)
      unfold moV
      cases hbs : mB (h.1 153) (h.1 159) with
      | none =>
        simp (disch := omega) only [pw_lt, pw_cb, pw_cbx, pw_cbxr, pw_lit, pw_litL, pw_oi, pw_oim, pw_oi8, pw_m, pw_ldI, pw_ldL, pw_ldR, pw_stI, pw_stL, pw_nz, pw_ltI, pw_leI, pw_eqI, pw_eqm, pw_eqm2, pw_ltm, pw_mlt, pw_lem, pw_mle, pw_mm, pw_dec, pw_nar0, pw_nar1, nI_add, pw_sub, pw_mul, pw_and, pw_or, pw_andn, pw_shl1, pw_shl, pw_shr, pw_dv, nI_l, lN_i, Bool.false_eq_true, reduceCtorEq, if_false, if_true, ↓reduceIte, if_pos, if_neg, oI]
        exact ok_some ⟨rfl, cq3⟩
      | some b =>
        obtain ⟨hbl, hA⟩ := mB_ok H hbs
        by_cases m2 : m = 2
        · subst m2
          simp (disch := omega) only [pw_lt, pw_cb, pw_cbx, pw_cbxr, pw_lit, pw_litL, pw_oi, pw_oim, pw_oi8, pw_m, pw_ldI, pw_ldL, pw_ldR, pw_stI, pw_stL, pw_nz, pw_ltI, pw_leI, pw_eqI, pw_eqm, pw_eqm2, pw_ltm, pw_mlt, pw_lem, pw_mle, pw_mm, pw_dec, pw_nar0, pw_nar1, nI_add, pw_sub, pw_mul, pw_and, pw_or, pw_andn, pw_shl1, pw_shl, pw_shr, pw_dv, nI_l, lN_i, Bool.false_eq_true, reduceCtorEq, if_false, if_true, ↓reduceIte, if_pos, if_neg, oI]
          exact ok_some ⟨rfl, cq3⟩
        · have o3 := R3.2.2.2.1
          simp (disch := omega) only [oI, pw_m, pw_eqm, pw_eqI, m2, if_false, pw_lt, r_0_5, r_0_6, o3]
          refine ok_cb (c_gG R3.1 hbl) ?_
          rintro r4 h5 ⟨rfl, e5, F5⟩
          have F5' : FC (h3.1 153) (h3.1 159) h5 := by rw [cq3.k, cq3.t]; exact F5
          have cq5 := CQ_trans cq3 (CQ_fc cq3.2 e5 F5')
          have R5 := R3.to2 e5 F5
          by_cases m1 : m = 1
          · subst m1
            simp (disch := omega) only [pw_lt, pw_cb, pw_cbx, pw_cbxr, pw_lit, pw_litL, pw_oi, pw_oim, pw_oi8, pw_m, pw_ldI, pw_ldL, pw_ldR, pw_stI, pw_stL, pw_nz, pw_ltI, pw_leI, pw_eqI, pw_eqm, pw_eqm2, pw_ltm, pw_mlt, pw_lem, pw_mle, pw_mm, pw_dec, pw_nar0, pw_nar1, nI_add, pw_sub, pw_mul, pw_and, pw_or, pw_andn, pw_shl1, pw_shl, pw_shr, pw_dv, nI_l, lN_i, Bool.false_eq_true, reduceCtorEq, if_false, if_true, ↓reduceIte, if_pos, if_neg]
            exact ok_some ⟨rfl, cq5⟩
          · have hw := c_weightOf (h := h5) (s := gG (h.1 153) (h.1 159) b) H R5.1.2.1 R5.2.2.2.2.1 (by have := gG_lt (T := h.1 159) H b; omega)
            have hwd : wt (h.1 153) (gG (h.1 153) (h.1 159) b) = wG (h.1 153) (h.1 159) b := rfl
            rw [hwd] at hw
            simp (disch := omega) only [pw_lt, pw_cb, pw_cbx, pw_cbxr, pw_lit, pw_litL, pw_oi, pw_oim, pw_oi8, pw_m, pw_ldI, pw_ldL, pw_ldR, pw_stI, pw_stL, pw_nz, pw_ltI, pw_leI, pw_eqI, pw_eqm, pw_eqm2, pw_ltm, pw_mlt, pw_lem, pw_mle, pw_mm, pw_dec, pw_nar0, pw_nar1, nI_add, pw_sub, pw_mul, pw_and, pw_or, pw_andn, pw_shl1, pw_shl, pw_shr, pw_dv, nI_l, lN_i, Bool.false_eq_true, reduceCtorEq, if_false, if_true, ↓reduceIte, if_pos, if_neg, m1, r_0_2, hw]
            exact ok_some ⟨rfl, cq5⟩
    · unfold f_X12_most
      simp only [pw_lt, pw_lit, pw_litL, pw_m, hew, pw_cb, bI_0', Bool.true_eq_false, if_false]
      refine ok_cb (e_lays (RX_pI R2)) ?_
      rintro r h3 ⟨e3, G⟩
      have hv : h3.1 152 5 = nI 0 := by rw [lays_th e3 (by decide), th_pI]
      have hq : RQ h2 h3 := RQ_lays RQ_th e3
      refine e_most_lp G ?_
      unfold moV
      cases hbs : mB (h.1 153) (h.1 159) with
      | none =>
        simp (disch := omega) only [pw_lt, pw_cb, pw_cbx, pw_cbxr, pw_lit, pw_litL, pw_oi, pw_oim, pw_oi8, pw_m, pw_ldI, pw_ldL, pw_ldR, pw_stI, pw_stL, pw_nz, pw_ltI, pw_leI, pw_eqI, pw_eqm, pw_eqm2, pw_ltm, pw_mlt, pw_lem, pw_mle, pw_mm, pw_dec, pw_nar0, pw_nar1, nI_add, pw_sub, pw_mul, pw_and, pw_or, pw_andn, pw_shl1, pw_shl, pw_shr, pw_dv, nI_l, lN_i, Bool.false_eq_true, reduceCtorEq, if_false, if_true, ↓reduceIte, if_pos, if_neg, oI]
        exact ok_some ⟨⟨hv, rfl⟩, hq⟩
      | some b =>
        obtain ⟨hbl, hA⟩ := mB_ok H hbs
        have hGb := G.2.1 b hbl
        unfold GB at hGb
        rw [if_pos (of_decide_eq_true hA)] at hGb
        have hwb : f_X12_weight 152 (nI (gG (h.1 153) (h.1 159) b)) h3 = _ := e_weight (by rw [G.1.2.1]; exact H) (by have := gG_lt (T := h.1 159) H b; omega)
        have hwd : wt (h.1 153) (gG (h.1 153) (h.1 159) b) = wG (h.1 153) (h.1 159) b := rfl
        rw [G.1.2.1, hwd] at hwb
        by_cases m2 : m = 2
        · subst m2
          simp (disch := omega) only [pw_lt, pw_cb, pw_cbx, pw_cbxr, pw_lit, pw_litL, pw_oi, pw_oim, pw_oi8, pw_m, pw_ldI, pw_ldL, pw_ldR, pw_stI, pw_stL, pw_nz, pw_ltI, pw_leI, pw_eqI, pw_eqm, pw_eqm2, pw_ltm, pw_mlt, pw_lem, pw_mle, pw_mm, pw_dec, pw_nar0, pw_nar1, nI_add, pw_sub, pw_mul, pw_and, pw_or, pw_andn, pw_shl1, pw_shl, pw_shr, pw_dv, nI_l, lN_i, Bool.false_eq_true, reduceCtorEq, if_false, if_true, ↓reduceIte, if_pos, if_neg, oI]
          exact ok_some ⟨⟨hv, rfl⟩, hq⟩
        · by_cases m1 : m = 1
          · subst m1
            simp (disch := omega) only [pw_lt, pw_cb, pw_cbx, pw_cbxr, pw_lit, pw_litL, pw_oi, pw_oim, pw_oi8, pw_m, pw_ldI, pw_ldL, pw_ldR, pw_stI, pw_stL, pw_nz, pw_ltI, pw_leI, pw_eqI, pw_eqm, pw_eqm2, pw_ltm, pw_mlt, pw_lem, pw_mle, pw_mm, pw_dec, pw_nar0, pw_nar1, nI_add, pw_sub, pw_mul, pw_and, pw_or, pw_andn, pw_shl1, pw_shl, pw_shr, pw_dv, nI_l, lN_i, Bool.false_eq_true, reduceCtorEq, if_false, if_true, ↓reduceIte, if_pos, if_neg, oI, r_152_21, hGb]
            exact ok_some ⟨⟨hv, rfl⟩, hq⟩
          · have m0 : m = 0 := by omega
            subst m0
            simp (disch := omega) only [pw_lt, pw_cb, pw_cbx, pw_cbxr, pw_lit, pw_litL, pw_oi, pw_oim, pw_oi8, pw_m, pw_ldI, pw_ldL, pw_ldR, pw_stI, pw_stL, pw_nz, pw_ltI, pw_leI, pw_eqI, pw_eqm, pw_eqm2, pw_ltm, pw_mlt, pw_lem, pw_mle, pw_mm, pw_dec, pw_nar0, pw_nar1, nI_add, pw_sub, pw_mul, pw_and, pw_or, pw_andn, pw_shl1, pw_shl, pw_shr, pw_dv, nI_l, lN_i, Bool.false_eq_true, reduceCtorEq, if_false, if_true, ↓reduceIte, if_pos, if_neg, oI, r_152_21, hGb, hwb]
            exact ok_some ⟨⟨hv, rfl⟩, hq⟩
  · refine PC_q (.inr 0) ?_ (fun h2 R2 I2 k2 => ?_)
    · unfold f_X11_most
      simp only [pw_lit, c_checkWhat1 (h := h) (n := 2) (by decide) q, pw_cbxr]
      exact ok_some ⟨rfl, CQ_rfl I⟩
    · have hew : ∀ h3 : PH, f_X12_within a.toInt64 (lN 0) (lN 2) h3 = some (bI false, h3) := fun h3 => e_withinI1 (by decide) q
      unfold f_X12_most
      simp only [pw_lt, pw_lit, pw_litL, hew, pw_cb, bI_0', if_true, e_fails]
      exact ok_some ⟨⟨(0, 1), rfl, by decide, th_pI⟩, r_fails⟩
set_option maxRecDepth 16384 in
theorem INV.fw {h : PH} (I : INV h) : FW (h.1 153) (h.1 159) h := ⟨I.fc, I.op, I.2.2.2.1.2.2.2.1⟩
set_option maxRecDepth 16384 in
theorem e_sky {K T : Nat → Int32} {h : PH} {a : Int32} (R : RX K T h) (q : inN (ga K + 1) a) : f_X12_isSky 152 a.toInt64 h = some (bI true, h) := by
  have hb := rk_b R.1
  have := e_isSky (h := h) (v := a.toInt64) (by rw [R.2.1]; exact R.1)
  rw [R.2.1, (in_nI (by omega)).mpr (inN_le.mp q)] at this
  exact this
set_option maxRecDepth 16384 in
theorem e_sky1 {K T : Nat → Int32} {h : PH} {a : Int32} (R : RX K T h) (q : ¬ inN (ga K + 1) a) : f_X12_isSky 152 a.toInt64 h = some (bI false, h) := by
  have hb := rk_b R.1
  have := e_isSky (h := h) (v := a.toInt64) (by rw [R.2.1]; exact R.1)
  rw [R.2.1] at this
  rw [this]
  cases hb2 : (decide (0 ≤ a.toInt64) && decide (a.toInt64 ≤ lN (ga K)))
  · rfl
  · exact absurd (inN_le.mpr ((in_nI (by omega)).mp hb2)) q
set_option maxRecDepth 16384 in
theorem call_weather {h : PH} {a : Int32} (I : INV h) : PC hs_L_weather (f_X11_weather 0 a) (f_X12_weather 152 a) h := by
  have H := I.1.1
  have hb := rk_b H
  by_cases q : inN (ga (h.1 153) + 1) a
  · have hcc := c_checkCells I q
    obtain ⟨p, hp, rfl⟩ := id q
    refine PC_q (.inl (nI (wx (h.1 153) p))) ?_ (fun h2 R2 I2 k2 => ?_)
    · unfold f_X11_weather
      simp only [hcc, pw_cbx, r_0_2, c_weatherOf H I.fc.2.1 (show p ≤ ga (h.1 153) by omega), pw_cb]
      exact ok_some ⟨rfl, CQ_rfl I⟩
    · have R3 := RX_pI (j := 5) (v := nI 0) R2
      have hw := R3.2.2.2.2 p (by omega)
      unfold f_X12_weather
      simp only [pw_lt, pw_lit]
      rw [e_sky R3 q]
      simp (disch := omega) only [pw_lt, pw_cb, pw_cbx, pw_cbxr, pw_lit, pw_litL, pw_oi, pw_oim, pw_oi8, pw_m, pw_ldI, pw_ldL, pw_ldR, pw_stI, pw_stL, pw_nz, pw_ltI, pw_leI, pw_eqI, pw_eqm, pw_eqm2, pw_ltm, pw_mlt, pw_lem, pw_mle, pw_mm, pw_dec, pw_nar0, pw_nar1, nI_add, pw_sub, pw_mul, pw_and, pw_or, pw_andn, pw_shl1, pw_shl, pw_shr, pw_dv, nI_l, lN_i, Bool.false_eq_true, reduceCtorEq, if_false, if_true, ↓reduceIte, if_pos, if_neg, bI_0', r_152_19, hw]
      exact ok_some ⟨⟨th_pI, rfl⟩, RQ_th⟩
  · refine PC_q (.inr 0) ?_ (fun h2 R2 I2 k2 => ?_)
    · unfold f_X11_weather
      simp only [c_checkCells1 I q, pw_cbxr]
      exact ok_some ⟨rfl, CQ_rfl I⟩
    · unfold f_X12_weather
      simp only [pw_lt, pw_lit]
      rw [e_sky1 (RX_pI R2) q]
      simp (disch := omega) only [pw_lt, pw_cb, pw_cbx, pw_cbxr, pw_lit, pw_litL, pw_oi, pw_oim, pw_oi8, pw_m, pw_ldI, pw_ldL, pw_ldR, pw_stI, pw_stL, pw_nz, pw_ltI, pw_leI, pw_eqI, pw_eqm, pw_eqm2, pw_ltm, pw_mlt, pw_lem, pw_mle, pw_mm, pw_dec, pw_nar0, pw_nar1, nI_add, pw_sub, pw_mul, pw_and, pw_or, pw_andn, pw_shl1, pw_shl, pw_shr, pw_dv, nI_l, lN_i, Bool.false_eq_true, reduceCtorEq, if_false, if_true, ↓reduceIte, if_pos, if_neg, bI_0', e_fails]
      exact ok_some ⟨⟨(0, 1), rfl, by decide, th_pI⟩, r_fails⟩
set_option maxRecDepth 16384 in
theorem e_grI {K T : Nat → Int32} {h : PH} {p : Nat} (R : RX K T h) : f_X12_grantedIn 152 (nI (wx K p)) h = some (nI (gG K T p), h) := by
  obtain ⟨H, r1, r2, r3, r4⟩ := R
  have := e_grantedIn (h := h) (w := wx K p) (by rw [r1]; exact H) (by rw [r1, r2]; exact r3) (by rw [r1]; exact wx_le K p)
  rw [r1, r2] at this
  exact this
set_option maxRecDepth 16384 in
theorem call_granted {h : PH} {a : Int32} (I : INV h) : PC hs_L_granted (f_X11_granted 0 a) (f_X12_granted 152 a) h := by
  have H := I.1.1
  have hb := rk_b H
  by_cases q : inN (ga (h.1 153) + 1) a
  · have hcc := c_checkCells I q
    obtain ⟨p, hp, rfl⟩ := id q
    refine PC_q (.inl (nI (gG (h.1 153) (h.1 159) p))) ?_ (fun h2 R2 I2 k2 => ?_)
    · unfold f_X11_granted
      simp only [hcc, pw_cbx, r_0_6, r_0_5, I.op]
      refine ok_cb (c_gG I.fc (by omega)) ?_
      rintro r h3 ⟨rfl, e3, F3⟩
      exact ok_some ⟨rfl, CQ_fc I e3 F3⟩
    · have R3 := RX_pI (j := 5) (v := nI 0) R2
      have hw := R3.2.2.2.2 p (by omega)
      unfold f_X12_granted
      simp only [pw_lt, pw_lit]
      rw [e_sky R3 q]
      simp (disch := omega) only [pw_lt, pw_cb, pw_cbx, pw_cbxr, pw_lit, pw_litL, pw_oi, pw_oim, pw_oi8, pw_m, pw_ldI, pw_ldL, pw_ldR, pw_stI, pw_stL, pw_nz, pw_ltI, pw_leI, pw_eqI, pw_eqm, pw_eqm2, pw_ltm, pw_mlt, pw_lem, pw_mle, pw_mm, pw_dec, pw_nar0, pw_nar1, nI_add, pw_sub, pw_mul, pw_and, pw_or, pw_andn, pw_shl1, pw_shl, pw_shr, pw_dv, nI_l, lN_i, Bool.false_eq_true, reduceCtorEq, if_false, if_true, ↓reduceIte, if_pos, if_neg, bI_0', r_152_19, hw, e_grI R3]
      exact ok_some ⟨⟨th_pI, rfl⟩, RQ_th⟩
  · refine PC_q (.inr 0) ?_ (fun h2 R2 I2 k2 => ?_)
    · unfold f_X11_granted
      simp only [c_checkCells1 I q, pw_cbxr]
      exact ok_some ⟨rfl, CQ_rfl I⟩
    · unfold f_X12_granted
      simp only [pw_lt, pw_lit]
      rw [e_sky1 (RX_pI R2) q]
      simp (disch := omega) only [pw_lt, pw_cb, pw_cbx, pw_cbxr, pw_lit, pw_litL, pw_oi, pw_oim, pw_oi8, pw_m, pw_ldI, pw_ldL, pw_ldR, pw_stI, pw_stL, pw_nz, pw_ltI, pw_leI, pw_eqI, pw_eqm, pw_eqm2, pw_ltm, pw_mlt, pw_lem, pw_mle, pw_mm, pw_dec, pw_nar0, pw_nar1, nI_add, pw_sub, pw_mul, pw_and, pw_or, pw_andn, pw_shl1, pw_shl, pw_shr, pw_dv, nI_l, lN_i, Bool.false_eq_true, reduceCtorEq, if_false, if_true, ↓reduceIte, if_pos, if_neg, bI_0', e_fails]
      exact ok_some ⟨⟨(0, 1), rfl, by decide, th_pI⟩, r_fails⟩
/-! why -/
set_option maxRecDepth 16384 in
theorem c_wy {h : PH} {K T : Nat → Int32} {p : Nat} (F : FC K T h) (hp : p ≤ ga K) : ok (f_X3_whyNot 30 (lN p) (nI (gv K 7)) h) (fun r h' => r = nI (wy K T p) ∧ eqx [31, 32] h h' ∧ FC K T h') := by
  have hb := rk_b F.1
  refine ok_mono (c_whyNot (o := gv K 7) F hp (by omega)) ?_
  rintro r h' ⟨rfl, e, F2⟩
  exact ⟨congrArg nI (wyo_wy F.1 p), e, F2⟩
set_option maxRecDepth 16384 in
theorem c_wy1 {h : PH} {K T : Nat → Int32} {v : Int64} {o : Int32} (F : FC K T h) (q : ¬ ∃ k, k ≤ ga K ∧ v = lN k) : f_X3_whyNot 30 v o h = some (nI 1, h) := by
  have hb := rk_b F.1
  have s8 := F.2.1.2.2.2.2.2.2.2.2.1
  have e1 : (nI (ga K)).toInt64 = lN (ga K) := nI_l (by omega)
  unfold f_X3_whyNot
  simp only [pw_lt, pw_lit, pw_litL, r_30_0, s8, e1]
  by_cases c1 : lg_cmp v (lN 0) < nI 0
  · rw [if_pos c1]
  · rw [if_neg c1]
    by_cases c2 : lg_cmp v (lN (ga K)) ≤ nI 0
    · exfalso
      apply q
      refine (in_lN (by omega)).mp ?_
      simp only [Bool.and_eq_true, decide_eq_true_eq]
      refine ⟨?_, (lg_cmp_le _ _).mp c2⟩
      exact Int64.not_lt.mp (fun z => c1 ((lg_cmp_lt _ _).mpr z))
    · rw [if_neg c2]
set_option maxRecDepth 16384 in
theorem a64 {a : Int32} {n : Nat} (hn : n < 2147483648) : (∃ k, k ≤ n ∧ a.toInt64 = lN k) → inN (n + 1) a := by
  intro q
  exact inN_le.mpr ((in_nI hn).mp ((in_lN hn).mpr q))
set_option maxRecDepth 16384 in
theorem call_why {h : PH} {a : Int32} (I : INV h) : PN (f_X11_why 0 a) (f_X12_why 152 a) h := by
  have H := I.1.1
  have hb := rk_b H
  by_cases q : inN (ga (h.1 153) + 1) a
  · obtain ⟨p, hp, rfl⟩ := q
    have e1 : (nI p).toInt64 = lN p := nI_l (by omega)
    refine PN_q (nI (wy (h.1 153) (h.1 159) p)) ?_ (fun h2 R2 I2 k2 => ?_)
    · unfold f_X11_why
      rw [e1, r_0_6, r_0_5, I.op]
      refine ok_cb (c_wy I.fc (by omega)) ?_
      rintro r h3 ⟨rfl, e3, F3⟩
      exact ok_some ⟨rfl, CQ_fc I e3 F3⟩
    · unfold f_X12_why
      simp only [pw_lt, pw_lit]
      rw [e1, e_wy (RX_pI R2) (by omega)]
      exact ok_some ⟨rfl, RQ_th⟩
  · have hq : ¬ ∃ k, k ≤ ga (h.1 153) ∧ a.toInt64 = lN k := fun z => q (a64 (by omega) z)
    refine PN_q (nI 1) ?_ (fun h2 R2 I2 k2 => ?_)
    · unfold f_X11_why
      rw [r_0_6, r_0_5, c_wy1 I.fc hq]
      exact ok_some ⟨rfl, CQ_rfl I⟩
    · unfold f_X12_why
      simp only [pw_lt, pw_lit]
      rw [e_wy1 (RX_pI R2) hq]
      exact ok_some ⟨rfl, RQ_th⟩
/-! by chance -/
set_option maxRecDepth 16384 in
theorem call_expected {h : PH} {a b : Int32} (I : INV h) : PC hs_L_expected (f_X11_expected 0 a b) (f_X12_expected 152 a b) h := by
  have H := I.1.1
  have hb := rk_b H
  have hfail : ∀ h2 : PH, ok (cb (f_X12_fails 152 (nI 1) (pI h2 152 5 (nI 0))) (fun r5 h6 => some (r5.toInt64, h6))) (fun b h3 => agr hs_L_expected (.inr 0 : Int64 ⊕ Nat) (h3.1 152 5) b ∧ RQ h2 h3) := fun h2 => by
    rw [e_fails]
    exact ok_some ⟨⟨(0, 1), rfl, by decide, th_pI⟩, r_fails⟩
  by_cases q : inN (ga (h.1 153) + 1) a
  · have hcc := c_checkCells I q
    obtain ⟨p, hp, rfl⟩ := id q
    have hpc := pc_le (show p < 4096 by omega)
    by_cases q4 : pc p ≤ 4
    · by_cases qh : inN 101 b
      · have hch := c_checkHundredths (h := h) qh
        have hew : ∀ h3 : PH, f_X12_within b.toInt64 (lN 0) (lN 100) h3 = some (bI true, h3) := fun h3 => e_withinI (by decide) qh
        obtain ⟨m, hm, rfl⟩ := qh
        refine PC_q (.inl (lN (En (h.1 153) (h.1 159) p m (p + 1)))) ?_ (fun h2 R2 I2 k2 => ?_)
        · unfold f_X11_expected
          simp (disch := omega) only [hcc, pw_cbx, e_bitCount, pw_cb, pw_lit, pw_leI, q4, if_true, hch, r_0_7]
          refine ok_cb (c_weightExpected I.fw (by omega) q4 (by omega)) ?_
          rintro r h3 ⟨rfl, e3, F3⟩
          exact ok_some ⟨rfl, CQ_fc I e3 F3⟩
        · have R3 := RX_pI (j := 5) (v := nI 0) R2
          have hex := e_expects (p := p) (hd := m) R3 (by omega) (by omega)
          unfold f_X12_expected
          simp only [pw_lt, pw_lit, pw_litL]
          rw [e_sky R3 q]
          have hew2 : ∀ h3 : PH, f_X12_within (lN m) (lN 0) (lN 100) h3 = some (bI true, h3) := fun h3 => by
            rw [← nI_l (show m < 2147483648 by omega)]
            exact hew h3
          simp (disch := omega) only [pw_lt, pw_cb, pw_cbx, pw_cbxr, pw_lit, pw_litL, pw_oi, pw_oim, pw_oi8, pw_m, pw_ldI, pw_ldL, pw_ldR, pw_stI, pw_stL, pw_nz, pw_ltI, pw_leI, pw_eqI, pw_eqm, pw_eqm2, pw_ltm, pw_mlt, pw_lem, pw_mle, pw_mm, pw_dec, pw_nar0, pw_nar1, nI_add, pw_sub, pw_mul, pw_and, pw_or, pw_andn, pw_shl1, pw_shl, pw_shr, pw_dv, nI_l, lN_i, Bool.false_eq_true, reduceCtorEq, if_false, if_true, ↓reduceIte, bI_0', e_size, hew2, hex]
          rw [if_neg (by omega)]
          refine ok_some ?_
          refine And.intro ?_ RQ_th
          exact agr_l th_pI
      · refine PC_q (.inr 0) ?_ (fun h2 R2 I2 k2 => ?_)
        · unfold f_X11_expected
          simp (disch := omega) only [hcc, pw_cbx, e_bitCount, pw_cb, pw_lit, pw_leI, q4, if_true, c_checkHundredths1 (h := h) qh, pw_cbxr]
          exact ok_some ⟨rfl, CQ_rfl I⟩
        · have R3 := RX_pI (j := 5) (v := nI 0) R2
          have hew : ∀ h3 : PH, f_X12_within b.toInt64 (lN 0) (lN 100) h3 = some (bI false, h3) := fun h3 => e_withinI1 (by decide) qh
          unfold f_X12_expected
          simp only [pw_lt, pw_lit, pw_litL]
          rw [e_sky R3 q]
          simp (disch := omega) only [pw_lt, pw_cb, pw_cbx, pw_cbxr, pw_lit, pw_litL, pw_oi, pw_oim, pw_oi8, pw_m, pw_ldI, pw_ldL, pw_ldR, pw_stI, pw_stL, pw_nz, pw_ltI, pw_leI, pw_eqI, pw_eqm, pw_eqm2, pw_ltm, pw_mlt, pw_lem, pw_mle, pw_mm, pw_dec, pw_nar0, pw_nar1, nI_add, pw_sub, pw_mul, pw_and, pw_or, pw_andn, pw_shl1, pw_shl, pw_shr, pw_dv, nI_l, lN_i, Bool.false_eq_true, reduceCtorEq, if_false, if_true, ↓reduceIte, bI_0', e_size, hew]
          rw [if_neg (by omega)]
          exact hfail h2
    · refine PC_q (.inr 0) ?_ (fun h2 R2 I2 k2 => ?_)
      · unfold f_X11_expected
        simp (disch := omega) only [hcc, pw_cbx, e_bitCount, pw_cb, pw_lit, pw_leI, q4, if_false]
        exact ok_some ⟨rfl, CQ_rfl I⟩
      · have R3 := RX_pI (j := 5) (v := nI 0) R2
        unfold f_X12_expected
        simp only [pw_lt, pw_lit, pw_litL]
        rw [e_sky R3 q]
        simp (disch := omega) only [pw_lt, pw_cb, pw_cbx, pw_cbxr, pw_lit, pw_litL, pw_oi, pw_oim, pw_oi8, pw_m, pw_ldI, pw_ldL, pw_ldR, pw_stI, pw_stL, pw_nz, pw_ltI, pw_leI, pw_eqI, pw_eqm, pw_eqm2, pw_ltm, pw_mlt, pw_lem, pw_mle, pw_mm, pw_dec, pw_nar0, pw_nar1, nI_add, pw_sub, pw_mul, pw_and, pw_or, pw_andn, pw_shl1, pw_shl, pw_shr, pw_dv, nI_l, lN_i, Bool.false_eq_true, reduceCtorEq, if_false, if_true, ↓reduceIte, bI_0', e_size]
        rw [if_pos (by omega)]
        exact hfail h2
  · refine PC_q (.inr 0) ?_ (fun h2 R2 I2 k2 => ?_)
    · unfold f_X11_expected
      simp only [c_checkCells1 I q, pw_cbxr]
      exact ok_some ⟨rfl, CQ_rfl I⟩
    · unfold f_X12_expected
      simp only [pw_lt, pw_lit, pw_litL]
      rw [e_sky1 (RX_pI R2) q]
      simp (disch := omega) only [pw_lt, pw_cb, pw_cbx, pw_cbxr, pw_lit, pw_litL, pw_oi, pw_oim, pw_oi8, pw_m, pw_ldI, pw_ldL, pw_ldR, pw_stI, pw_stL, pw_nz, pw_ltI, pw_leI, pw_eqI, pw_eqm, pw_eqm2, pw_ltm, pw_mlt, pw_lem, pw_mle, pw_mm, pw_dec, pw_nar0, pw_nar1, nI_add, pw_sub, pw_mul, pw_and, pw_or, pw_andn, pw_shl1, pw_shl, pw_shr, pw_dv, nI_l, lN_i, Bool.false_eq_true, reduceCtorEq, if_false, if_true, ↓reduceIte, bI_0']
      exact hfail h2
set_option maxRecDepth 16384 in
theorem call_bestChance {h : PH} {b : Int32} (I : INV h) : PC hs_L_bestChance (f_X11_bestChance 0 b) (f_X12_bestChance 152 b) h := by
  have H := I.1.1
  by_cases qh : inN 101 b
  · have hch := c_checkHundredths (h := h) qh
    have hew : ∀ h3 : PH, f_X12_within b.toInt64 (lN 0) (lN 100) h3 = some (bI true, h3) := fun h3 => e_withinI (by decide) qh
    obtain ⟨m, hm, rfl⟩ := qh
    refine PC_q (.inl (oI (bcR (h.1 153) (h.1 159) m))) ?_ (fun h2 R2 I2 k2 => ?_)
    · unfold f_X11_bestChance
      simp only [hch, pw_cbx, r_0_7]
      refine ok_cb (c_set I) ?_
      rintro r h1 ⟨cq, R⟩
      refine ok_cb (c_bestByChance R (by omega)) ?_
      rintro r2 h3 ⟨rfl, e3, R3⟩
      have F3 : FC (h1.1 153) (h1.1 159) h3 := by rw [cq.k, cq.t]; exact R3.1
      exact ok_some ⟨rfl, CQ_trans cq (CQ_fc cq.2 e3 F3)⟩
    · unfold f_X12_bestChance
      simp only [pw_lt, pw_lit, pw_litL, pw_m, hew, pw_cb, bI_0', Bool.true_eq_false, if_false]
      rw [e_bestChance_lp (RX_pI R2) (by omega)]
      exact ok_some ⟨⟨th_pI, rfl⟩, RQ_th⟩
  · refine PC_q (.inr 0) ?_ (fun h2 R2 I2 k2 => ?_)
    · unfold f_X11_bestChance
      simp only [c_checkHundredths1 (h := h) qh, pw_cbxr]
      exact ok_some ⟨rfl, CQ_rfl I⟩
    · have hew : ∀ h3 : PH, f_X12_within b.toInt64 (lN 0) (lN 100) h3 = some (bI false, h3) := fun h3 => e_withinI1 (by decide) qh
      unfold f_X12_bestChance
      simp only [pw_lt, pw_lit, pw_litL, hew, pw_cb, bI_0', if_true, e_fails]
      exact ok_some ⟨⟨(0, 1), rfl, by decide, th_pI⟩, r_fails⟩

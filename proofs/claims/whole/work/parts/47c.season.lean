set_option maxRecDepth 16384 in
theorem e_season_lp {K T : Nat → Int32} {h : PH} {x : Int32} {m : Nat} (G : GK K) (R : RX K T h) (hx : h.1 152 34 = x) (hg : 0 < gc K) (hm : m ≤ 30) : ok (lp (b_X12_season_53 152 (nI m)) FU (nI 0, nI 0) h) (fun y h' => y = nI (seK K T x m).2.1 ∧ h'.1 152 5 = h.1 152 5 ∧ eqx [152, 153] h h' ∧ f152 h h' ∧ h'.1 153 = (seK K T x m).2.2) := by
  have hb := rk_b G.1
  refine lp_ok (fun n s h1 => n ≤ m ∧ s = (nI (seK K T x (m - n)).2.1, nI (m - n)) ∧ h1.1 152 34 = (seK K T x (m - n)).1 ∧ RX (seK K T x (m - n)).2.2 T h1 ∧ h1.1 152 5 = h.1 152 5 ∧ eqx [152, 153] h h1 ∧ f152 h h1) ?_ FU m _ h ⟨Nat.le_refl _, by rw [Nat.sub_self]; rfl, by rw [Nat.sub_self]; exact hx, by rw [Nat.sub_self]; exact R, rfl, eqx_rfl _ _, f152_rfl _⟩ (fu_lt (by omega))
  rintro n rec s h1 ⟨hn, rfl, x1, R1, t1, e1, f1⟩ hrec
  unfold b_X12_season_53
  by_cases h0 : n = 0
  · subst h0
    simp (disch := omega) only [pw_lt, pw_cb, pw_cbx, pw_cbxr, pw_lit, pw_litL, pw_oi, pw_oim, pw_oi8, pw_m, pw_ldI, pw_ldL, pw_ldR, pw_stI, pw_stL, pw_nz, pw_ltI, pw_leI, pw_eqI, pw_eqm, pw_eqm2, pw_ltm, pw_mlt, pw_lem, pw_mle, pw_mm, pw_dec, pw_nar0, pw_nar1, nI_add, pw_sub, pw_mul, pw_and, pw_or, pw_andn, pw_shl1, pw_shl, pw_shr, pw_dv, nI_l, lN_i, Bool.false_eq_true, reduceCtorEq, if_false, if_true, ↓reduceIte, if_pos, if_neg, Nat.sub_zero, Nat.le_refl]
    rw [Nat.sub_zero] at R1
    exact ok_some ⟨rfl, t1, e1, f1, R1.2.1⟩
  · generalize hk : m - n = k at *
    have e9 : m - (n - 1) = k + 1 := by omega
    obtain ⟨gk, sk, lk⟩ := seK_ok (T := T) (x := x) G k
    have hse : seK K T x (k + 1) = if wy (seK K T x k).2.2 T (pnS K (seK K T x k).1) = 0 then (nxS K (seK K T x k).1, (seK K T x k).2.1 + 1, NK (seK K T x k).2.2 T (pnS K (seK K T x k).1)) else (nxS K (seK K T x k).1, (seK K T x k).2.1, (seK K T x k).2.2) := rfl
    have hrec := fun s h2 (a : s = (nI (seK K T x (k + 1)).2.1, nI (k + 1))) (b : h2.1 152 34 = (seK K T x (k + 1)).1) (c : RX (seK K T x (k + 1)).2.2 T h2) (d : h2.1 152 5 = h.1 152 5) (e : eqx [152, 153] h h2) (f : f152 h h2) => hrec (n - 1) s h2 (by omega) ⟨by omega, by rw [e9]; exact a, by rw [e9]; exact b, by rw [e9]; exact c, d, e, f⟩
    rw [hse] at hrec
    generalize seK K T x k = q at *
    obtain ⟨y, mm, K1⟩ := q
    have hga : ga K1 = ga K := ga_same sk
    have hgc : gc K1 = gc K := gc_same sk
    have h3 : gv K1 3 = gv K 3 := gv_same sk (by omega)
    have s3 : h1.1 153 3 = nI (gv K 3) := by rw [R1.2.1, ← h3]; exact (rk_e gk.1).2.2.2.1
    have hml := Nat.mod_lt (t16 (dr y)) (show 0 < gv K 3 + 1 by omega)
    have hdw := e_draw (h := h1) (x := y) (m := gv K 3 + 1) (by omega) (by omega) x1
    have hpu : t16 (dr y) % (gv K 3 + 1) = puS K y := rfl
    rw [hpu] at hdw hml
    simp (disch := omega) only [pw_leI]
    rw [if_neg (by omega)]
    refine ok_lt ?_
    simp (disch := omega) only [pw_lit, r_152_0, pw_ldI, s3, nI_add]
    rw [hdw]
    simp only [pw_cb]
    have R2 : RX K1 T (pI h1 152 34 (dr y)) := RX_pI R1
    refine ok_lt (ok_joinT (fun a h2 => a = nI (pnS K y) ∧ h2.1 152 34 = nxS K y ∧ RX K1 T h2 ∧ h2.1 152 5 = h.1 152 5 ∧ eqx [152, 153] h h2 ∧ f152 h h2) ?_ (fun j hj => ?_))
    · rintro a h2 ⟨rfl, x2, R2, t2, e2, f2⟩
      have hpl := plS_lt hg (dr y) (puS K y)
      have hpl : pnS K y < 2 ^ gc K := hpl
      have hpa : pnS K y ≤ ga K := by have := hb.2.2.2.2.2.2.2.2.2.2; omega
      have e64 : (nI (pnS K y)).toInt64 = lN (pnS K y) := nI_l (by omega)
      have hwl := wy_le K1 T (pnS K y)
      rw [e64, e_wy R2 (by rw [hga]; exact hpa)]
      simp only [pw_cb]
      by_cases hz : wy K1 T (pnS K y) = 0
      · rw [if_pos hz] at hrec
        rw [hz]
        simp only [if_true, pw_lt]
        refine e_nightR ⟨gk, R2⟩ (by rw [hga]; exact hpa) (fun h4 e4 S4 => ?_)
        simp (disch := omega) only [pw_lt, pw_cb, pw_cbx, pw_cbxr, pw_lit, pw_litL, pw_oi, pw_oim, pw_oi8, pw_m, pw_ldI, pw_ldL, pw_ldR, pw_stI, pw_stL, pw_nz, pw_ltI, pw_leI, pw_eqI, pw_eqm, pw_eqm2, pw_ltm, pw_mlt, pw_lem, pw_mle, pw_mm, pw_dec, pw_nar0, pw_nar1, nI_add, pw_sub, pw_mul, pw_and, pw_or, pw_andn, pw_shl1, pw_shl, pw_shr, pw_dv, nI_l, lN_i, Bool.false_eq_true, reduceCtorEq, if_false, if_true, ↓reduceIte, if_pos, if_neg]
        exact hrec _ h4 rfl (by rw [(e4 152 (by decide)).1]; exact x2) S4.2 (by rw [lays_th e4 (by decide)]; exact t2) (eqx_trans e2 (eqx_mono e4 (by decide))) (f152_trans f2 (f152_eq e4 (by decide)))
      · rw [if_neg hz] at hrec
        simp (disch := omega) only [pw_eqI, hz, if_false, pw_lt]
        simp (disch := omega) only [pw_lt, pw_cb, pw_cbx, pw_cbxr, pw_lit, pw_litL, pw_oi, pw_oim, pw_oi8, pw_m, pw_ldI, pw_ldL, pw_ldR, pw_stI, pw_stL, pw_nz, pw_ltI, pw_leI, pw_eqI, pw_eqm, pw_eqm2, pw_ltm, pw_mlt, pw_lem, pw_mle, pw_mm, pw_dec, pw_nar0, pw_nar1, nI_add, pw_sub, pw_mul, pw_and, pw_or, pw_andn, pw_shl1, pw_shl, pw_shr, pw_dv, nI_l, lN_i, Bool.false_eq_true, reduceCtorEq, if_false, if_true, ↓reduceIte, if_pos, if_neg]
        exact hrec _ h2 rfl x2 R2 t2 e2 f2
    · refine e_draws (x := dr y) (n := puS K y) R2 pw_pIs (by rw [hgc]; exact hg) (by omega) (fun h2 R3 x3 e3 f3 t3 => ?_)
      rw [hgc]
      refine hj _ h2 ⟨rfl, x3, R3, ?_, ?_, ?_⟩
      · rw [t3, pw_pIo (by omega)]
        exact t1
      · exact eqx_trans e1 (eqx_trans (eqx_pI (by decide)) (eqx_mono e3 (by decide)))
      · exact f152_trans f1 (f152_trans (f152_pI (by decide) (by decide) (by decide)) f3)
set_option maxRecDepth 16384 in
theorem gc_pos {K : Nat → Int32} (H : RK K) (h : gv K 1 ≠ 0) : 0 < gc K := by
  have h2 : gv K 2 ≠ 0 := fun q => h (H.2.2.2.2.2.2.2.2.2.2.1.mpr q)
  exact Nat.mul_pos (by omega) (by omega)
set_option maxRecDepth 16384 in
theorem call_season {h : PH} {a b : Int32} (I : INV h) : PC hs_L_season (f_X11_season 0 a b) (f_X12_season 152 a b) h := by
  have H := I.1.1
  have hb := rk_b H
  have s7 : h.1 3 7 = nI (gc (h.1 153)) := I.2.2.2.1.1.2.2.2.2.2.2.2.1
  have hk1 := (rk_e H).2.1
  have hg0 : gc (h.1 153) = gv (h.1 153) 1 * gv (h.1 153) 2 := rfl
  by_cases q : inR 1 30 b
  · have hew : ∀ h3 : PH, f_X12_within b.toInt64 (lN 1) (lN 30) h3 = some (bI true, h3) := fun h3 => e_withinR (by decide) (by decide) q
    obtain ⟨m, m1, m2, rfl⟩ := q
    by_cases hz : gv (h.1 153) 1 = 0
    · have hgz : gc (h.1 153) = 0 := by rw [hg0, hz, Nat.zero_mul]
      refine PC_q (.inr 2) ?_ (fun h2 R2 I2 k2 => ?_)
      · unfold f_X11_season
        refine ok_join (fun _ => False) (fun _ q => q.elim) (fun j hj => ?_)
        simp (disch := omega) only [pw_lit, pw_ltI, pw_leI, if_pos, if_neg, r_0_2, s7, hgz]
        exact ok_some ⟨rfl, CQ_rfl I⟩
      · have v1 : h2.1 153 1 = nI 0 := by rw [k2, hk1, hz]
        unfold f_X12_season
        simp only [pw_lit, pw_litL, hew, pw_cb]
        refine ok_joinT (fun t h4 => t = nI 2 ∧ h4 = h2) ?_ (fun j hj => ?_)
        · rintro t h4 ⟨rfl, rfl⟩
          refine ok_lt ?_
          simp only [pw_lit, th_pI]
          rw [if_neg (by decide)]
          exact ok_some ⟨⟨(2, 2), rfl, by decide, th_pI⟩, RQ_th⟩
        · simp (disch := omega) only [bI_0', Bool.true_eq_false, if_false, r_152_0, pw_ldI, v1, if_true]
          exact hj _ _ ⟨rfl, rfl⟩
    · have hg := gc_pos H hz
      obtain ⟨gs, ss, ls⟩ := seK_ok (T := h.1 159) (x := a) I.1 m
      refine PC_ch I (nI (seK (h.1 153) (h.1 159) a m).2.1) (seK (h.1 153) (h.1 159) a m).2.2 ss ?_ (fun h2 R2 => ?_)
      · unfold f_X11_season
        refine ok_join (fun _ => False) (fun _ q => q.elim) (fun j hj => ?_)
        simp (disch := omega) only [pw_lit, pw_ltI, pw_leI, if_pos, if_neg, r_0_2, s7, pw_eqI]
        refine ok_lt (ok_lt (ok_lt ?_))
        exact c_season_lp I.1 I.cs hg m2
      · have v1 : h2.1 153 1 = nI (gv (h.1 153) 1) := by rw [R2.2.1, hk1]
        unfold f_X12_season
        simp only [pw_lit, pw_litL, hew, pw_cb]
        refine ok_joinT (fun t h4 => t = nI 0 ∧ h4 = h2) ?_ (fun j hj => ?_)
        · rintro t h4 ⟨rfl, rfl⟩
          refine ok_lt ?_
          simp only [pw_lit, th_pI, Int32.le_refl, if_true]
          refine ok_lt (ok_lt (ok_lt ?_))
          refine ok_mono (e_season_lp (x := a) I.1 (RX_pI (RX_pI R2)) pw_pIs hg m2) ?_
          rintro y h3 ⟨rfl, t3, e3, f3, k3⟩
          refine ⟨rfl, ?_, eqx_trans (eqx_pI (by decide)) (eqx_trans (eqx_pI (by decide)) (eqx_mono e3 (by decide))), f152_trans (f152_pI (by decide) (by decide) (by decide)) (f152_trans (f152_pI (by decide) (by decide) (by decide)) f3), k3⟩
          rw [t3, pw_pIo (by omega), th_pI]
        · simp (disch := omega) only [bI_0', Bool.true_eq_false, if_false, r_152_0, pw_ldI, v1, pw_eqI, hz]
          exact hj _ _ ⟨rfl, rfl⟩
  · refine PC_q (.inr 0) ?_ (fun h2 R2 I2 k2 => ?_)
    · unfold f_X11_season
      refine ok_join (fun h1 => h1 = h) (fun h1 q1 => by rw [q1]; exact ok_some ⟨rfl, CQ_rfl I⟩) (fun j hj => ?_)
      simp only [pw_lit]
      rw [c_rngR (by decide) (by decide) q]
      exact hj _ rfl
    · have hew : ∀ h3 : PH, f_X12_within b.toInt64 (lN 1) (lN 30) h3 = some (bI false, h3) := fun h3 => e_withinR1 (by decide) (by decide) q
      unfold f_X12_season
      simp only [pw_lit, pw_litL, hew, pw_cb]
      refine ok_joinT (fun t h4 => t = nI 1 ∧ h4 = h2) ?_ (fun j hj => ?_)
      · rintro t h4 ⟨rfl, rfl⟩
        refine ok_lt ?_
        simp only [pw_lit, th_pI]
        rw [if_neg (by decide)]
        exact ok_some ⟨⟨(0, 1), rfl, by decide, th_pI⟩, RQ_th⟩
      · simp only [bI_0', if_true]
        exact hj _ _ ⟨rfl, rfl⟩

set_option maxRecDepth 16384 in
theorem r_0_2s : rt 0 2 = 3 := r_0_2
set_option maxRecDepth 16384 in
theorem c_season_lp {K T : Nat → Int32} {h : PH} {x : Int32} {m : Nat} (G : GK K) (C : CS K T h) (hg : 0 < gc K) (hm : m ≤ 30) : ok (lp (b_X11_season_51 0 (nI m)) FU (x, nI 0, nI 0) h) (fun (y : Int32 ⊕ Nat) h' => y = .inl (nI (seK K T x m).2.1) ∧ eqx cbS h h' ∧ CS (seK K T x m).2.2 T h') := by
  have hb := rk_b G.1
  refine lp_ok (fun n s h1 => n ≤ m ∧ s = ((seK K T x (m - n)).1, nI (seK K T x (m - n)).2.1, nI (m - n)) ∧ eqx cbS h h1 ∧ CS (seK K T x (m - n)).2.2 T h1) ?_ FU m _ h ⟨Nat.le_refl _, by rw [Nat.sub_self]; rfl, eqx_rfl _ _, by rw [Nat.sub_self]; exact C⟩ (fu_lt (by omega))
  rintro n rec s h1 ⟨hn, rfl, e1, C1⟩ hrec
  unfold b_X11_season_51
  by_cases h0 : n = 0
  · subst h0
    simp (disch := omega) only [pw_lt, pw_cb, pw_cbx, pw_cbxr, pw_lit, pw_litL, pw_oi, pw_oim, pw_oi8, pw_m, pw_ldI, pw_ldL, pw_ldR, pw_stI, pw_stL, pw_nz, pw_ltI, pw_leI, pw_eqI, pw_eqm, pw_eqm2, pw_ltm, pw_mlt, pw_lem, pw_mle, pw_mm, pw_dec, pw_nar0, pw_nar1, nI_add, pw_sub, pw_mul, pw_and, pw_or, pw_andn, pw_shl1, pw_shl, pw_shr, pw_dv, nI_l, lN_i, Bool.false_eq_true, reduceCtorEq, if_false, if_true, ↓reduceIte, if_pos, if_neg, Nat.sub_zero, Nat.le_refl]
    rw [Nat.sub_zero] at C1
    exact ok_some ⟨rfl, e1, C1⟩
  · generalize hk : m - n = k at *
    have e9 : m - (n - 1) = k + 1 := by omega
    obtain ⟨gk, sk, lk⟩ := seK_ok (T := T) (x := x) G k
    have hse : seK K T x (k + 1) = if wy (seK K T x k).2.2 T (pnS K (seK K T x k).1) = 0 then (nxS K (seK K T x k).1, (seK K T x k).2.1 + 1, NK (seK K T x k).2.2 T (pnS K (seK K T x k).1)) else (nxS K (seK K T x k).1, (seK K T x k).2.1, (seK K T x k).2.2) := rfl
    have hrec := fun s h2 (a : s = ((seK K T x (k + 1)).1, nI (seK K T x (k + 1)).2.1, nI (k + 1))) (b : eqx cbS h h2) (c : CS (seK K T x (k + 1)).2.2 T h2) => hrec (n - 1) s h2 (by omega) ⟨by omega, by rw [e9]; exact a, b, by rw [e9]; exact c⟩
    rw [hse] at hrec
    generalize seK K T x k = q at *
    obtain ⟨y, mm, K1⟩ := q
    have hga : ga K1 = ga K := ga_same sk
    have hgc : gc K1 = gc K := gc_same sk
    have h3 : gv K1 3 = gv K 3 := gv_same sk (by omega)
    have s3 : h1.1 3 3 = nI (gv K 3) := by rw [C1.fc.2.1.2.2.2.1, ← h3]; exact (rk_e gk.1).2.2.2.1
    have hdr : f_X11_drawn y h1 = some (dr y, h1) := rfl
    have hmd := md16 (x := dr y) (m := gv K 3 + 1) (by omega) (by omega)
    have hml := Nat.mod_lt (t16 (dr y)) (show 0 < gv K 3 + 1 by omega)
    simp (disch := omega) only [pw_leI]
    rw [if_neg (by omega), hdr]
    simp only [pw_cb]
    refine ok_lt ?_
    simp (disch := omega) only [pw_lit, r_0_2, s3, nI_add, pw_nz]
    have hmd : (dr y).toUInt32 >>> ((nI 16).toUInt32 &&& (nI 31).toUInt32) |>.toInt32 |> fun z => z - z / nI (gv K 3 + 1) * nI (gv K 3 + 1) = nI (t16 (dr y) % (gv K 3 + 1)) := hmd
    rw [hmd]
    have hpu : t16 (dr y) % (gv K 3 + 1) = puS K y := rfl
    rw [hpu]
    have hpul : puS K y < gv K 3 + 1 := hml
    refine ok_lt (ok_lt (ok_lt (ok_joinT2 (fun a b h2 => a = nxS K y ∧ b = nI (pnS K y) ∧ h2 = h1) ?_ (fun j hj => ?_))))
    · rintro a b h2 ⟨rfl, rfl, rfl⟩
      have hpl := plS_lt hg (dr y) (puS K y)
      have hpl : pnS K y < 2 ^ gc K := hpl
      have hpa : pnS K y ≤ ga K := by have := hb.2.2.2.2.2.2.2.2.2.2; omega
      have e64 : (nI (pnS K y)).toInt64 = lN (pnS K y) := nI_l (by omega)
      have hwl := wy_le K1 T (pnS K y)
      rw [e64, r_0_6, r_0_5, C1.op]
      refine ok_cb (c_wy C1.fc (by rw [hga]; exact hpa)) ?_
      rintro r h3' ⟨rfl, e3, F3⟩
      have C3 := C1.f e3 F3
      have e13 : eqx cbS h h3' := eqx_trans e1 (eqx_mono e3 (by decide))
      by_cases hz : wy K1 T (pnS K y) = 0
      · rw [if_pos hz] at hrec
        rw [hz]
        simp only [if_true, pw_lt]
        refine ok_cb (c_makeNight C3 (by rw [hga]; exact hpa)) ?_
        rintro r4 h4 ⟨-, e4, C4⟩
        simp (disch := omega) only [pw_lt, pw_cb, pw_cbx, pw_cbxr, pw_lit, pw_litL, pw_oi, pw_oim, pw_oi8, pw_m, pw_ldI, pw_ldL, pw_ldR, pw_stI, pw_stL, pw_nz, pw_ltI, pw_leI, pw_eqI, pw_eqm, pw_eqm2, pw_ltm, pw_mlt, pw_lem, pw_mle, pw_mm, pw_dec, pw_nar0, pw_nar1, nI_add, pw_sub, pw_mul, pw_and, pw_or, pw_andn, pw_shl1, pw_shl, pw_shr, pw_dv, nI_l, lN_i, Bool.false_eq_true, reduceCtorEq, if_false, if_true, ↓reduceIte, if_pos, if_neg]
        exact hrec _ h4 rfl (eqx_trans e13 e4) C4
      · rw [if_neg hz] at hrec
        simp (disch := omega) only [pw_eqI, hz, if_false, pw_lt]
        simp (disch := omega) only [pw_lt, pw_cb, pw_cbx, pw_cbxr, pw_lit, pw_litL, pw_oi, pw_oim, pw_oi8, pw_m, pw_ldI, pw_ldL, pw_ldR, pw_stI, pw_stL, pw_nz, pw_ltI, pw_leI, pw_eqI, pw_eqm, pw_eqm2, pw_ltm, pw_mlt, pw_lem, pw_mle, pw_mm, pw_dec, pw_nar0, pw_nar1, nI_add, pw_sub, pw_mul, pw_and, pw_or, pw_andn, pw_shl1, pw_shl, pw_shr, pw_dv, nI_l, lN_i, Bool.false_eq_true, reduceCtorEq, if_false, if_true, ↓reduceIte, if_pos, if_neg]
        exact hrec _ h3' rfl e13 C3
    · refine c_draws (K := K1) (T := T) (x := dr y) (n := puS K y) C1.fc (by rw [hgc]; exact hg) (by omega) ?_
      rw [hgc]
      exact hj _ _ _ ⟨rfl, rfl, rfl⟩
/-! the reference -/
set_option maxRecDepth 16384 in
theorem e_draw {h : PH} {x : Int32} {m : Nat} (h0 : 0 < m) (hm : m < 1000) (hx : h.1 152 34 = x) : f_X12_draw 152 (nI m) h = some (nI (t16 (dr x) % m), pI h 152 34 (dr x)) := by
  have hmd := md16 (x := dr x) h0 hm
  unfold f_X12_draw
  simp only [pw_lt, pw_lit, hx]
  rw [pw_nz h0 (by omega)]
  have e : (pI h 152 34 (nI 1103515245 * x + nI 12345)).1 152 34 = dr x := pw_pIs
  rw [e]
  have hmd : (dr x).toUInt32 >>> ((nI 16).toUInt32 &&& (nI 31).toUInt32) |>.toInt32 |> fun z => z - z / nI m * nI m = nI (t16 (dr x) % m) := hmd
  rw [hmd]
  rfl
set_option maxRecDepth 16384 in
theorem e_draws {K T : Nat → Int32} {h : PH} {x : Int32} {n : Nat} {Q : Int32 → PH → Prop} {j : Int32 → PH → Option (Int32 × PH)} (R : RX K T h) (hx : h.1 152 34 = x) (hg : 0 < gc K) (hn : n < 100) (hj : ∀ h', RX K T h' → h'.1 152 34 = dx x n → eqx [152] h h' → f152 h h' → h'.1 152 5 = h.1 152 5 → ok (j (nI (plS (gc K) x n)) h') Q) : ok (lp (b_X12_season_76 152 j) FU (nI 0, nI n) h) Q := by
  have hb := rk_b R.1
  refine lp_ok (fun k s h1 => k ≤ n ∧ s = (nI (plS (gc K) x (n - k)), nI k) ∧ RX K T h1 ∧ h1.1 152 34 = dx x (n - k) ∧ eqx [152] h h1 ∧ f152 h h1 ∧ h1.1 152 5 = h.1 152 5) ?_ FU n _ h ⟨Nat.le_refl _, by rw [Nat.sub_self]; rfl, R, by rw [Nat.sub_self]; exact hx, eqx_rfl _ _, f152_rfl _, rfl⟩ (fu_lt (by omega))
  rintro k rec s h1 ⟨hk, rfl, R1, x1, e1, f1, t1⟩ hrec
  unfold b_X12_season_76
  by_cases h0 : k = 0
  · subst h0
    rw [Nat.sub_zero] at x1 ⊢
    simp (disch := omega) only [pw_lt, pw_cb, pw_cbx, pw_cbxr, pw_lit, pw_litL, pw_oi, pw_oim, pw_oi8, pw_m, pw_ldI, pw_ldL, pw_ldR, pw_stI, pw_stL, pw_nz, pw_ltI, pw_leI, pw_eqI, pw_eqm, pw_eqm2, pw_ltm, pw_mlt, pw_lem, pw_mle, pw_mm, pw_dec, pw_nar0, pw_nar1, nI_add, pw_sub, pw_mul, pw_and, pw_or, pw_andn, pw_shl1, pw_shl, pw_shr, pw_dv, nI_l, lN_i, Bool.false_eq_true, reduceCtorEq, if_false, if_true, ↓reduceIte, if_pos, if_neg, Nat.le_refl]
    exact hj h1 R1 x1 e1 f1 t1
  · generalize hi : n - k = i at *
    have e9 : n - (k - 1) = i + 1 := by omega
    have hpl := plS_lt hg x i
    have hp2 : 2 ^ gc K ≤ 2 ^ 12 := Nat.pow_le_pow_right (by decide) hb.2.2.2.1
    have hml := Nat.mod_lt (t16 (dx x (i + 1))) hg
    have hce := e_cells (h := h1) (by rw [R1.2.1]; exact R1.1)
    rw [R1.2.1] at hce
    have hdw := e_draw (h := h1) (x := dx x i) (m := gc K) hg (by omega) x1
    have hdd : dr (dx x i) = dx x (i + 1) := rfl
    rw [hdd] at hdw
    simp (disch := omega) only [pw_lit, pw_leI]
    rw [if_neg (by omega), hce]
    simp only [pw_cb]
    rw [hdw]
    have hr := hrec (k - 1) (nI (plS (gc K) x (i + 1)), nI (k - 1)) (pI h1 152 34 (dx x (i + 1))) (by omega) ⟨by omega, by rw [e9], RX_pI R1, by rw [pw_pIs, e9], eqx_trans e1 (eqx_pI (by decide)), f152_trans f1 (f152_pI (by decide) (by decide) (by decide)), by rw [pw_pIo (by omega)]; exact t1⟩
    rw [plS] at hr
    simp (disch := omega) only [pw_lt, pw_cb, pw_cbx, pw_cbxr, pw_lit, pw_litL, pw_oi, pw_oim, pw_oi8, pw_m, pw_ldI, pw_ldL, pw_ldR, pw_stI, pw_stL, pw_nz, pw_ltI, pw_leI, pw_eqI, pw_eqm, pw_eqm2, pw_ltm, pw_mlt, pw_lem, pw_mle, pw_mm, pw_dec, pw_nar0, pw_nar1, nI_add, pw_sub, pw_mul, pw_and, pw_or, pw_andn, pw_shl1, pw_shr, pw_dv, nI_l, lN_i, Bool.false_eq_true, reduceCtorEq, if_false, if_true, ↓reduceIte, if_pos, if_neg]
    exact hr

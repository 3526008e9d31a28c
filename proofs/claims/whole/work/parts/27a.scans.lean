set_option maxRecDepth 16384 in
theorem e_heartsLp {K T : Nat → Int32} {h : PH} {u : Nat} (R : RG K T h) (hgu : u ≤ gv K 7) : lp (b_X12_heartsOf_26 152 (nI u)) FU (mI, nI 0) h = some (oI (bestP (giP K T u) (u + 1)), h) := by
  obtain ⟨⟨H, r1, r2, r3, r4⟩, g1, g2⟩ := R
  obtain ⟨b0, b1, b2, b3, b4, b5, b6, b7, b8, b9, b10⟩ := rk_b H
  have k7 : h.1 153 7 = nI (gv K 7) := by rw [r1]; exact (rk_e H).2.2.2.2.2.2.2
  refine lp_run (fun i => (oI (bestP (giP K T u) i), nI i)) (fun _ => h) (u + 1) _ ?_ ?_ FU (fu_lt (by omega))
  · intro i hi rec
    have hso := sdf_le (gv K 7) i
    have hat := g2 (sdf (gv K 7) i) (by omega)
    have hsd := sdf_le i u
    unfold b_X12_heartsOf_26
    by_cases h1 : sdf i u = 0
    · rcases tf (tg K T (sdf (gv K 7) i)) with h2 | h2
      · have hP : giP K T u i = false := by unfold giP; rw [h2, Bool.and_false]
        rw [h2] at hat
        simp (disch := omega) only [pw_lt, pw_cb, pw_cbx, pw_cbxr, pw_lit, pw_litL, pw_oi, pw_oim, pw_oi8, pw_m, pw_ldI, pw_ldL, pw_ldR, pw_stI, pw_stL, pw_nz, pw_ltI, pw_leI, pw_eqI, pw_eqm, pw_eqm2, pw_ltm, pw_mlt, pw_lem, pw_mle, pw_mm, pw_dec, pw_nar0, pw_nar1, nI_add, pw_sub, pw_mul, pw_and, pw_or, pw_andn, pw_shl1, pw_shl, pw_shr, pw_dv, nI_l, lN_i, Bool.false_eq_true, reduceCtorEq, if_false, if_true, ↓reduceIte, if_pos, if_neg, h1, hat, bI_0', bestP, hP, r_152_0, r_152_22, k7]
      · have hP : giP K T u i = true := by unfold giP; rw [decide_eq_true h1, h2]; rfl
        rw [h2] at hat
        cases hb : bestP (giP K T u) i with
        | none => simp (disch := omega) only [pw_lt, pw_cb, pw_cbx, pw_cbxr, pw_lit, pw_litL, pw_oi, pw_oim, pw_oi8, pw_m, pw_ldI, pw_ldL, pw_ldR, pw_stI, pw_stL, pw_nz, pw_ltI, pw_leI, pw_eqI, pw_eqm, pw_eqm2, pw_ltm, pw_mlt, pw_lem, pw_mle, pw_mm, pw_dec, pw_nar0, pw_nar1, nI_add, pw_sub, pw_mul, pw_and, pw_or, pw_andn, pw_shl1, pw_shl, pw_shr, pw_dv, nI_l, lN_i, Bool.false_eq_true, reduceCtorEq, if_false, if_true, ↓reduceIte, if_pos, if_neg, h1, hat, bI_0', bestP, hP, hb, oI, r_152_0, r_152_22, k7]
        | some b =>
          have hbl := best_lt (n := i) (by omega) hb
          have p1 := pc_le (show i < 4096 by omega)
          have p2 := pc_le (show b < 4096 by omega)
          by_cases h3 : pc i < pc b
          · simp (disch := omega) only [pw_lt, pw_cb, pw_cbx, pw_cbxr, pw_lit, pw_litL, pw_oi, pw_oim, pw_oi8, pw_m, pw_ldI, pw_ldL, pw_ldR, pw_stI, pw_stL, pw_nz, pw_ltI, pw_leI, pw_eqI, pw_eqm, pw_eqm2, pw_ltm, pw_mlt, pw_lem, pw_mle, pw_mm, pw_dec, pw_nar0, pw_nar1, nI_add, pw_sub, pw_mul, pw_and, pw_or, pw_andn, pw_shl1, pw_shl, pw_shr, pw_dv, nI_l, lN_i, Bool.false_eq_true, reduceCtorEq, if_false, if_true, ↓reduceIte, if_pos, if_neg, h1, hat, bI_0', bestP, hP, hb, oI, e_size, r_152_0, r_152_22, k7]
          · simp (disch := omega) only [pw_lt, pw_cb, pw_cbx, pw_cbxr, pw_lit, pw_litL, pw_oi, pw_oim, pw_oi8, pw_m, pw_ldI, pw_ldL, pw_ldR, pw_stI, pw_stL, pw_nz, pw_ltI, pw_leI, pw_eqI, pw_eqm, pw_eqm2, pw_ltm, pw_mlt, pw_lem, pw_mle, pw_mm, pw_dec, pw_nar0, pw_nar1, nI_add, pw_sub, pw_mul, pw_and, pw_or, pw_andn, pw_shl1, pw_shl, pw_shr, pw_dv, nI_l, lN_i, Bool.false_eq_true, reduceCtorEq, if_false, if_true, ↓reduceIte, if_pos, if_neg, h1, hat, bI_0', bestP, hP, hb, oI, e_size, r_152_0, r_152_22, k7]
    · have hP : giP K T u i = false := by unfold giP; rw [decide_eq_false h1, Bool.false_and]
      simp (disch := omega) only [pw_lt, pw_cb, pw_cbx, pw_cbxr, pw_lit, pw_litL, pw_oi, pw_oim, pw_oi8, pw_m, pw_ldI, pw_ldL, pw_ldR, pw_stI, pw_stL, pw_nz, pw_ltI, pw_leI, pw_eqI, pw_eqm, pw_eqm2, pw_ltm, pw_mlt, pw_lem, pw_mle, pw_mm, pw_dec, pw_nar0, pw_nar1, nI_add, pw_sub, pw_mul, pw_and, pw_or, pw_andn, pw_shl1, pw_shl, pw_shr, pw_dv, nI_l, lN_i, Bool.false_eq_true, reduceCtorEq, if_false, if_true, ↓reduceIte, if_pos, if_neg, h1, bestP, hP]
  · intro rec
    unfold b_X12_heartsOf_26
    simp (disch := omega) only [pw_lt, pw_cb, pw_cbx, pw_cbxr, pw_lit, pw_litL, pw_oi, pw_oim, pw_oi8, pw_m, pw_ldI, pw_ldL, pw_ldR, pw_stI, pw_stL, pw_nz, pw_ltI, pw_leI, pw_eqI, pw_eqm, pw_eqm2, pw_ltm, pw_mlt, pw_lem, pw_mle, pw_mm, pw_dec, pw_nar0, pw_nar1, nI_add, pw_sub, pw_mul, pw_and, pw_or, pw_andn, pw_shl1, pw_shl, pw_shr, pw_dv, nI_l, lN_i, Bool.false_eq_true, reduceCtorEq, if_false, if_true, ↓reduceIte, if_pos, if_neg]
set_option maxRecDepth 16384 in
theorem e_heartsOf {K T : Nat → Int32} {h : PH} {i : Nat} (R : RG K T h) (hi : i < 31) : f_X12_heartsOf 152 (nI i) h = some (oI (bestP (giP K T (giU K i)) (giU K i + 1)), h) := by
  have hl := e_heartsLp (u := giU K i) R giU_lt
  obtain ⟨⟨H, r1, r2, r3, r4⟩, g1, g2⟩ := R
  obtain ⟨b0, b1, b2, b3, b4, b5, b6, b7, b8, b9, b10⟩ := rk_b H
  have k7 : h.1 153 7 = nI (gv K 7) := by rw [r1]; exact (rk_e H).2.2.2.2.2.2.2
  have hm := e_musts (h := h) (by rw [r1]; exact H)
  rw [r1] at hm
  have hmm := mu_lt H
  have hgd : sdf (sdf (gv K 7) (2 ^ i)) (mu K) = giU K i := rfl
  unfold f_X12_heartsOf
  simp (disch := omega) only [pw_lt, pw_cb, pw_cbx, pw_cbxr, pw_lit, pw_litL, pw_oi, pw_oim, pw_oi8, pw_m, pw_ldI, pw_ldL, pw_ldR, pw_stI, pw_stL, pw_nz, pw_ltI, pw_leI, pw_eqI, pw_eqm, pw_eqm2, pw_ltm, pw_mlt, pw_lem, pw_mle, pw_mm, pw_dec, pw_nar0, pw_nar1, nI_add, pw_sub, pw_mul, pw_and, pw_or, pw_andn, pw_shl1, pw_shr, pw_dv, nI_l, lN_i, Bool.false_eq_true, reduceCtorEq, if_false, if_true, ↓reduceIte, if_pos, if_neg, r_152_0, k7, hm, hgd, hl]

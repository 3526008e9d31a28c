set_option maxRecDepth 16384 in
theorem c_areTogether {K T : Nat → Int32} {h : PH} {s : Nat} (H : RK K) (c : CT2 K T (gv K 7) h) (hs : s < 2 ^ gv K 5) : f_X2_areTogether 33 (nI s) h = some (bI (tg K T s), h) := by
  obtain ⟨b0, b1, b2, b3, b4, b5, b6, b7, b8, b9, b10⟩ := rk_b H
  have hp2 : 2 ^ gv K 5 ≤ 2 ^ 10 := Nat.pow_le_pow_right (by decide) b6
  have e1024 : 2 ^ 10 = 1024 := rfl
  have v := c.2.2 s hs
  rw [pFo_pF H] at v
  unfold f_X2_areTogether tg
  cases hb : pF K T s with
  | none =>
    rw [hb] at v
    simp (disch := omega) only [pw_lt, pw_cb, pw_cbx, pw_cbxr, pw_lit, pw_litL, pw_oi, pw_oim, pw_oi8, pw_m, pw_ldI, pw_ldL, pw_ldR, pw_stI, pw_stL, pw_nz, pw_ltI, pw_leI, pw_eqI, pw_eqm, pw_eqm2, pw_ltm, pw_mlt, pw_lem, pw_mle, pw_mm, pw_dec, pw_nar0, pw_nar1, nI_add, pw_sub, pw_mul, pw_and, pw_or, pw_andn, pw_shl1, pw_shl, pw_shr, pw_dv, nI_l, lN_i, Bool.false_eq_true, reduceCtorEq, if_false, if_true, ↓reduceIte, if_pos, if_neg, r_33_5, v, oI, zr_0, Option.isSome_none]
  | some b =>
    rw [hb] at v
    have := best_lt6 (P := fts K T s) (n := ga K + 1) (by omega) b hb
    simp (disch := omega) only [pw_lt, pw_cb, pw_cbx, pw_cbxr, pw_lit, pw_litL, pw_oi, pw_oim, pw_oi8, pw_m, pw_ldI, pw_ldL, pw_ldR, pw_stI, pw_stL, pw_nz, pw_ltI, pw_leI, pw_eqI, pw_eqm, pw_eqm2, pw_ltm, pw_mlt, pw_lem, pw_mle, pw_mm, pw_dec, pw_nar0, pw_nar1, nI_add, pw_sub, pw_mul, pw_and, pw_or, pw_andn, pw_shl1, pw_shl, pw_shr, pw_dv, nI_l, lN_i, Bool.false_eq_true, reduceCtorEq, if_false, if_true, ↓reduceIte, if_pos, if_neg, r_33_5, v, oI, zr_1, Option.isSome_some]
set_option maxRecDepth 16384 in
theorem c_smallestQuarrel {K T : Nat → Int32} {h : PH} {s : Nat} (H : RK K) (c : CT2 K T (gv K 7) h) (hs : s < 2 ^ gv K 5) : f_X2_smallestQuarrel 33 (nI s) h = some (oI (bestP (quP K T s) (s + 1)), h) := by
  obtain ⟨b0, b1, b2, b3, b4, b5, b6, b7, b8, b9, b10⟩ := rk_b H
  have hp2 : 2 ^ gv K 5 ≤ 2 ^ 10 := Nat.pow_le_pow_right (by decide) b6
  have e1024 : 2 ^ 10 = 1024 := rfl
  unfold f_X2_smallestQuarrel
  simp only [pw_lt, pw_lit, pw_m]
  refine lp_run (fun i => (oI (bestP (quP K T s) i), nI i)) (fun _ => h) (s + 1) _ ?_ ?_ FU (fu_lt (by omega))
  · intro i hi rec
    have hat := c_areTogether (T := T) H c (s := i) (by omega)
    have hsd := sdf_le i s
    unfold b_X2_smallestQuarrel_4
    by_cases h1 : sdf i s = 0
    · rcases tf (tg K T i) with h2 | h2
      · have hP : quP K T s i = true := by unfold quP; rw [decide_eq_true h1, h2]; rfl
        rw [h2] at hat
        cases hb : bestP (quP K T s) i with
        | none => simp (disch := omega) only [pw_lt, pw_cb, pw_cbx, pw_cbxr, pw_lit, pw_litL, pw_oi, pw_oim, pw_oi8, pw_m, pw_ldI, pw_ldL, pw_ldR, pw_stI, pw_stL, pw_nz, pw_ltI, pw_leI, pw_eqI, pw_eqm, pw_eqm2, pw_ltm, pw_mlt, pw_lem, pw_mle, pw_mm, pw_dec, pw_nar0, pw_nar1, nI_add, pw_sub, pw_mul, pw_and, pw_or, pw_andn, pw_shl1, pw_shl, pw_shr, pw_dv, nI_l, lN_i, Bool.false_eq_true, reduceCtorEq, if_false, if_true, ↓reduceIte, if_pos, if_neg, h1, hat, bI_0', bestP, hP, hb, oI]
        | some b =>
          have hbl := best_lt (n := i) (by omega) hb
          have p1 := pc_le (show i < 4096 by omega)
          have p2 := pc_le (show b < 4096 by omega)
          by_cases h3 : pc i < pc b
          · simp (disch := omega) only [pw_lt, pw_cb, pw_cbx, pw_cbxr, pw_lit, pw_litL, pw_oi, pw_oim, pw_oi8, pw_m, pw_ldI, pw_ldL, pw_ldR, pw_stI, pw_stL, pw_nz, pw_ltI, pw_leI, pw_eqI, pw_eqm, pw_eqm2, pw_ltm, pw_mlt, pw_lem, pw_mle, pw_mm, pw_dec, pw_nar0, pw_nar1, nI_add, pw_sub, pw_mul, pw_and, pw_or, pw_andn, pw_shl1, pw_shl, pw_shr, pw_dv, nI_l, lN_i, Bool.false_eq_true, reduceCtorEq, if_false, if_true, ↓reduceIte, if_pos, if_neg, h1, hat, bI_0', bestP, hP, hb, oI, e_bitCount]
          · simp (disch := omega) only [pw_lt, pw_cb, pw_cbx, pw_cbxr, pw_lit, pw_litL, pw_oi, pw_oim, pw_oi8, pw_m, pw_ldI, pw_ldL, pw_ldR, pw_stI, pw_stL, pw_nz, pw_ltI, pw_leI, pw_eqI, pw_eqm, pw_eqm2, pw_ltm, pw_mlt, pw_lem, pw_mle, pw_mm, pw_dec, pw_nar0, pw_nar1, nI_add, pw_sub, pw_mul, pw_and, pw_or, pw_andn, pw_shl1, pw_shl, pw_shr, pw_dv, nI_l, lN_i, Bool.false_eq_true, reduceCtorEq, if_false, if_true, ↓reduceIte, if_pos, if_neg, h1, hat, bI_0', bestP, hP, hb, oI, e_bitCount]
      · have hP : quP K T s i = false := by unfold quP; rw [h2, Bool.not_true, Bool.and_false]
        rw [h2] at hat
        simp (disch := omega) only [pw_lt, pw_cb, pw_cbx, pw_cbxr, pw_lit, pw_litL, pw_oi, pw_oim, pw_oi8, pw_m, pw_ldI, pw_ldL, pw_ldR, pw_stI, pw_stL, pw_nz, pw_ltI, pw_leI, pw_eqI, pw_eqm, pw_eqm2, pw_ltm, pw_mlt, pw_lem, pw_mle, pw_mm, pw_dec, pw_nar0, pw_nar1, nI_add, pw_sub, pw_mul, pw_and, pw_or, pw_andn, pw_shl1, pw_shl, pw_shr, pw_dv, nI_l, lN_i, Bool.false_eq_true, reduceCtorEq, if_false, if_true, ↓reduceIte, if_pos, if_neg, h1, hat, bI_0', bestP, hP]
    · have hP : quP K T s i = false := by unfold quP; rw [decide_eq_false h1, Bool.false_and]
      simp (disch := omega) only [pw_lt, pw_cb, pw_cbx, pw_cbxr, pw_lit, pw_litL, pw_oi, pw_oim, pw_oi8, pw_m, pw_ldI, pw_ldL, pw_ldR, pw_stI, pw_stL, pw_nz, pw_ltI, pw_leI, pw_eqI, pw_eqm, pw_eqm2, pw_ltm, pw_mlt, pw_lem, pw_mle, pw_mm, pw_dec, pw_nar0, pw_nar1, nI_add, pw_sub, pw_mul, pw_and, pw_or, pw_andn, pw_shl1, pw_shl, pw_shr, pw_dv, nI_l, lN_i, Bool.false_eq_true, reduceCtorEq, if_false, if_true, ↓reduceIte, if_pos, if_neg, h1, bestP, hP]
  · intro rec
    unfold b_X2_smallestQuarrel_4
    simp (disch := omega) only [pw_lt, pw_cb, pw_cbx, pw_cbxr, pw_lit, pw_litL, pw_oi, pw_oim, pw_oi8, pw_m, pw_ldI, pw_ldL, pw_ldR, pw_stI, pw_stL, pw_nz, pw_ltI, pw_leI, pw_eqI, pw_eqm, pw_eqm2, pw_ltm, pw_mlt, pw_lem, pw_mle, pw_mm, pw_dec, pw_nar0, pw_nar1, nI_add, pw_sub, pw_mul, pw_and, pw_or, pw_andn, pw_shl1, pw_shl, pw_shr, pw_dv, nI_l, lN_i, Bool.false_eq_true, reduceCtorEq, if_false, if_true, ↓reduceIte, if_pos, if_neg]
set_option maxRecDepth 16384 in
theorem giU_mm {K : Nat → Int32} (H : RK K) (i : Nat) : sdf (sdf (gv K 7) (mm K)) (2 ^ i) = giU K i := by
  unfold giU
  rw [← mu_mm H]
  apply Nat.eq_of_testBit_eq
  intro j
  rw [sdf_tb, sdf_tb, sdf_tb, sdf_tb, Nat.testBit_and]
  cases (gv K 7).testBit j <;> cases (mm K).testBit j <;> cases (2 ^ i).testBit j <;> rfl
set_option maxRecDepth 16384 in
theorem c_givenUpFor {K T : Nat → Int32} {h : PH} {i : Nat} (F : FC K T h) (c : CT2 K T (gv K 7) h) (h7 : h.1 33 7 = nI (gv K 7)) (hi : i < gv K 5) (hio : (gv K 7).testBit i = true) : f_X2_givenUpFor 33 (nI i) h = some (oI (bestP (giP K T (giU K i)) (giU K i + 1)), h) := by
  have H := F.1
  obtain ⟨b0, b1, b2, b3, b4, b5, b6, b7, b8, b9, b10⟩ := rk_b H
  have hp2 : 2 ^ gv K 5 ≤ 2 ^ 10 := Nat.pow_le_pow_right (by decide) b6
  have e1024 : 2 ^ 10 = 1024 := rfl
  have ho := open_lt H
  have s6 := F.2.1.2.2.2.2.2.2.1
  have hgu := giU_lt (K := K) (i := i)
  have hpi : 2 ^ i < 2 ^ gv K 5 := Nat.pow_lt_pow_right (by decide) hi
  have hat := c_areTogether (T := T) H c hpi
  unfold f_X2_givenUpFor
  rcases tf (tg K T (2 ^ i)) with h0 | h0
  · rw [h0] at hat
    simp (disch := omega) only [pw_lt, pw_cb, pw_cbx, pw_cbxr, pw_lit, pw_litL, pw_oi, pw_oim, pw_oi8, pw_m, pw_ldI, pw_ldL, pw_ldR, pw_stI, pw_stL, pw_nz, pw_ltI, pw_leI, pw_eqI, pw_eqm, pw_eqm2, pw_ltm, pw_mlt, pw_lem, pw_mle, pw_mm, pw_dec, pw_nar0, pw_nar1, nI_add, pw_sub, pw_mul, pw_and, pw_or, pw_andn, pw_shl1, pw_shr, pw_dv, nI_l, lN_i, Bool.false_eq_true, reduceCtorEq, if_false, if_true, ↓reduceIte, if_pos, if_neg, hat, bI_0']
    have : bestP (giP K T (giU K i)) (giU K i + 1) = none := by
      refine (best_none (by omega)).mpr (fun p hp => ?_)
      unfold giP
      by_cases h1 : sdf p (giU K i) = 0
      · have : tg K T (sdf (gv K 7) p) = false := by
          cases hb : tg K T (sdf (gv K 7) p)
          · rfl
          · rw [tg_mono H (t := 2 ^ i) (u := sdf (gv K 7) p) ?_ hb] at h0
            · cases h0
            · refine sdf_iff.mpr (fun j hj => ?_)
              rw [Nat.testBit_two_pow, decide_eq_true_eq] at hj
              subst hj
              rw [sdf_tb, hio]
              cases hpb : p.testBit i
              · rfl
              · have := sdf_iff.mp h1 i hpb
                unfold giU at this
                rw [sdf_tb, sdf_tb, Nat.testBit_two_pow] at this
                simp at this
        rw [this, Bool.and_false]
      · rw [decide_eq_false h1, Bool.false_and]
    rw [this]
    rfl
  · rw [h0] at hat
    simp (disch := omega) only [pw_lt, pw_cb, pw_cbx, pw_cbxr, pw_lit, pw_litL, pw_oi, pw_oim, pw_oi8, pw_m, pw_ldI, pw_ldL, pw_ldR, pw_stI, pw_stL, pw_nz, pw_ltI, pw_leI, pw_eqI, pw_eqm, pw_eqm2, pw_ltm, pw_mlt, pw_lem, pw_mle, pw_mm, pw_dec, pw_nar0, pw_nar1, nI_add, pw_sub, pw_mul, pw_and, pw_or, pw_andn, pw_shl1, pw_shr, pw_dv, nI_l, lN_i, Bool.false_eq_true, reduceCtorEq, if_false, if_true, ↓reduceIte, if_pos, if_neg, hat, bI_0', h7, r_33_0, s6, giU_mm H]
    generalize giU K i = u at *
    refine lp_run (fun i => (oI (bestP (giP K T u) i), nI i)) (fun _ => h) (u + 1) _ ?_ ?_ FU (fu_lt (by omega))
    · intro i hi rec
      have hso := sdf_le (gv K 7) i
      have hat := c_areTogether (T := T) H c (s := sdf (gv K 7) i) (by omega)
      have hsd := sdf_le i u
      unfold b_X2_givenUpFor_38
      by_cases h1 : sdf i u = 0
      · rcases tf (tg K T (sdf (gv K 7) i)) with h2 | h2
        · have hP : giP K T u i = false := by unfold giP; rw [h2, Bool.and_false]
          rw [h2] at hat
          simp (disch := omega) only [pw_lt, pw_cb, pw_cbx, pw_cbxr, pw_lit, pw_litL, pw_oi, pw_oim, pw_oi8, pw_m, pw_ldI, pw_ldL, pw_ldR, pw_stI, pw_stL, pw_nz, pw_ltI, pw_leI, pw_eqI, pw_eqm, pw_eqm2, pw_ltm, pw_mlt, pw_lem, pw_mle, pw_mm, pw_dec, pw_nar0, pw_nar1, nI_add, pw_sub, pw_mul, pw_and, pw_or, pw_andn, pw_shl1, pw_shl, pw_shr, pw_dv, nI_l, lN_i, Bool.false_eq_true, reduceCtorEq, if_false, if_true, ↓reduceIte, if_pos, if_neg, h1, hat, bI_0', bestP, hP, h7]
        · have hP : giP K T u i = true := by unfold giP; rw [decide_eq_true h1, h2]; rfl
          rw [h2] at hat
          cases hb : bestP (giP K T u) i with
          | none => simp (disch := omega) only [pw_lt, pw_cb, pw_cbx, pw_cbxr, pw_lit, pw_litL, pw_oi, pw_oim, pw_oi8, pw_m, pw_ldI, pw_ldL, pw_ldR, pw_stI, pw_stL, pw_nz, pw_ltI, pw_leI, pw_eqI, pw_eqm, pw_eqm2, pw_ltm, pw_mlt, pw_lem, pw_mle, pw_mm, pw_dec, pw_nar0, pw_nar1, nI_add, pw_sub, pw_mul, pw_and, pw_or, pw_andn, pw_shl1, pw_shl, pw_shr, pw_dv, nI_l, lN_i, Bool.false_eq_true, reduceCtorEq, if_false, if_true, ↓reduceIte, if_pos, if_neg, h1, hat, bI_0', bestP, hP, hb, oI, h7]
          | some b =>
            have hbl := best_lt (n := i) (by omega) hb
            have p1 := pc_le (show i < 4096 by omega)
            have p2 := pc_le (show b < 4096 by omega)
            by_cases h3 : pc i < pc b
            · simp (disch := omega) only [pw_lt, pw_cb, pw_cbx, pw_cbxr, pw_lit, pw_litL, pw_oi, pw_oim, pw_oi8, pw_m, pw_ldI, pw_ldL, pw_ldR, pw_stI, pw_stL, pw_nz, pw_ltI, pw_leI, pw_eqI, pw_eqm, pw_eqm2, pw_ltm, pw_mlt, pw_lem, pw_mle, pw_mm, pw_dec, pw_nar0, pw_nar1, nI_add, pw_sub, pw_mul, pw_and, pw_or, pw_andn, pw_shl1, pw_shl, pw_shr, pw_dv, nI_l, lN_i, Bool.false_eq_true, reduceCtorEq, if_false, if_true, ↓reduceIte, if_pos, if_neg, h1, hat, bI_0', bestP, hP, hb, oI, e_bitCount, h7]
            · simp (disch := omega) only [pw_lt, pw_cb, pw_cbx, pw_cbxr, pw_lit, pw_litL, pw_oi, pw_oim, pw_oi8, pw_m, pw_ldI, pw_ldL, pw_ldR, pw_stI, pw_stL, pw_nz, pw_ltI, pw_leI, pw_eqI, pw_eqm, pw_eqm2, pw_ltm, pw_mlt, pw_lem, pw_mle, pw_mm, pw_dec, pw_nar0, pw_nar1, nI_add, pw_sub, pw_mul, pw_and, pw_or, pw_andn, pw_shl1, pw_shl, pw_shr, pw_dv, nI_l, lN_i, Bool.false_eq_true, reduceCtorEq, if_false, if_true, ↓reduceIte, if_pos, if_neg, h1, hat, bI_0', bestP, hP, hb, oI, e_bitCount, h7]
      · have hP : giP K T u i = false := by unfold giP; rw [decide_eq_false h1, Bool.false_and]
        simp (disch := omega) only [pw_lt, pw_cb, pw_cbx, pw_cbxr, pw_lit, pw_litL, pw_oi, pw_oim, pw_oi8, pw_m, pw_ldI, pw_ldL, pw_ldR, pw_stI, pw_stL, pw_nz, pw_ltI, pw_leI, pw_eqI, pw_eqm, pw_eqm2, pw_ltm, pw_mlt, pw_lem, pw_mle, pw_mm, pw_dec, pw_nar0, pw_nar1, nI_add, pw_sub, pw_mul, pw_and, pw_or, pw_andn, pw_shl1, pw_shl, pw_shr, pw_dv, nI_l, lN_i, Bool.false_eq_true, reduceCtorEq, if_false, if_true, ↓reduceIte, if_pos, if_neg, h1, bestP, hP]
    · intro rec
      unfold b_X2_givenUpFor_38
      simp (disch := omega) only [pw_lt, pw_cb, pw_cbx, pw_cbxr, pw_lit, pw_litL, pw_oi, pw_oim, pw_oi8, pw_m, pw_ldI, pw_ldL, pw_ldR, pw_stI, pw_stL, pw_nz, pw_ltI, pw_leI, pw_eqI, pw_eqm, pw_eqm2, pw_ltm, pw_mlt, pw_lem, pw_mle, pw_mm, pw_dec, pw_nar0, pw_nar1, nI_add, pw_sub, pw_mul, pw_and, pw_or, pw_andn, pw_shl1, pw_shl, pw_shr, pw_dv, nI_l, lN_i, Bool.false_eq_true, reduceCtorEq, if_false, if_true, ↓reduceIte, if_pos, if_neg]

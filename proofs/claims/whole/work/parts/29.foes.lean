/-! ===== foes, follows, sure ===== -/
def foS (K T : Nat → Int32) (i : Nat) : Nat := if tg K T (2 ^ i) then orTo (gv K 5) (fun j => (gv K 7).testBit j && !tg K T (2 ^ i ||| 2 ^ j)) else 0
set_option maxRecDepth 16384 in
theorem pow_lt10 {i n : Nat} (hi : i < n) (hn : n ≤ 10) : 2 ^ i < 2 ^ n ∧ 2 ^ n ≤ 1024 := by
  refine ⟨Nat.pow_lt_pow_right (by decide) hi, ?_⟩
  have : 2 ^ n ≤ 2 ^ 10 := Nat.pow_le_pow_right (by decide) hn
  exact this
set_option maxRecDepth 16384 in
theorem orTo_1024 {n : Nat} (hn : n ≤ 10) (f : Nat → Bool) : orTo n f < 1024 := by
  have h1 := orTo_lt f n
  have : 2 ^ n ≤ 2 ^ 10 := Nat.pow_le_pow_right (by decide) hn
  have e : 2 ^ 10 = 1024 := rfl
  omega
set_option maxRecDepth 16384 in
theorem e_foes_lp {K T : Nat → Int32} {h : PH} {i : Nat} {Q : Int32 → PH → Prop} {j : Int32 → PH → Option (Int32 × PH)} (R : RG K T h) (hi : i < gv K 5) (hj : ok (j (nI (foS K T i)) h) Q) : ok (lp (b_X12_foes_26 152 (nI i) j) FU (nI 0, nI 0) h) Q := by
  obtain ⟨⟨H, r1, r2, r3, r4⟩, g1, g2⟩ := R
  obtain ⟨b0, b1, b2, b3, b4, b5, b6, b7, b8, b9, b10⟩ := rk_b H
  have k5 : h.1 153 5 = nI (gv K 5) := by rw [r1]; exact (rk_e H).2.2.2.2.2.1
  obtain ⟨q1, q2⟩ := pow_lt10 hi (by omega)
  have hat := g2 (2 ^ i) (by omega)
  suffices hs : lp (b_X12_foes_26 152 (nI i) j) FU (nI 0, nI 0) h = j (nI (foS K T i)) h by rw [hs]; exact hj
  rcases tf (tg K T (2 ^ i)) with ht | ht
  · have hf : foS K T i = 0 := by unfold foS; rw [ht]; rfl
    rw [ht] at hat
    have hF : FU = (FU - 1) + 1 := by rw [fu_eq]
    rw [hF]
    generalize FU - 1 = M
    show b_X12_foes_26 152 (nI i) j (lp (b_X12_foes_26 152 (nI i) j) M) (nI 0, nI 0) h = _
    generalize lp (b_X12_foes_26 152 (nI i) j) M = rec
    unfold b_X12_foes_26
    simp (disch := omega) only [pw_lt, pw_cb, pw_cbx, pw_cbxr, pw_lit, pw_litL, pw_oi, pw_oim, pw_oi8, pw_m, pw_ldI, pw_ldL, pw_ldR, pw_stI, pw_stL, pw_nz, pw_ltI, pw_leI, pw_eqI, pw_eqm, pw_eqm2, pw_ltm, pw_mlt, pw_lem, pw_mle, pw_mm, pw_dec, pw_nar0, pw_nar1, nI_add, pw_sub, pw_mul, pw_and, pw_or, pw_andn, pw_shl1, pw_shr, pw_dv, nI_l, lN_i, Bool.false_eq_true, reduceCtorEq, if_false, if_true, ↓reduceIte, if_pos, if_neg, r_152_0, r_152_22, k5, hat, bI_0', hf]
  · have hf : foS K T i = orTo (gv K 5) (fun j => (gv K 7).testBit j && !tg K T (2 ^ i ||| 2 ^ j)) := by unfold foS; rw [ht]; rfl
    rw [ht] at hat
    rw [hf]
    refine lp_run (fun n => (nI (orTo n (fun j => (gv K 7).testBit j && !tg K T (2 ^ i ||| 2 ^ j))), nI n)) (fun _ => h) (gv K 5) _ ?_ ?_ FU (fu_lt (by omega))
    · intro n hn rec
      have hor : 2 ^ i ||| 2 ^ n < 2 ^ gv K 5 := Nat.or_lt_two_pow q1 (Nat.pow_lt_pow_right (by decide) hn)
      have hat2 := g2 (2 ^ i ||| 2 ^ n) (by omega)
      have ho := orTo_1024 (n := n) (by omega) (fun j => (gv K 7).testBit j && !tg K T (2 ^ i ||| 2 ^ j))
      have hop := e_isOpen (h := h) (k := n) (by rw [r1]; exact H) (by omega)
      rw [r1] at hop
      unfold b_X12_foes_26
      by_cases hni : n = i
      · subst hni
        have e : ((gv K 7).testBit n && !tg K T (2 ^ n ||| 2 ^ n)) = false := by rw [Nat.or_self, ht, Bool.not_true, Bool.and_false]
        simp (disch := omega) only [pw_lt, pw_cb, pw_cbx, pw_cbxr, pw_lit, pw_litL, pw_oi, pw_oim, pw_oi8, pw_m, pw_ldI, pw_ldL, pw_ldR, pw_stI, pw_stL, pw_nz, pw_ltI, pw_leI, pw_eqI, pw_eqm, pw_eqm2, pw_ltm, pw_mlt, pw_lem, pw_mle, pw_mm, pw_dec, pw_nar0, pw_nar1, nI_add, pw_sub, pw_mul, pw_and, pw_or, pw_andn, pw_shl1, pw_shr, pw_dv, nI_l, lN_i, Bool.false_eq_true, reduceCtorEq, if_false, if_true, ↓reduceIte, if_pos, if_neg, r_152_0, r_152_22, k5, hat, bI_0', orTo, e, Nat.or_zero]
      · rcases tf ((gv K 7).testBit n) with h1 | h1
        · simp (disch := omega) only [pw_lt, pw_cb, pw_cbx, pw_cbxr, pw_lit, pw_litL, pw_oi, pw_oim, pw_oi8, pw_m, pw_ldI, pw_ldL, pw_ldR, pw_stI, pw_stL, pw_nz, pw_ltI, pw_leI, pw_eqI, pw_eqm, pw_eqm2, pw_ltm, pw_mlt, pw_lem, pw_mle, pw_mm, pw_dec, pw_nar0, pw_nar1, nI_add, pw_sub, pw_mul, pw_and, pw_or, pw_andn, pw_shl1, pw_shr, pw_dv, nI_l, lN_i, Bool.false_eq_true, reduceCtorEq, if_false, if_true, ↓reduceIte, if_pos, if_neg, r_152_0, r_152_22, k5, hat, bI_0', orTo, hop, h1, Bool.false_and, Nat.or_zero]
        · rcases tf (tg K T (2 ^ i ||| 2 ^ n)) with h2 | h2
          · rw [h2] at hat2
            simp (disch := omega) only [pw_lt, pw_cb, pw_cbx, pw_cbxr, pw_lit, pw_litL, pw_oi, pw_oim, pw_oi8, pw_m, pw_ldI, pw_ldL, pw_ldR, pw_stI, pw_stL, pw_nz, pw_ltI, pw_leI, pw_eqI, pw_eqm, pw_eqm2, pw_ltm, pw_mlt, pw_lem, pw_mle, pw_mm, pw_dec, pw_nar0, pw_nar1, nI_add, pw_sub, pw_mul, pw_and, pw_or, pw_andn, pw_shl1, pw_shr, pw_dv, nI_l, lN_i, Bool.false_eq_true, reduceCtorEq, if_false, if_true, ↓reduceIte, if_pos, if_neg, r_152_0, r_152_22, k5, hat, hat2, bI_0', orTo, hop, h1, h2, Bool.true_and, Bool.not_false]
          · rw [h2] at hat2
            simp (disch := omega) only [pw_lt, pw_cb, pw_cbx, pw_cbxr, pw_lit, pw_litL, pw_oi, pw_oim, pw_oi8, pw_m, pw_ldI, pw_ldL, pw_ldR, pw_stI, pw_stL, pw_nz, pw_ltI, pw_leI, pw_eqI, pw_eqm, pw_eqm2, pw_ltm, pw_mlt, pw_lem, pw_mle, pw_mm, pw_dec, pw_nar0, pw_nar1, nI_add, pw_sub, pw_mul, pw_and, pw_or, pw_andn, pw_shl1, pw_shr, pw_dv, nI_l, lN_i, Bool.false_eq_true, reduceCtorEq, if_false, if_true, ↓reduceIte, if_pos, if_neg, r_152_0, r_152_22, k5, hat, hat2, bI_0', orTo, hop, h1, h2, Bool.true_and, Bool.not_true, Nat.or_zero]
    · intro rec
      unfold b_X12_foes_26
      simp (disch := omega) only [pw_lt, pw_cb, pw_cbx, pw_cbxr, pw_lit, pw_litL, pw_oi, pw_oim, pw_oi8, pw_m, pw_ldI, pw_ldL, pw_ldR, pw_stI, pw_stL, pw_nz, pw_ltI, pw_leI, pw_eqI, pw_eqm, pw_eqm2, pw_ltm, pw_mlt, pw_lem, pw_mle, pw_mm, pw_dec, pw_nar0, pw_nar1, nI_add, pw_sub, pw_mul, pw_and, pw_or, pw_andn, pw_shl1, pw_shl, pw_shr, pw_dv, nI_l, lN_i, Bool.false_eq_true, reduceCtorEq, if_false, if_true, ↓reduceIte, if_pos, if_neg, r_152_0, k5]
set_option maxRecDepth 16384 in
theorem c_foesOf {K T : Nat → Int32} {h : PH} {i : Nat} (R : RC K T h) (hi : i < gv K 5) : f_X2_foesOf 33 (nI i) h = some (nI (foS K T i), h) := by
  obtain ⟨F, c, o7, -, -, -⟩ := R
  have H := F.1
  obtain ⟨b0, b1, b2, b3, b4, b5, b6, b7, b8, b9, b10⟩ := rk_b H
  obtain ⟨q1, q2⟩ := pow_lt10 hi (by omega)
  have s5 : h.1 3 5 = nI (gv K 5) := by rw [F.2.1.2.2.2.2.2.1]; exact (rk_e H).2.2.2.2.2.1
  have hat := c_areTogether (T := T) H c q1
  unfold f_X2_foesOf foS
  rcases tf (tg K T (2 ^ i)) with ht | ht
  · rw [ht] at hat
    simp (disch := omega) only [pw_lt, pw_cb, pw_cbx, pw_cbxr, pw_lit, pw_litL, pw_oi, pw_oim, pw_oi8, pw_m, pw_ldI, pw_ldL, pw_ldR, pw_stI, pw_stL, pw_nz, pw_ltI, pw_leI, pw_eqI, pw_eqm, pw_eqm2, pw_ltm, pw_mlt, pw_lem, pw_mle, pw_mm, pw_dec, pw_nar0, pw_nar1, nI_add, pw_sub, pw_mul, pw_and, pw_or, pw_andn, pw_shl1, pw_shr, pw_dv, nI_l, lN_i, Bool.false_eq_true, reduceCtorEq, if_false, if_true, ↓reduceIte, if_pos, if_neg, hat, bI_0', ht]
  · rw [ht] at hat
    simp (disch := omega) only [pw_lt, pw_cb, pw_cbx, pw_cbxr, pw_lit, pw_litL, pw_oi, pw_oim, pw_oi8, pw_m, pw_ldI, pw_ldL, pw_ldR, pw_stI, pw_stL, pw_nz, pw_ltI, pw_leI, pw_eqI, pw_eqm, pw_eqm2, pw_ltm, pw_mlt, pw_lem, pw_mle, pw_mm, pw_dec, pw_nar0, pw_nar1, nI_add, pw_sub, pw_mul, pw_and, pw_or, pw_andn, pw_shl1, pw_shr, pw_dv, nI_l, lN_i, Bool.false_eq_true, reduceCtorEq, if_false, if_true, ↓reduceIte, if_pos, if_neg, hat, bI_0', ht]
    refine lp_run (fun n => (nI (orTo n (fun j => (gv K 7).testBit j && !tg K T (2 ^ i ||| 2 ^ j))), nI n)) (fun _ => h) (gv K 5) _ ?_ ?_ FU (fu_lt (by omega))
    · intro n hn rec
      have hor : 2 ^ i ||| 2 ^ n < 2 ^ gv K 5 := Nat.or_lt_two_pow q1 (Nat.pow_lt_pow_right (by decide) hn)
      have hat2 := c_areTogether (T := T) H c hor
      have ho := orTo_1024 (n := n) (by omega) (fun j => (gv K 7).testBit j && !tg K T (2 ^ i ||| 2 ^ j))
      unfold b_X2_foesOf_14
      rcases tf ((gv K 7).testBit n) with h1 | h1
      · simp (disch := omega) only [pw_lt, pw_cb, pw_cbx, pw_cbxr, pw_lit, pw_litL, pw_oi, pw_oim, pw_oi8, pw_m, pw_ldI, pw_ldL, pw_ldR, pw_stI, pw_stL, pw_nz, pw_ltI, pw_leI, pw_eqI, pw_eqm, pw_eqm2, pw_ltm, pw_mlt, pw_lem, pw_mle, pw_mm, pw_dec, pw_nar0, pw_nar1, nI_add, pw_sub, pw_mul, pw_and, pw_or, pw_andn, pw_shl1, pw_shr, pw_dv, nI_l, lN_i, Bool.false_eq_true, reduceCtorEq, if_false, if_true, ↓reduceIte, if_pos, if_neg, r_33_0, s5, o7, pw_tb, orTo, h1, Bool.false_and, Nat.or_zero]
      · rcases tf (tg K T (2 ^ i ||| 2 ^ n)) with h2 | h2
        · rw [h2] at hat2
          simp (disch := omega) only [pw_lt, pw_cb, pw_cbx, pw_cbxr, pw_lit, pw_litL, pw_oi, pw_oim, pw_oi8, pw_m, pw_ldI, pw_ldL, pw_ldR, pw_stI, pw_stL, pw_nz, pw_ltI, pw_leI, pw_eqI, pw_eqm, pw_eqm2, pw_ltm, pw_mlt, pw_lem, pw_mle, pw_mm, pw_dec, pw_nar0, pw_nar1, nI_add, pw_sub, pw_mul, pw_and, pw_or, pw_andn, pw_shl1, pw_shr, pw_dv, nI_l, lN_i, Bool.false_eq_true, reduceCtorEq, if_false, if_true, ↓reduceIte, if_pos, if_neg, r_33_0, s5, o7, pw_tb, orTo, hat2, bI_0', h1, h2, Bool.true_and, Bool.not_false]
        · rw [h2] at hat2
          simp (disch := omega) only [pw_lt, pw_cb, pw_cbx, pw_cbxr, pw_lit, pw_litL, pw_oi, pw_oim, pw_oi8, pw_m, pw_ldI, pw_ldL, pw_ldR, pw_stI, pw_stL, pw_nz, pw_ltI, pw_leI, pw_eqI, pw_eqm, pw_eqm2, pw_ltm, pw_mlt, pw_lem, pw_mle, pw_mm, pw_dec, pw_nar0, pw_nar1, nI_add, pw_sub, pw_mul, pw_and, pw_or, pw_andn, pw_shl1, pw_shr, pw_dv, nI_l, lN_i, Bool.false_eq_true, reduceCtorEq, if_false, if_true, ↓reduceIte, if_pos, if_neg, r_33_0, s5, o7, pw_tb, orTo, hat2, bI_0', h1, h2, Bool.true_and, Bool.not_true, Nat.or_zero]
    · intro rec
      unfold b_X2_foesOf_14
      simp (disch := omega) only [pw_lt, pw_cb, pw_cbx, pw_cbxr, pw_lit, pw_litL, pw_oi, pw_oim, pw_oi8, pw_m, pw_ldI, pw_ldL, pw_ldR, pw_stI, pw_stL, pw_nz, pw_ltI, pw_leI, pw_eqI, pw_eqm, pw_eqm2, pw_ltm, pw_mlt, pw_lem, pw_mle, pw_mm, pw_dec, pw_nar0, pw_nar1, nI_add, pw_sub, pw_mul, pw_and, pw_or, pw_andn, pw_shl1, pw_shl, pw_shr, pw_dv, nI_l, lN_i, Bool.false_eq_true, reduceCtorEq, if_false, if_true, ↓reduceIte, if_pos, if_neg, r_33_0, s5]
/-! follows -/
def flS (K T : Nat → Int32) (i s p : Nat) : Nat := if (gG K T p).testBit i then s &&& gG K T p else s
set_option maxRecDepth 16384 in
theorem fl_le {K T : Nat → Int32} {i s0 : Nat} : ∀ n, fA (abl K T) (flS K T i) s0 n ≤ s0
  | 0 => Nat.le_refl _
  | n + 1 => by
    have ih := fl_le (K := K) (T := T) (i := i) (s0 := s0) n
    rw [fA]
    by_cases hb : abl K T n = true
    · rw [if_pos hb, flS]
      by_cases hc : (gG K T n).testBit i = true
      · rw [if_pos hc]
        exact Nat.le_trans Nat.and_le_left ih
      · rw [if_neg hc]
        exact ih
    · rw [if_neg hb]
      exact ih
set_option maxRecDepth 16384 in
theorem sdf_and {a b g : Nat} : sdf a b &&& g = sdf (a &&& g) b := by
  apply Nat.eq_of_testBit_eq
  intro j
  rw [Nat.testBit_and, sdf_tb, sdf_tb, Nat.testBit_and]
  cases a.testBit j <;> cases b.testBit j <;> cases g.testBit j <;> rfl
set_option maxRecDepth 16384 in
theorem fl_sdf {K T : Nat → Int32} {i s0 b : Nat} : ∀ n, fA (abl K T) (flS K T i) (sdf s0 b) n = sdf (fA (abl K T) (flS K T i) s0 n) b
  | 0 => rfl
  | n + 1 => by
    rw [fA, fA, fl_sdf n]
    by_cases hb : abl K T n = true
    · rw [if_pos hb, if_pos hb, flS, flS]
      by_cases hc : (gG K T n).testBit i = true
      · rw [if_pos hc, if_pos hc, sdf_and]
      · rw [if_neg hc, if_neg hc]
    · rw [if_neg hb, if_neg hb]
def fwS (K T : Nat → Int32) (i : Nat) : Nat := sdf (fA (abl K T) (flS K T i) (gv K 7) (ga K + 1)) (2 ^ i)
set_option maxRecDepth 16384 in
theorem e_follows_lp {K T : Nat → Int32} {h : PH} {i : Nat} (R : RG K T h) (hi : i < 31) : lp (b_X12_follows_32 152 (nI i)) FU (nI (gv K 7), nI 0) h = some (nI (fwS K T i), h) := by
  obtain ⟨⟨H, r1, r2, r3, r4⟩, g1, g2⟩ := R
  obtain ⟨b0, b1, b2, b3, b4, b5, b6, b7, b8, b9, b10⟩ := rk_b H
  have hev := e_everywhere (h := h) (by rw [r1]; exact H)
  rw [r1] at hev
  refine lp_run (fun n => (nI (fA (abl K T) (flS K T i) (gv K 7) n), nI n)) (fun _ => h) (ga K + 1) _ ?_ ?_ FU (fu_lt (by omega))
  · intro n hn rec
    have hg := gG_lt (T := T) H n
    have hGi := g1 n (by omega)
    have hfl := fl_le (K := K) (T := T) (i := i) (s0 := gv K 7) n
    unfold b_X12_follows_32
    unfold GB at hGi
    by_cases h1 : wy K T n = 0
    · have hA : abl K T n = true := decide_eq_true h1
      rw [if_pos h1] at hGi
      rcases tf ((gG K T n).testBit i) with h2 | h2
      · simp (disch := omega) only [pw_lt, pw_cb, pw_cbx, pw_cbxr, pw_lit, pw_litL, pw_oi, pw_oim, pw_oi8, pw_m, pw_ldI, pw_ldL, pw_ldR, pw_stI, pw_stL, pw_nz, pw_ltI, pw_leI, pw_eqI, pw_eqm, pw_eqm2, pw_ltm, pw_mlt, pw_lem, pw_mle, pw_mm, pw_dec, pw_nar0, pw_nar1, nI_add, pw_sub, pw_mul, pw_and, pw_or, pw_andn, pw_shl1, pw_shl, pw_shr, pw_dv, nI_l, lN_i, Bool.false_eq_true, reduceCtorEq, if_false, if_true, ↓reduceIte, if_pos, if_neg, hev, r_152_21, hGi, fA, hA, e_has, h2, bI_0', flS]
      · simp (disch := omega) only [pw_lt, pw_cb, pw_cbx, pw_cbxr, pw_lit, pw_litL, pw_oi, pw_oim, pw_oi8, pw_m, pw_ldI, pw_ldL, pw_ldR, pw_stI, pw_stL, pw_nz, pw_ltI, pw_leI, pw_eqI, pw_eqm, pw_eqm2, pw_ltm, pw_mlt, pw_lem, pw_mle, pw_mm, pw_dec, pw_nar0, pw_nar1, nI_add, pw_sub, pw_mul, pw_and, pw_or, pw_andn, pw_shl1, pw_shl, pw_shr, pw_dv, nI_l, lN_i, Bool.false_eq_true, reduceCtorEq, if_false, if_true, ↓reduceIte, if_pos, if_neg, hev, r_152_21, hGi, fA, hA, e_has, h2, bI_0', flS]
    · have hA : abl K T n = false := decide_eq_false h1
      rw [if_neg h1] at hGi
      simp (disch := omega) only [pw_lt, pw_cb, pw_cbx, pw_cbxr, pw_lit, pw_litL, pw_oi, pw_oim, pw_oi8, pw_m, pw_ldI, pw_ldL, pw_ldR, pw_stI, pw_stL, pw_nz, pw_ltI, pw_leI, pw_eqI, pw_eqm, pw_eqm2, pw_ltm, pw_mlt, pw_lem, pw_mle, pw_mm, pw_dec, pw_nar0, pw_nar1, nI_add, pw_sub, pw_mul, pw_and, pw_or, pw_andn, pw_shl1, pw_shl, pw_shr, pw_dv, nI_l, lN_i, Bool.false_eq_true, reduceCtorEq, if_false, if_true, ↓reduceIte, if_pos, if_neg, hev, r_152_21, hGi, fA, hA]
  · intro rec
    have hfl := fl_le (K := K) (T := T) (i := i) (s0 := gv K 7) (ga K + 1)
    unfold b_X12_follows_32
    simp (disch := omega) only [pw_lt, pw_cb, pw_cbx, pw_cbxr, pw_lit, pw_litL, pw_oi, pw_oim, pw_oi8, pw_m, pw_ldI, pw_ldL, pw_ldR, pw_stI, pw_stL, pw_nz, pw_ltI, pw_leI, pw_eqI, pw_eqm, pw_eqm2, pw_ltm, pw_mlt, pw_lem, pw_mle, pw_mm, pw_dec, pw_nar0, pw_nar1, nI_add, pw_sub, pw_mul, pw_and, pw_or, pw_andn, pw_shl1, pw_shr, pw_dv, nI_l, lN_i, Bool.false_eq_true, reduceCtorEq, if_false, if_true, ↓reduceIte, if_pos, if_neg, hev]
    rfl
set_option maxRecDepth 16384 in
theorem c_followersOf {K T : Nat → Int32} {h : PH} {i : Nat} (R : RC K T h) (hi : i < gv K 5) : ok (f_X2_followersOf 33 (nI i) h) (fun r h' => r = nI (fwS K T i) ∧ eqx [31, 32] h h' ∧ RC K T h') := by
  have H := R.1.1
  obtain ⟨b0, b1, b2, b3, b4, b5, b6, b7, b8, b9, b10⟩ := rk_b H
  have o7 := R.2.2.1
  have hsd := sdf_le (gv K 7) (2 ^ i)
  unfold f_X2_followersOf
  simp (disch := omega) only [pw_lt, pw_cb, pw_cbx, pw_cbxr, pw_lit, pw_litL, pw_oi, pw_oim, pw_oi8, pw_m, pw_ldI, pw_ldL, pw_ldR, pw_stI, pw_stL, pw_nz, pw_ltI, pw_leI, pw_eqI, pw_eqm, pw_eqm2, pw_ltm, pw_mlt, pw_lem, pw_mle, pw_mm, pw_dec, pw_nar0, pw_nar1, nI_add, pw_sub, pw_mul, pw_and, pw_or, pw_andn, pw_shl1, pw_shr, pw_dv, nI_l, lN_i, Bool.false_eq_true, reduceCtorEq, if_false, if_true, ↓reduceIte, if_pos, if_neg, o7]
  refine c_over (body := b_X2_followersOf_13 33 (nI i)) R (fun s k => (nI s, nI k)) (flS K T i) (sdf (gv K 7) (2 ^ i)) (by rw [fu_eq]; omega) ?_ ?_
  · intro rec s p k h' e1 R1 v4 v34 hk hk2 hl hp hA hs hrec
    have o7' := R1.2.2.1
    have hfl := fl_le (K := K) (T := T) (i := i) (s0 := sdf (gv K 7) (2 ^ i)) p
    rw [← hs] at hfl
    unfold b_X2_followersOf_13
    simp (disch := omega) only [pw_lt, pw_cb, pw_cbx, pw_cbxr, pw_lit, pw_litL, pw_oi, pw_oim, pw_oi8, pw_m, pw_ldI, pw_ldL, pw_ldR, pw_stI, pw_stL, pw_nz, pw_ltI, pw_leI, pw_eqI, pw_eqm, pw_eqm2, pw_ltm, pw_mlt, pw_lem, pw_mle, pw_mm, pw_dec, pw_nar0, pw_nar1, nI_add, pw_sub, pw_mul, pw_and, pw_or, pw_andn, pw_shl1, pw_shl, pw_shr, pw_dv, nI_l, lN_i, Bool.false_eq_true, reduceCtorEq, if_false, if_true, ↓reduceIte, if_pos, if_neg, v4, r_33_3, r_33_2, v34, o7']
    refine ok_cb (c_gG R1.1 hp) ?_
    rintro r h2 ⟨rfl, e2, F2⟩
    have hg := gG_lt (T := T) H p
    rcases tf ((gG K T p).testBit i) with h2 | h2
    · simp (disch := omega) only [pw_lt, pw_cb, pw_cbx, pw_cbxr, pw_lit, pw_litL, pw_oi, pw_oim, pw_oi8, pw_m, pw_ldI, pw_ldL, pw_ldR, pw_stI, pw_stL, pw_nz, pw_ltI, pw_leI, pw_eqI, pw_eqm, pw_eqm2, pw_ltm, pw_mlt, pw_lem, pw_mle, pw_mm, pw_dec, pw_nar0, pw_nar1, nI_add, pw_sub, pw_mul, pw_and, pw_or, pw_andn, pw_shl1, pw_shl, pw_shr, pw_dv, nI_l, lN_i, Bool.false_eq_true, reduceCtorEq, if_false, if_true, ↓reduceIte, if_pos, if_neg, pw_tb, h2]
      have := hrec _ e2 F2
      rw [flS, h2] at this
      exact this
    · simp (disch := omega) only [pw_lt, pw_cb, pw_cbx, pw_cbxr, pw_lit, pw_litL, pw_oi, pw_oim, pw_oi8, pw_m, pw_ldI, pw_ldL, pw_ldR, pw_stI, pw_stL, pw_nz, pw_ltI, pw_leI, pw_eqI, pw_eqm, pw_eqm2, pw_ltm, pw_mlt, pw_lem, pw_mle, pw_mm, pw_dec, pw_nar0, pw_nar1, nI_add, pw_sub, pw_mul, pw_and, pw_or, pw_andn, pw_shl1, pw_shl, pw_shr, pw_dv, nI_l, lN_i, Bool.false_eq_true, reduceCtorEq, if_false, if_true, ↓reduceIte, if_pos, if_neg, pw_tb, h2]
      have := hrec _ e2 F2
      rw [flS, h2] at this
      exact this
  · intro rec s h' e1 R1 v4 hl hs
    unfold b_X2_followersOf_13
    simp (disch := omega) only [pw_lt, pw_cb, pw_cbx, pw_cbxr, pw_lit, pw_litL, pw_oi, pw_oim, pw_oi8, pw_m, pw_ldI, pw_ldL, pw_ldR, pw_stI, pw_stL, pw_nz, pw_ltI, pw_leI, pw_eqI, pw_eqm, pw_eqm2, pw_ltm, pw_mlt, pw_lem, pw_mle, pw_mm, pw_dec, pw_nar0, pw_nar1, nI_add, pw_sub, pw_mul, pw_and, pw_or, pw_andn, pw_shl1, pw_shl, pw_shr, pw_dv, nI_l, lN_i, Bool.false_eq_true, reduceCtorEq, if_false, if_true, ↓reduceIte, if_pos, if_neg, v4, Nat.le_refl]
    exact ok_some ⟨by rw [hs, fl_sdf]; rfl, e1, R1⟩
/-! sure -/
def suS (K T : Nat → Int32) (u : Nat) (wet : Bool) (s p : Nat) : Nat := if sdf u (gG K T p) = 0 then (if wet then s &&& wx K p else sdf s (wx K p)) else s
set_option maxRecDepth 16384 in
theorem su_le {K T : Nat → Int32} {u s0 : Nat} {wet : Bool} : ∀ n, fA (abl K T) (suS K T u wet) s0 n ≤ s0
  | 0 => Nat.le_refl _
  | n + 1 => by
    have ih := su_le (K := K) (T := T) (u := u) (wet := wet) (s0 := s0) n
    rw [fA]
    by_cases hb : abl K T n = true
    · rw [if_pos hb, suS]
      by_cases hc : sdf u (gG K T n) = 0
      · rw [if_pos hc]
        cases wet
        · exact Nat.le_trans (sdf_le _ _) ih
        · exact Nat.le_trans Nat.and_le_left ih
      · rw [if_neg hc]
        exact ih
    · rw [if_neg hb]
      exact ih
def suR (K T : Nat → Int32) (u : Nat) (wet : Bool) : Nat := fA (abl K T) (suS K T u wet) (ga K) (ga K + 1)
set_option maxRecDepth 16384 in
theorem e_sure_lp {K T : Nat → Int32} {h : PH} {u : Nat} {wet : Bool} (R : RG K T h) (hu : u < 1024) : lp (b_X12_sure_42 152 (nI u) (bI wet)) FU (nI (ga K), nI 0) h = some (nI (suR K T u wet), h) := by
  obtain ⟨⟨H, r1, r2, r3, r4⟩, g1, g2⟩ := R
  obtain ⟨b0, b1, b2, b3, b4, b5, b6, b7, b8, b9, b10⟩ := rk_b H
  have hev := e_everywhere (h := h) (by rw [r1]; exact H)
  rw [r1] at hev
  refine lp_run (fun n => (nI (fA (abl K T) (suS K T u wet) (ga K) n), nI n)) (fun _ => h) (ga K + 1) _ ?_ ?_ FU (fu_lt (by omega))
  · intro n hn rec
    have hg := gG_lt (T := T) H n
    have hGi := g1 n (by omega)
    have hWi := r4 n (by omega)
    have hfl := su_le (K := K) (T := T) (u := u) (wet := wet) (s0 := ga K) n
    have hsd := sdf_le u (gG K T n)
    unfold b_X12_sure_42
    unfold GB at hGi
    by_cases h1 : wy K T n = 0
    · have hA : abl K T n = true := decide_eq_true h1
      rw [if_pos h1] at hGi
      by_cases h2 : sdf u (gG K T n) = 0
      · cases wet
        · simp (disch := omega) only [pw_lt, pw_cb, pw_cbx, pw_cbxr, pw_lit, pw_litL, pw_oi, pw_oim, pw_oi8, pw_m, pw_ldI, pw_ldL, pw_ldR, pw_stI, pw_stL, pw_nz, pw_ltI, pw_leI, pw_eqI, pw_eqm, pw_eqm2, pw_ltm, pw_mlt, pw_lem, pw_mle, pw_mm, pw_dec, pw_nar0, pw_nar1, nI_add, pw_sub, pw_mul, pw_and, pw_or, pw_andn, pw_shl1, pw_shl, pw_shr, pw_dv, nI_l, lN_i, Bool.false_eq_true, reduceCtorEq, if_false, if_true, ↓reduceIte, if_pos, if_neg, hev, r_152_21, r_152_19, hGi, hWi, fA, hA, h2, bI_0', suS]
        · simp (disch := omega) only [pw_lt, pw_cb, pw_cbx, pw_cbxr, pw_lit, pw_litL, pw_oi, pw_oim, pw_oi8, pw_m, pw_ldI, pw_ldL, pw_ldR, pw_stI, pw_stL, pw_nz, pw_ltI, pw_leI, pw_eqI, pw_eqm, pw_eqm2, pw_ltm, pw_mlt, pw_lem, pw_mle, pw_mm, pw_dec, pw_nar0, pw_nar1, nI_add, pw_sub, pw_mul, pw_and, pw_or, pw_andn, pw_shl1, pw_shl, pw_shr, pw_dv, nI_l, lN_i, Bool.false_eq_true, reduceCtorEq, if_false, if_true, ↓reduceIte, if_pos, if_neg, hev, r_152_21, r_152_19, hGi, hWi, fA, hA, h2, bI_0', suS]
      · simp (disch := omega) only [pw_lt, pw_cb, pw_cbx, pw_cbxr, pw_lit, pw_litL, pw_oi, pw_oim, pw_oi8, pw_m, pw_ldI, pw_ldL, pw_ldR, pw_stI, pw_stL, pw_nz, pw_ltI, pw_leI, pw_eqI, pw_eqm, pw_eqm2, pw_ltm, pw_mlt, pw_lem, pw_mle, pw_mm, pw_dec, pw_nar0, pw_nar1, nI_add, pw_sub, pw_mul, pw_and, pw_or, pw_andn, pw_shl1, pw_shl, pw_shr, pw_dv, nI_l, lN_i, Bool.false_eq_true, reduceCtorEq, if_false, if_true, ↓reduceIte, if_pos, if_neg, hev, r_152_21, hGi, fA, hA, h2, suS]
    · have hA : abl K T n = false := decide_eq_false h1
      rw [if_neg h1] at hGi
      simp (disch := omega) only [pw_lt, pw_cb, pw_cbx, pw_cbxr, pw_lit, pw_litL, pw_oi, pw_oim, pw_oi8, pw_m, pw_ldI, pw_ldL, pw_ldR, pw_stI, pw_stL, pw_nz, pw_ltI, pw_leI, pw_eqI, pw_eqm, pw_eqm2, pw_ltm, pw_mlt, pw_lem, pw_mle, pw_mm, pw_dec, pw_nar0, pw_nar1, nI_add, pw_sub, pw_mul, pw_and, pw_or, pw_andn, pw_shl1, pw_shl, pw_shr, pw_dv, nI_l, lN_i, Bool.false_eq_true, reduceCtorEq, if_false, if_true, ↓reduceIte, if_pos, if_neg, hev, r_152_21, hGi, fA, hA]
  · intro rec
    unfold b_X12_sure_42
    simp (disch := omega) only [pw_lt, pw_cb, pw_cbx, pw_cbxr, pw_lit, pw_litL, pw_oi, pw_oim, pw_oi8, pw_m, pw_ldI, pw_ldL, pw_ldR, pw_stI, pw_stL, pw_nz, pw_ltI, pw_leI, pw_eqI, pw_eqm, pw_eqm2, pw_ltm, pw_mlt, pw_lem, pw_mle, pw_mm, pw_dec, pw_nar0, pw_nar1, nI_add, pw_sub, pw_mul, pw_and, pw_or, pw_andn, pw_shl1, pw_shl, pw_shr, pw_dv, nI_l, lN_i, Bool.false_eq_true, reduceCtorEq, if_false, if_true, ↓reduceIte, if_pos, if_neg, hev]
    rfl
set_option maxRecDepth 16384 in
theorem hw_gG {K T : Nat → Int32} {u p : Nat} (hu : sdf u (gv K 7) = 0) : sdf u (hw K T (wx K p)) = sdf u (gG K T p) := by
  unfold gG
  rw [← gr_hw]
  apply Nat.eq_of_testBit_eq
  intro j
  rw [sdf_tb, sdf_tb, Nat.testBit_and]
  have := sdf_iff.mp hu j
  cases hb : u.testBit j
  · rfl
  · rw [this hb, Bool.and_true]
set_option maxRecDepth 16384 in
theorem c_sureCells {K T : Nat → Int32} {h : PH} {u : Nat} {wet : Bool} (R : RC K T h) (hu : sdf u (gv K 7) = 0) : ok (f_X2_sureCells 33 (nI u) (bI wet) h) (fun r h' => r = (if tg K T u then nI (suR K T u wet) else mI) ∧ eqx [31, 32] h h' ∧ RC K T h') := by
  have H := R.1.1
  obtain ⟨b0, b1, b2, b3, b4, b5, b6, b7, b8, b9, b10⟩ := rk_b H
  have hop := open_lt H
  have hul := sub_le hu
  have s8 := R.1.2.1.2.2.2.2.2.2.2.2.1
  have hat := c_areTogether (T := T) H R.2.1 (s := u) (by omega)
  unfold f_X2_sureCells
  rcases tf (tg K T u) with ht | ht
  · rw [ht] at hat
    simp (disch := omega) only [pw_lt, pw_cb, pw_cbx, pw_cbxr, pw_lit, pw_litL, pw_oi, pw_oim, pw_oi8, pw_m, pw_ldI, pw_ldL, pw_ldR, pw_stI, pw_stL, pw_nz, pw_ltI, pw_leI, pw_eqI, pw_eqm, pw_eqm2, pw_ltm, pw_mlt, pw_lem, pw_mle, pw_mm, pw_dec, pw_nar0, pw_nar1, nI_add, pw_sub, pw_mul, pw_and, pw_or, pw_andn, pw_shl1, pw_shl, pw_shr, pw_dv, nI_l, lN_i, Bool.false_eq_true, reduceCtorEq, if_false, if_true, ↓reduceIte, if_pos, if_neg, hat, bI_0', ht]
    exact ok_some ⟨rfl, eqx_rfl _ _, R⟩
  · rw [ht] at hat
    simp (disch := omega) only [pw_lt, pw_cb, pw_cbx, pw_cbxr, pw_lit, pw_litL, pw_oi, pw_oim, pw_oi8, pw_m, pw_ldI, pw_ldL, pw_ldR, pw_stI, pw_stL, pw_nz, pw_ltI, pw_leI, pw_eqI, pw_eqm, pw_eqm2, pw_ltm, pw_mlt, pw_lem, pw_mle, pw_mm, pw_dec, pw_nar0, pw_nar1, nI_add, pw_sub, pw_mul, pw_and, pw_or, pw_andn, pw_shl1, pw_shl, pw_shr, pw_dv, nI_l, lN_i, Bool.false_eq_true, reduceCtorEq, if_false, if_true, ↓reduceIte, if_pos, if_neg, hat, bI_0', ht, r_33_0, s8]
    refine c_over (body := b_X2_sureCells_21 33 (nI u) (bI wet)) R (fun s k => (nI s, nI k)) (suS K T u wet) (ga K) (by rw [fu_eq]; omega) ?_ ?_
    · intro rec s p k h' e1 R1 v4 v34 hk hk2 hl hp hA hs hrec
      have hfl := su_le (K := K) (T := T) (u := u) (wet := wet) (s0 := ga K) p
      rw [← hs] at hfl
      have hwo := c_weatherOf (h := h') (p := p) H R1.1.2.1 hp
      unfold b_X2_sureCells_21
      simp (disch := omega) only [pw_lt, pw_cb, pw_cbx, pw_cbxr, pw_lit, pw_litL, pw_oi, pw_oim, pw_oi8, pw_m, pw_ldI, pw_ldL, pw_ldR, pw_stI, pw_stL, pw_nz, pw_ltI, pw_leI, pw_eqI, pw_eqm, pw_eqm2, pw_ltm, pw_mlt, pw_lem, pw_mle, pw_mm, pw_dec, pw_nar0, pw_nar1, nI_add, pw_sub, pw_mul, pw_and, pw_or, pw_andn, pw_shl1, pw_shl, pw_shr, pw_dv, nI_l, lN_i, Bool.false_eq_true, reduceCtorEq, if_false, if_true, ↓reduceIte, if_pos, if_neg, v4, r_33_0, r_33_3, r_33_2, v34, hwo]
      refine ok_cb (c_at R1.1 (wx_le K p)) ?_
      rintro r h2 ⟨rfl, e2, F2⟩
      have hg := hw_lt (T := T) H (wx K p)
      have hsd := sdf_le u (gG K T p)
      have := hrec _ e2 F2
      unfold suS at this
      by_cases h2 : sdf u (gG K T p) = 0
      · rw [if_pos h2] at this
        cases wet
        · simp (disch := omega) only [pw_lt, pw_cb, pw_cbx, pw_cbxr, pw_lit, pw_litL, pw_oi, pw_oim, pw_oi8, pw_m, pw_ldI, pw_ldL, pw_ldR, pw_stI, pw_stL, pw_nz, pw_ltI, pw_leI, pw_eqI, pw_eqm, pw_eqm2, pw_ltm, pw_mlt, pw_lem, pw_mle, pw_mm, pw_dec, pw_nar0, pw_nar1, nI_add, pw_sub, pw_mul, pw_and, pw_or, pw_andn, pw_shl1, pw_shl, pw_shr, pw_dv, nI_l, lN_i, Bool.false_eq_true, reduceCtorEq, if_false, if_true, ↓reduceIte, if_pos, if_neg, hw_gG hu, h2, bI_0']
          exact this
        · simp (disch := omega) only [pw_lt, pw_cb, pw_cbx, pw_cbxr, pw_lit, pw_litL, pw_oi, pw_oim, pw_oi8, pw_m, pw_ldI, pw_ldL, pw_ldR, pw_stI, pw_stL, pw_nz, pw_ltI, pw_leI, pw_eqI, pw_eqm, pw_eqm2, pw_ltm, pw_mlt, pw_lem, pw_mle, pw_mm, pw_dec, pw_nar0, pw_nar1, nI_add, pw_sub, pw_mul, pw_and, pw_or, pw_andn, pw_shl1, pw_shl, pw_shr, pw_dv, nI_l, lN_i, Bool.false_eq_true, reduceCtorEq, if_false, if_true, ↓reduceIte, if_pos, if_neg, hw_gG hu, h2, bI_0']
          exact this
      · rw [if_neg h2] at this
        simp (disch := omega) only [pw_lt, pw_cb, pw_cbx, pw_cbxr, pw_lit, pw_litL, pw_oi, pw_oim, pw_oi8, pw_m, pw_ldI, pw_ldL, pw_ldR, pw_stI, pw_stL, pw_nz, pw_ltI, pw_leI, pw_eqI, pw_eqm, pw_eqm2, pw_ltm, pw_mlt, pw_lem, pw_mle, pw_mm, pw_dec, pw_nar0, pw_nar1, nI_add, pw_sub, pw_mul, pw_and, pw_or, pw_andn, pw_shl1, pw_shl, pw_shr, pw_dv, nI_l, lN_i, Bool.false_eq_true, reduceCtorEq, if_false, if_true, ↓reduceIte, if_pos, if_neg, hw_gG hu, h2]
        exact this
    · intro rec s h' e1 R1 v4 hl hs
      unfold b_X2_sureCells_21
      simp (disch := omega) only [pw_lt, pw_cb, pw_cbx, pw_cbxr, pw_lit, pw_litL, pw_oi, pw_oim, pw_oi8, pw_m, pw_ldI, pw_ldL, pw_ldR, pw_stI, pw_stL, pw_nz, pw_ltI, pw_leI, pw_eqI, pw_eqm, pw_eqm2, pw_ltm, pw_mlt, pw_lem, pw_mle, pw_mm, pw_dec, pw_nar0, pw_nar1, nI_add, pw_sub, pw_mul, pw_and, pw_or, pw_andn, pw_shl1, pw_shl, pw_shr, pw_dv, nI_l, lN_i, Bool.false_eq_true, reduceCtorEq, if_false, if_true, ↓reduceIte, if_pos, if_neg, v4, Nat.le_refl]
      exact ok_some ⟨by rw [hs]; rfl, e1, R1⟩

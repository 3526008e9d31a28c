def unN (K : Nat → Int32) (d i j : Nat) : Int32 := if j = 6 then nI d else if 7 ≤ j ∧ j < 7 + i then K (66 + 17 * d + (j - 7)) else K j
set_option maxRecDepth 16384 in
theorem unN_17 {K : Nat → Int32} {n : Nat} : unN K (gv K 6 - n) 17 = unK K n := by
  funext j
  unfold unN unK
  rfl
set_option maxRecDepth 16384 in
theorem unN_0 {K : Nat → Int32} {d : Nat} : unN K d 0 = updK K 6 (nI d) := by
  funext j
  unfold unN updK
  by_cases hj : j = 6
  · rw [if_pos hj, if_pos hj]
  · rw [if_neg hj, if_neg hj, if_neg (by omega)]
set_option maxRecDepth 16384 in
theorem unN_s {K : Nat → Int32} {d i : Nat} : unN K d (i + 1) = updK (unN K d i) (7 + i) (K (66 + 17 * d + i)) := by
  funext j
  unfold unN updK
  dsimp only
  by_cases hj : j = 7 + i
  · rw [if_pos hj, if_neg (by omega), if_pos (by omega), hj, show 7 + i - 7 = i by omega]
  · rw [if_neg hj]
    by_cases hj6 : j = 6
    · rw [if_pos hj6, if_pos hj6]
    · rw [if_neg hj6, if_neg hj6]
      by_cases hj2 : 7 ≤ j ∧ j < 7 + i
      · rw [if_pos hj2, if_pos (by omega)]
      · rw [if_neg hj2, if_neg (by omega)]
set_option maxRecDepth 16384 in
theorem unN_6 {K : Nat → Int32} {d i : Nat} : unN K d i 6 = nI d := by
  unfold unN
  exact if_pos rfl
set_option maxRecDepth 16384 in
theorem unN_hi {K : Nat → Int32} {d i j : Nat} (hj : 66 ≤ j) (hi : i ≤ 17) : unN K d i j = K j := by
  unfold unN
  rw [if_neg (by omega), if_neg (by omega)]
set_option maxRecDepth 16384 in
theorem e_undo_lp {K : Nat → Int32} {h : PH} {d : Nat} (hd : d < 10) (k : h.1 153 = unN K d 0) : ok (lp (b_X12_undo_47 152) FU (nI 0) h) (fun r h' => r = nI d ∧ eqx [153] h h' ∧ h'.1 153 = unN K d 17) := by
  refine lp_ok (fun m x h3 => m ≤ 17 ∧ x = nI (17 - m) ∧ eqx [153] h h3 ∧ h3.1 153 = unN K d (17 - m)) ?_ FU 17 _ h ⟨by omega, rfl, eqx_rfl _ _, k⟩ (fu_lt (by omega))
  rintro m rec x h3 ⟨hm, rfl, e3, k3⟩ hrec
  have w6 : h3.1 153 6 = nI d := by rw [k3, unN_6]
  unfold b_X12_undo_47
  by_cases h0 : m = 0
  · subst h0
    simp (disch := omega) only [pw_lt, pw_cb, pw_cbx, pw_cbxr, pw_lit, pw_litL, pw_oi, pw_oim, pw_oi8, pw_m, pw_ldI, pw_ldL, pw_ldR, pw_stI, pw_stL, pw_nz, pw_ltI, pw_leI, pw_eqI, pw_eqm, pw_eqm2, pw_ltm, pw_mlt, pw_lem, pw_mle, pw_mm, pw_dec, pw_nar0, pw_nar1, nI_add, pw_sub, pw_mul, pw_and, pw_or, pw_andn, pw_shl1, pw_shl, pw_shr, pw_dv, nI_l, lN_i, Bool.false_eq_true, reduceCtorEq, if_false, if_true, ↓reduceIte, if_pos, if_neg, r_152_0, w6]
    exact ok_some ⟨rfl, e3, k3⟩
  · generalize hi : 17 - m = i at *
    have e9 : 17 - (m - 1) = i + 1 := by omega
    have wi : h3.1 153 (66 + 17 * d + i) = K (66 + 17 * d + i) := by rw [k3, unN_hi (by omega) (by omega)]
    simp (disch := omega) only [pw_lt, pw_cb, pw_cbx, pw_cbxr, pw_lit, pw_litL, pw_oi, pw_oim, pw_oi8, pw_m, pw_ldI, pw_ldL, pw_ldR, pw_stI, pw_stL, pw_nz, pw_ltI, pw_leI, pw_eqI, pw_eqm, pw_eqm2, pw_ltm, pw_mlt, pw_lem, pw_mle, pw_mm, pw_dec, pw_nar0, pw_nar1, nI_add, pw_sub, pw_mul, pw_and, pw_or, pw_andn, pw_shl1, pw_shl, pw_shr, pw_dv, nI_l, lN_i, Bool.false_eq_true, reduceCtorEq, if_false, if_true, ↓reduceIte, if_pos, if_neg, r_152_0, w6, wi]
    refine hrec (m - 1) _ _ (by omega) ⟨by omega, by rw [e9], eqx_trans e3 (eqx_pI (by decide)), ?_⟩
    rw [pI_upd, k3, e9, unN_s]

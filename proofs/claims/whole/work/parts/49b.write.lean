def cutV (s : Nat) (v : Int64) : Int64 := if s = 0 then v.toInt32.toInt8.toInt32.toInt64 else if s = 1 then v.toInt32.toInt16.toInt32.toInt64 else if s = 2 then v.toInt32.toInt64 else v
set_option maxRecDepth 16384 in
theorem cut_sh : ∀ s, s < 4 → (nI 64 - nI 8 <<< (nI s &&& nI 31)).toInt64 &&& 63 = lN (64 - 8 * 2 ^ s) := by decide +kernel
set_option maxRecDepth 16384 in
theorem cut_v {s : Nat} (hs : s < 4) (v : Int64) : (v <<< lN (64 - 8 * 2 ^ s)) >>> lN (64 - 8 * 2 ^ s) = cutV s v := by
  rcases (show s = 0 ∨ s = 1 ∨ s = 2 ∨ s = 3 by omega) with rfl | rfl | rfl | rfl
  · exact cut0 v
  · exact cut1 v
  · exact cut2 v
  · exact cut3 v
set_option maxRecDepth 16384 in
theorem e_cut {h : PH} {t k s : Nat} {v : Int64} (ht : t < 4) (hk : k < 30) (hs : s < 4) (h4 : h.1 174 t = nI s) : f_X12_cut 152 (nI t) (nI k) v h = some (cutV s v, pL h 176 (30 * t + k) (cutV s v)) := by
  unfold f_X12_cut
  simp (disch := omega) only [pw_lit, r_152_36, r_152_38, pw_ldI, h4, pw_lt, cut_sh s hs, cut_v hs v, pw_mul, nI_add, pw_stL, pw_ldL, pw_pLs]
set_option maxRecDepth 16384 in
theorem c_put {h : PH} {t k s : Nat} {v : Int64} (ht : t < 4) (hk : k < 30) (hs : s < 4) (h4 : h.1 (85 + 2 * t) 0 = nI s) : f_X10_put (85 + 2 * t) (nI k) v h = some (cutV s v, pL h (86 + 2 * t) k (cutV s v)) := by
  unfold f_X10_put cutV
  rcases (show s = 0 ∨ s = 1 ∨ s = 2 ∨ s = 3 by omega) with rfl | rfl | rfl | rfl
  · simp (disch := omega) only [pw_lt, pw_cb, pw_cbx, pw_cbxr, pw_lit, pw_litL, pw_oi, pw_oim, pw_oi8, pw_m, pw_ldI, pw_ldL, pw_ldR, pw_stI, pw_stL, pw_nz, pw_ltI, pw_leI, pw_eqI, pw_eqm, pw_eqm2, pw_ltm, pw_mlt, pw_lem, pw_mle, pw_mm, pw_dec, pw_nar0, pw_nar1, nI_add, pw_sub, pw_mul, pw_and, pw_or, pw_andn, pw_shl1, pw_shl, pw_shr, pw_dv, nI_l, lN_i, Bool.false_eq_true, reduceCtorEq, if_false, if_true, ↓reduceIte, if_pos, if_neg, h4, r_tr, pw_stL]
  · simp (disch := omega) only [pw_lt, pw_cb, pw_cbx, pw_cbxr, pw_lit, pw_litL, pw_oi, pw_oim, pw_oi8, pw_m, pw_ldI, pw_ldL, pw_ldR, pw_stI, pw_stL, pw_nz, pw_ltI, pw_leI, pw_eqI, pw_eqm, pw_eqm2, pw_ltm, pw_mlt, pw_lem, pw_mle, pw_mm, pw_dec, pw_nar0, pw_nar1, nI_add, pw_sub, pw_mul, pw_and, pw_or, pw_andn, pw_shl1, pw_shl, pw_shr, pw_dv, nI_l, lN_i, Bool.false_eq_true, reduceCtorEq, if_false, if_true, ↓reduceIte, if_pos, if_neg, h4, r_tr, pw_stL]
  · simp (disch := omega) only [pw_lt, pw_cb, pw_cbx, pw_cbxr, pw_lit, pw_litL, pw_oi, pw_oim, pw_oi8, pw_m, pw_ldI, pw_ldL, pw_ldR, pw_stI, pw_stL, pw_nz, pw_ltI, pw_leI, pw_eqI, pw_eqm, pw_eqm2, pw_ltm, pw_mlt, pw_lem, pw_mle, pw_mm, pw_dec, pw_nar0, pw_nar1, nI_add, pw_sub, pw_mul, pw_and, pw_or, pw_andn, pw_shl1, pw_shl, pw_shr, pw_dv, nI_l, lN_i, Bool.false_eq_true, reduceCtorEq, if_false, if_true, ↓reduceIte, if_pos, if_neg, h4, r_tr, pw_stL]
  · simp (disch := omega) only [pw_lt, pw_cb, pw_cbx, pw_cbxr, pw_lit, pw_litL, pw_oi, pw_oim, pw_oi8, pw_m, pw_ldI, pw_ldL, pw_ldR, pw_stI, pw_stL, pw_nz, pw_ltI, pw_leI, pw_eqI, pw_eqm, pw_eqm2, pw_ltm, pw_mlt, pw_lem, pw_mle, pw_mm, pw_dec, pw_nar0, pw_nar1, nI_add, pw_sub, pw_mul, pw_and, pw_or, pw_andn, pw_shl1, pw_shl, pw_shr, pw_dv, nI_l, lN_i, Bool.false_eq_true, reduceCtorEq, if_false, if_true, ↓reduceIte, if_pos, if_neg, h4, r_tr, pw_stL]

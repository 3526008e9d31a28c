/-! ===== trays: laid, written ===== -/
def trL : List Nat := [85, 86, 87, 88, 89, 90, 91, 92]
set_option maxRecDepth 16384 in
theorem trL_m : ∀ t, t < 4 → 85 + 2 * t ∈ trL ∧ 86 + 2 * t ∈ trL := by decide
/- with other trays -/
set_option maxRecDepth 16384 in
theorem INV.t {h h' : PH} (I : INV h) (e : eqx (trL ++ 174 :: 175 :: 176 :: (scL)) h h') (f : f152 h h') (hd : HD (h.1 153) (h.1 159) (h'.1 31)) (cc : CHc (h.1 153) (h.1 159) h') (tr : ∀ t, t < 4 → TR1 t h') : INV h' := by
  obtain ⟨i1, i2, i3, i4, i5, i6, i7, i8, i9, i10, i11, i12⟩ := I
  have e153 := (e 153 (by decide)).1
  have e159 := (e 159 (by decide)).1
  have e160 := (e 160 (by decide)).1
  unfold INV
  rw [e153, e159, e160]
  refine ⟨i1, i2, i3, SKY_to e (by decide) (by decide) (by decide) (by decide) (by decide) i4, BK_to e (by decide) (by decide) (by decide) (by decide) i5, hd, cc, TP_to e f.1 (by decide) (by decide) (by decide) i8, ?_, tr, fun i hi => IM1_to e (fun c h1 h2 => (by decide : ∀ c, c < 152 → 95 ≤ c → c ∉ (trL ++ 174 :: 175 :: 176 :: (scL))) c (by omega) (by omega)) (by decide) (by decide) (by decide) (i11 i hi), WO_to e (by decide) i12⟩
  rw [(e 13 (by decide)).1, f.2.1, f.2.2]
  exact i9
set_option maxRecDepth 16384 in
theorem c_fillL {a n : Nat} {v : Int64} {h : PH} (hn : n ≤ 60000) : ok (f_J7_fill_d0a16 a n v h) (fun _ h' => eqx [a] h h' ∧ ∀ j, j < n → h'.2 a j = v) := by
  unfold f_J7_fill_d0a16
  refine ok_lt (ok_lt (lp_ok (fun m s h' => m ≤ n ∧ s = nI (n - m) ∧ eqx [a] h h' ∧ ∀ j, j < n - m → h'.2 a j = v) ?_ FU n _ h ⟨Nat.le_refl _, by rw [Nat.sub_self, pw_lit], eqx_rfl _ _, fun j hj => absurd hj (by omega)⟩ (fu_lt (by omega))))
  rintro m rec s h1 ⟨hm, rfl, e1, y1⟩ hrec
  unfold b_J7_fill_d0a16_6
  rw [show Int32.ofNat n = nI n from rfl]
  by_cases h0 : m = 0
  · subst h0
    simp (disch := omega) only [pw_lt, pw_cb, pw_cbx, pw_cbxr, pw_lit, pw_litL, pw_oi, pw_oim, pw_oi8, pw_m, pw_ldI, pw_ldL, pw_ldR, pw_stI, pw_stL, pw_nz, pw_ltI, pw_leI, pw_eqI, pw_eqm, pw_eqm2, pw_ltm, pw_mlt, pw_lem, pw_mle, pw_mm, pw_dec, pw_nar0, pw_nar1, nI_add, pw_sub, pw_mul, pw_and, pw_or, pw_andn, pw_shl1, pw_shl, pw_shr, pw_dv, nI_l, lN_i, Bool.false_eq_true, reduceCtorEq, if_false, if_true, ↓reduceIte, if_pos, if_neg, Nat.sub_zero, Nat.le_refl]
    exact ok_some ⟨e1, y1⟩
  · simp (disch := omega) only [pw_lt, pw_cb, pw_cbx, pw_cbxr, pw_lit, pw_litL, pw_oi, pw_oim, pw_oi8, pw_m, pw_ldI, pw_ldL, pw_ldR, pw_stI, pw_stL, pw_nz, pw_ltI, pw_leI, pw_eqI, pw_eqm, pw_eqm2, pw_ltm, pw_mlt, pw_lem, pw_mle, pw_mm, pw_dec, pw_nar0, pw_nar1, nI_add, pw_sub, pw_mul, pw_and, pw_or, pw_andn, pw_shl1, pw_shl, pw_shr, pw_dv, nI_l, lN_i, Bool.false_eq_true, reduceCtorEq, if_false, if_true, ↓reduceIte, if_pos, if_neg]
    refine hrec (m - 1) _ _ (by omega) ⟨by omega, by rw [show n - (m - 1) = n - m + 1 by omega], eqx_trans e1 (eqx_pL (by simp)), fun j hj => ?_⟩
    by_cases ej : j = n - m
    · subst ej
      rw [pw_pLs]
    · rw [pw_pLo (by omega)]
      exact y1 j (by omega)
set_option maxRecDepth 16384 in
theorem e_tray_lp {h : PH} {t : Nat} (ht : t < 4) : ok (lp (b_X12_tray_69 152 (nI t)) FU (nI 0) h) (fun _ h' => eqx [176] h h' ∧ (∀ k, k < 30 → h'.2 176 (30 * t + k) = lN 0) ∧ ∀ k, (k < 30 * t ∨ 30 * t + 30 ≤ k) → h'.2 176 k = h.2 176 k) := by
  refine lp_ok (fun m s h' => m ≤ 30 ∧ s = nI (30 - m) ∧ eqx [176] h h' ∧ (∀ k, k < 30 - m → h'.2 176 (30 * t + k) = lN 0) ∧ ∀ k, (k < 30 * t ∨ 30 * t + 30 ≤ k) → h'.2 176 k = h.2 176 k) ?_ FU 30 _ h ⟨Nat.le_refl _, rfl, eqx_rfl _ _, fun k hk => absurd hk (by omega), fun _ _ => rfl⟩ (fu_lt (by omega))
  rintro m rec s h1 ⟨hm, rfl, e1, y1, y2⟩ hrec
  unfold b_X12_tray_69
  by_cases h0 : m = 0
  · subst h0
    simp (disch := omega) only [pw_lt, pw_cb, pw_cbx, pw_cbxr, pw_lit, pw_litL, pw_oi, pw_oim, pw_oi8, pw_m, pw_ldI, pw_ldL, pw_ldR, pw_stI, pw_stL, pw_nz, pw_ltI, pw_leI, pw_eqI, pw_eqm, pw_eqm2, pw_ltm, pw_mlt, pw_lem, pw_mle, pw_mm, pw_dec, pw_nar0, pw_nar1, nI_add, pw_sub, pw_mul, pw_and, pw_or, pw_andn, pw_shl1, pw_shl, pw_shr, pw_dv, nI_l, lN_i, Bool.false_eq_true, reduceCtorEq, if_false, if_true, ↓reduceIte, if_pos, if_neg]
    exact ok_some ⟨e1, fun k hk => y1 k (by omega), y2⟩
  · simp (disch := omega) only [pw_lt, pw_cb, pw_cbx, pw_cbxr, pw_lit, pw_litL, pw_oi, pw_oim, pw_oi8, pw_m, pw_ldI, pw_ldL, pw_ldR, pw_stI, pw_stL, pw_nz, pw_ltI, pw_leI, pw_eqI, pw_eqm, pw_eqm2, pw_ltm, pw_mlt, pw_lem, pw_mle, pw_mm, pw_dec, pw_nar0, pw_nar1, nI_add, pw_sub, pw_mul, pw_and, pw_or, pw_andn, pw_shl1, pw_shl, pw_shr, pw_dv, nI_l, lN_i, Bool.false_eq_true, reduceCtorEq, if_false, if_true, ↓reduceIte, if_pos, if_neg, r_152_38]
    refine hrec (m - 1) _ _ (by omega) ⟨by omega, by rw [show 30 - (m - 1) = 30 - m + 1 by omega], eqx_trans e1 (eqx_pL (by simp)), fun k hk => ?_, fun k hk => ?_⟩
    · by_cases ek : k = 30 - m
      · subst ek
        rw [pw_pLs]
      · rw [pw_pLo (by omega)]
        exact y1 k (by omega)
    · rw [pw_pLo (by omega)]
      exact y2 k hk

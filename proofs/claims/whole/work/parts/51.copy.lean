/-! ===== measures, copies of skies and books ===== -/
def rgL (b n : Nat) : List Nat := List.range' b n
set_option maxRecDepth 16384 in
theorem rg_m {c b n : Nat} : c ∈ rgL b n ↔ b ≤ c ∧ c < b + n := List.mem_range'_1
set_option maxRecDepth 16384 in
theorem rg_n {c b n : Nat} (h : c < b ∨ b + n ≤ c) : c ∉ rgL b n := fun q => by
  have := rg_m.mp q
  omega
def blmN (np nd wi : Nat) : Nat := orTo (np * nd) (fun c => decide (0 < wi ∧ c / nd + wi < np ∧ c % nd + 1 < nd))
def mz (np nd wi p d : Nat) : Nat := orTo (np * nd) (fun c => decide (0 < wi ∧ c / nd + wi < np ∧ c % nd + 1 < nd ∧ (c / nd < p ∨ c / nd = p ∧ c % nd < d)))
set_option maxRecDepth 16384 in
theorem mz_lt {np nd wi p d : Nat} (hg : np * nd ≤ 12) : mz np nd wi p d < 4096 := by
  have h1 := orTo_lt (fun c => decide (0 < wi ∧ c / nd + wi < np ∧ c % nd + 1 < nd ∧ (c / nd < p ∨ c / nd = p ∧ c % nd < d))) (np * nd)
  have h2 : 2 ^ (np * nd) ≤ 2 ^ 12 := Nat.pow_le_pow_right (by decide) hg
  exact Nat.lt_of_lt_of_le h1 h2
set_option maxRecDepth 16384 in
theorem mz_0 (np nd wi : Nat) : mz np nd wi 0 0 = 0 := by
  apply Nat.eq_of_testBit_eq
  intro i
  unfold mz
  rw [orTo_tb, Nat.zero_testBit]
  have : decide (0 < wi ∧ i / nd + wi < np ∧ i % nd + 1 < nd ∧ (i / nd < 0 ∨ i / nd = 0 ∧ i % nd < 0)) = false := decide_eq_false (fun ⟨_, _, _, q⟩ => by
    rcases q with q | ⟨_, q⟩
    · exact Nat.not_lt_zero _ q
    · exact Nat.not_lt_zero _ q)
  rw [this, Bool.and_false]
def allN : Nat → (Nat → Bool) → Bool
  | 0, _ => true
  | n + 1, f => allN n f && f n
set_option maxRecDepth 16384 in
theorem allN_at {f : Nat → Bool} : ∀ {n : Nat}, allN n f = true → ∀ i, i < n → f i = true
  | 0, _, i, hi => absurd hi (Nat.not_lt_zero i)
  | n + 1, h, i, hi => by
    rw [allN, Bool.and_eq_true] at h
    rcases Nat.lt_or_ge i n with q | q
    · exact allN_at h.1 i q
    · rw [show i = n by omega]
      exact h.2
def mzS (np nd wi p d : Nat) : Bool := !(decide (np * nd ≤ 12) && decide (0 < wi) && decide (p + wi < np) && decide (d + 1 < nd)) || decide (mz np nd wi p (d + 1) = mz np nd wi p d ||| 2 ^ (nd * p + d))
set_option maxRecDepth 16384 in
theorem mzS_all : allN 5 (fun np => allN 7 (fun nd => allN 4 (fun wi => allN 4 (fun p => allN 6 (fun d => mzS np nd wi p d))))) = true := by decide +kernel
set_option maxRecDepth 16384 in
theorem mz_s {np nd wi p d : Nat} (hp : np ≤ 4) (hd : nd ≤ 6) (hg : np * nd ≤ 12) (hw : wi ≤ 3) (h0 : 0 < wi) (h1 : p + wi < np) (h2 : d + 1 < nd) : mz np nd wi p (d + 1) = mz np nd wi p d ||| 2 ^ (nd * p + d) := by
  have := allN_at (allN_at (allN_at (allN_at (allN_at mzS_all np (by omega)) nd (by omega)) wi (by omega)) p (by omega)) d (by omega)
  unfold mzS at this
  rw [decide_eq_true hg, decide_eq_true h0, decide_eq_true h1, decide_eq_true h2] at this
  exact of_decide_eq_true this
def mzR (np nd wi p : Nat) : Bool := !(decide (np * nd ≤ 12) && decide (0 < wi) && decide (p + wi < np)) || decide (mz np nd wi p (nd - 1) = mz np nd wi (p + 1) 0)
set_option maxRecDepth 16384 in
theorem mzR_all : allN 5 (fun np => allN 7 (fun nd => allN 4 (fun wi => allN 4 (fun p => mzR np nd wi p)))) = true := by decide +kernel
set_option maxRecDepth 16384 in
theorem mz_r {np nd wi p : Nat} (hp : np ≤ 4) (hd : nd ≤ 6) (hg : np * nd ≤ 12) (hw : wi ≤ 3) (h0 : 0 < wi) (h1 : p + wi < np) : mz np nd wi p (nd - 1) = mz np nd wi (p + 1) 0 := by
  have := allN_at (allN_at (allN_at (allN_at mzR_all np (by omega)) nd (by omega)) wi (by omega)) p (by omega)
  unfold mzR at this
  rw [decide_eq_true hg, decide_eq_true h0, decide_eq_true h1] at this
  exact of_decide_eq_true this
def mzE (np nd wi p : Nat) : Bool := !(decide (np * nd ≤ 12) && decide (wi = 0 ∨ np ≤ p + wi)) || decide (mz np nd wi p 0 = blmN np nd wi)
set_option maxRecDepth 16384 in
theorem mzE_all : allN 5 (fun np => allN 7 (fun nd => allN 4 (fun wi => allN 5 (fun p => mzE np nd wi p)))) = true := by decide +kernel
set_option maxRecDepth 16384 in
theorem mz_e {np nd wi p : Nat} (hp : np ≤ 4) (hd : nd ≤ 6) (hg : np * nd ≤ 12) (hw : wi ≤ 3) (hp2 : p ≤ 4) (h : wi = 0 ∨ np ≤ p + wi) : mz np nd wi p 0 = blmN np nd wi := by
  have := allN_at (allN_at (allN_at (allN_at mzE_all np (by omega)) nd (by omega)) wi (by omega)) p (by omega)
  unfold mzE at this
  rw [decide_eq_true hg, decide_eq_true h] at this
  exact of_decide_eq_true this
set_option maxRecDepth 16384 in
theorem c_measLp {h : PH} {b np nd wi : Nat} (hp : np ≤ 4) (hd : nd ≤ 6) (hg : np * nd ≤ 12) (hw : wi ≤ 3) (v1 : h.1 b 1 = nI np) (v2 : h.1 b 2 = nI nd) (v4 : h.1 b 4 = nI wi) (v10 : h.1 b 10 = nI 0) : ok (lp (b_X8_measure_47 b (fun h6 => some ((), h6))) FU (nI 0) h) (fun _ h' => eqx [b] h h' ∧ h'.1 b 10 = nI (blmN np nd wi) ∧ ∀ j, j ≠ 10 → h'.1 b j = h.1 b j) := by
  refine lp_ok (fun n s h1 => ∃ p, p + n = np ∧ s = nI p ∧ eqx [b] h h1 ∧ h1.1 b 10 = nI (mz np nd wi p 0) ∧ ∀ j, j ≠ 10 → h1.1 b j = h.1 b j) ?_ FU np _ h ⟨0, by omega, rfl, eqx_rfl _ _, by rw [v10, mz_0], fun _ _ => rfl⟩ (fu_lt (by omega))
  rintro n rec s h1 ⟨p, hpn, rfl, e1, y1, o1⟩ hrec
  have w1 : h1.1 b 1 = nI np := by rw [o1 1 (by decide)]; exact v1
  have w4 : h1.1 b 4 = nI wi := by rw [o1 4 (by decide)]; exact v4
  unfold b_X8_measure_47
  by_cases c0 : wi = 0
  · have hme := mz_e (p := p) hp hd hg hw (by omega) (Or.inl c0)
    simp (disch := omega) only [pw_lt, pw_cb, pw_cbx, pw_cbxr, pw_lit, pw_litL, pw_oi, pw_oim, pw_oi8, pw_m, pw_ldI, pw_ldL, pw_ldR, pw_stI, pw_stL, pw_nz, pw_ltI, pw_leI, pw_eqI, pw_eqm, pw_eqm2, pw_ltm, pw_mlt, pw_lem, pw_mle, pw_mm, pw_dec, pw_nar0, pw_nar1, nI_add, pw_sub, pw_mul, pw_and, pw_or, pw_andn, pw_shl1, pw_shl, pw_shr, pw_dv, nI_l, lN_i, Bool.false_eq_true, reduceCtorEq, if_false, if_true, ↓reduceIte, if_pos, if_neg, w4]
    exact ok_some ⟨e1, by rw [y1, hme], o1⟩
  · by_cases c1 : np ≤ p + wi
    · have hme := mz_e (p := p) hp hd hg hw (by omega) (Or.inr c1)
      simp (disch := omega) only [pw_lt, pw_cb, pw_cbx, pw_cbxr, pw_lit, pw_litL, pw_oi, pw_oim, pw_oi8, pw_m, pw_ldI, pw_ldL, pw_ldR, pw_stI, pw_stL, pw_nz, pw_ltI, pw_leI, pw_eqI, pw_eqm, pw_eqm2, pw_ltm, pw_mlt, pw_lem, pw_mle, pw_mm, pw_dec, pw_nar0, pw_nar1, nI_add, pw_sub, pw_mul, pw_and, pw_or, pw_andn, pw_shl1, pw_shl, pw_shr, pw_dv, nI_l, lN_i, Bool.false_eq_true, reduceCtorEq, if_false, if_true, ↓reduceIte, if_pos, if_neg, w4, w1]
      exact ok_some ⟨e1, by rw [y1, hme], o1⟩
    · simp (disch := omega) only [pw_lit, w4, w1, pw_leI, nI_add, if_neg]
      refine ok_lt (ok_lt ?_)
      refine lp_ok (fun m s2 h2 => ∃ d, d + m = nd - 1 ∧ s2 = nI d ∧ eqx [b] h h2 ∧ h2.1 b 10 = nI (mz np nd wi p d) ∧ ∀ j, j ≠ 10 → h2.1 b j = h.1 b j) ?_ FU (nd - 1) _ h1 ⟨0, by omega, rfl, e1, y1, o1⟩ (fu_lt (by omega))
      rintro m rec2 s2 h2 ⟨d, hdm, rfl, e2, y2, o2⟩ hrec2
      have x2 : h2.1 b 2 = nI nd := by rw [o2 2 (by decide)]; exact v2
      unfold b_X8_measure_69
      by_cases d0 : nd ≤ d + 1
      · have ed : d = nd - 1 := by omega
        simp (disch := omega) only [pw_lt, pw_cb, pw_cbx, pw_cbxr, pw_lit, pw_litL, pw_oi, pw_oim, pw_oi8, pw_m, pw_ldI, pw_ldL, pw_ldR, pw_stI, pw_stL, pw_nz, pw_ltI, pw_leI, pw_eqI, pw_eqm, pw_eqm2, pw_ltm, pw_mlt, pw_lem, pw_mle, pw_mm, pw_dec, pw_nar0, pw_nar1, nI_add, pw_sub, pw_mul, pw_and, pw_or, pw_andn, pw_shl1, pw_shl, pw_shr, pw_dv, nI_l, lN_i, Bool.false_eq_true, reduceCtorEq, if_false, if_true, ↓reduceIte, if_pos, if_neg, x2]
        refine hrec (n - 1) _ h2 (by omega) ⟨p + 1, by omega, rfl, e2, ?_, o2⟩
        rw [y2, ed, mz_r hp hd hg hw (by omega) (by omega)]
      · have hm : nd * (p + 1) ≤ nd * np := Nat.mul_le_mul_left _ (by omega)
        rw [Nat.mul_add, Nat.mul_one, Nat.mul_comm nd np] at hm
        have hms := mz_s hp hd hg hw (show 0 < wi by omega) (show p + wi < np by omega) (show d + 1 < nd by omega)
        simp (disch := omega) only [pw_lt, pw_cb, pw_cbx, pw_cbxr, pw_lit, pw_litL, pw_oi, pw_oim, pw_oi8, pw_m, pw_ldI, pw_ldL, pw_ldR, pw_stI, pw_stL, pw_nz, pw_ltI, pw_leI, pw_eqI, pw_eqm, pw_eqm2, pw_ltm, pw_mlt, pw_lem, pw_mle, pw_mm, pw_dec, pw_nar0, pw_nar1, nI_add, pw_sub, pw_mul, pw_and, pw_or, pw_andn, pw_shl1, pw_shr, pw_dv, nI_l, lN_i, Bool.false_eq_true, reduceCtorEq, if_false, if_true, ↓reduceIte, if_pos, if_neg, x2, y2]
        refine hrec2 (m - 1) _ _ (by omega) ⟨d + 1, by omega, rfl, eqx_trans e2 (eqx_pI (by simp)), by rw [pw_pIs, hms], fun j hj => by rw [pw_pIo (by omega)]; exact o2 j hj⟩
set_option maxRecDepth 16384 in
theorem c_measure {h : PH} {b np nd wi : Nat} (hp : np ≤ 4) (hd : nd ≤ 6) (hg : np * nd ≤ 12) (hw : wi ≤ 3) (v1 : h.1 b 1 = nI np) (v2 : h.1 b 2 = nI nd) (v4 : h.1 b 4 = nI wi) : ok (f_X8_measure b h) (fun _ h' => eqx [b] h h' ∧ h'.1 b 7 = nI (np * nd) ∧ h'.1 b 8 = nI (2 ^ (np * nd) - 1) ∧ h'.1 b 10 = nI (blmN np nd wi) ∧ h'.1 b 11 = nI (nd * wi + 1) ∧ ∀ j, j ≠ 7 → j ≠ 8 → j ≠ 10 → j ≠ 11 → h'.1 b j = h.1 b j) := by
  have hpw : 1 ≤ 2 ^ (np * nd) := Nat.one_le_two_pow
  unfold f_X8_measure
  refine ok_lt (ok_lt (ok_lt (ok_lt (ok_lt (ok_lt ?_)))))
  simp (disch := omega) only [pw_lit, pw_pIs, pw_pIo, v1, v2, v4, pw_mul, pw_and, pw_shl1, pw_sub, nI_add]
  generalize hh : pI (pI (pI (pI h b 7 (nI (np * nd))) b 8 (nI (2 ^ (np * nd) - 1))) b 10 (nI 0)) b 11 (nI (nd * wi + 1)) = h4
  have e4 : eqx [b] h h4 := by
    rw [← hh]
    exact eqx_trans (eqx_pI (by simp)) (eqx_trans (eqx_pI (by simp)) (eqx_trans (eqx_pI (by simp)) (eqx_pI (by simp))))
  have z : ∀ j, j ≠ 7 → j ≠ 8 → j ≠ 10 → j ≠ 11 → h4.1 b j = h.1 b j := fun j q1 q2 q3 q4 => by
    rw [← hh, pw_pIo (by omega), pw_pIo (by omega), pw_pIo (by omega), pw_pIo (by omega)]
  have z7 : h4.1 b 7 = nI (np * nd) := by rw [← hh, pw_pIo (by omega), pw_pIo (by omega), pw_pIo (by omega), pw_pIs]
  have z8 : h4.1 b 8 = nI (2 ^ (np * nd) - 1) := by rw [← hh, pw_pIo (by omega), pw_pIo (by omega), pw_pIs]
  have z10 : h4.1 b 10 = nI 0 := by rw [← hh, pw_pIo (by omega), pw_pIs]
  have z11 : h4.1 b 11 = nI (nd * wi + 1) := by rw [← hh, pw_pIs]
  refine ok_mono (c_measLp hp hd hg hw (by rw [z 1 (by decide) (by decide) (by decide) (by decide)]; exact v1) (by rw [z 2 (by decide) (by decide) (by decide) (by decide)]; exact v2) (by rw [z 4 (by decide) (by decide) (by decide) (by decide)]; exact v4) z10) ?_
  rintro r h' ⟨e', y10, yo⟩
  exact ⟨eqx_trans e4 e', by rw [yo 7 (by decide)]; exact z7, by rw [yo 8 (by decide)]; exact z8, y10, by rw [yo 11 (by decide)]; exact z11, fun j q1 q2 q3 q4 => by rw [yo j q3]; exact z j q1 q2 q3 q4⟩
def SRr (b : Nat) : Prop := rt b 12 = b + 1 ∧ rt b 13 = b + 2 ∧ rt b 14 = b + 3 ∧ rt b 15 = b + 4
set_option maxRecDepth 16384 in
theorem SRr_3 : SRr 3 := ⟨rfl, rfl, rfl, rfl⟩
set_option maxRecDepth 16384 in
theorem SRr_8 : SRr 8 := ⟨rfl, rfl, rfl, rfl⟩
set_option maxRecDepth 16384 in
theorem SRr_im {i : Nat} (h : i < 3) : SRr (95 + 19 * i) := by
  rcases (show i = 0 ∨ i = 1 ∨ i = 2 by omega) with rfl | rfl | rfl <;> exact ⟨rfl, rfl, rfl, rfl⟩
set_option maxRecDepth 16384 in
theorem cp_0 {h : PH} {a0 a n k : Nat} (h2 : k < n) : (cpI h a0 a 0 0 n).1 a k = h.1 a0 k := by
  rw [cp_in (by omega) (by omega), Nat.zero_add, Nat.sub_zero]
set_option maxRecDepth 16384 in
theorem c_copySky {K : Nat → Int32} {h : PH} {a b : Nat} (H : RK K) (W : KW K) (S : SKY a K h) (ra : SRr a) (rb : SRr b) (hab : a + 4 < b ∨ b + 4 < a) : ok (f_X8_copyFrom b a h) (fun _ h' => eqx (rgL b 5) h h' ∧ SKY b K h') := by
  obtain ⟨s0, s9, sb, sw, sF, sC⟩ := S
  obtain ⟨a12, a13, a14, a15⟩ := ra
  obtain ⟨b12, b13, b14, b15⟩ := rb
  obtain ⟨k0, k1, k2, k3, k4, k5, k6, k7⟩ := rk_e H
  obtain ⟨x0, x1, x2, x3, x4, x5, x6, x7, x8, x9, x10⟩ := rk_b H
  have w900 := W.2.1
  unfold f_X8_copyFrom
  refine ok_lt (ok_lt (ok_lt (ok_lt (ok_lt (ok_lt (ok_lt (ok_lt ?_)))))))
  simp (disch := omega) only [pw_pIo]
  generalize hh : pI (pI (pI (pI (pI (pI (pI (pI h b 0 (h.1 a 0)) b 1 (h.1 a 1)) b 2 (h.1 a 2)) b 3 (h.1 a 3)) b 4 (h.1 a 4)) b 5 (h.1 a 5)) b 6 (h.1 a 6)) b 9 (h.1 a 9) = h8
  have e8 : eqx [b] h h8 := by
    rw [← hh]
    exact eqx_trans (eqx_pI (by simp)) (eqx_trans (eqx_pI (by simp)) (eqx_trans (eqx_pI (by simp)) (eqx_trans (eqx_pI (by simp)) (eqx_trans (eqx_pI (by simp)) (eqx_trans (eqx_pI (by simp)) (eqx_trans (eqx_pI (by simp)) (eqx_pI (by simp))))))))
  have z0 : h8.1 b 0 = h.1 a 0 := by rw [← hh]; simp (disch := omega) only [pw_pIs, pw_pIo]
  have z1 : h8.1 b 1 = h.1 a 1 := by rw [← hh]; simp (disch := omega) only [pw_pIs, pw_pIo]
  have z2 : h8.1 b 2 = h.1 a 2 := by rw [← hh]; simp (disch := omega) only [pw_pIs, pw_pIo]
  have z3 : h8.1 b 3 = h.1 a 3 := by rw [← hh]; simp (disch := omega) only [pw_pIs, pw_pIo]
  have z4 : h8.1 b 4 = h.1 a 4 := by rw [← hh]; simp (disch := omega) only [pw_pIs, pw_pIo]
  have z5 : h8.1 b 5 = h.1 a 5 := by rw [← hh]; simp (disch := omega) only [pw_pIs, pw_pIo]
  have z6 : h8.1 b 6 = h.1 a 6 := by rw [← hh]; simp (disch := omega) only [pw_pIs, pw_pIo]
  have z9 : h8.1 b 9 = nI (gv K 65) := by rw [← s9, ← hh]; simp (disch := omega) only [pw_pIs, pw_pIo]
  simp (disch := omega) only [pw_lit, a12, a13, a14, a15, b12, b13, b14, b15, pw_cyI, cp_o, z9]
  generalize hh2 : cpI (cpI (cpI (cpI h8 (a + 1) (b + 1) 0 0 10) (a + 2) (b + 2) 0 0 10) (a + 3) (b + 3) 0 0 11) (a + 4) (b + 4) 0 0 (gv K 65) = h12
  have e12 : eqx (rgL b 5) h h12 := by
    rw [← hh2]
    exact eqx_trans (eqx_mono e8 (fun c hc => by simp at hc; exact rg_m.mpr (by omega))) (eqx_trans (eqx_cp (rg_m.mpr (by omega))) (eqx_trans (eqx_cp (rg_m.mpr (by omega))) (eqx_trans (eqx_cp (rg_m.mpr (by omega))) (eqx_cp (rg_m.mpr (by omega))))))
  have zb : ∀ j, h12.1 b j = h8.1 b j := fun j => by
    rw [← hh2, cp_o (by omega), cp_o (by omega), cp_o (by omega), cp_o (by omega)]
  have zs : ∀ c, c ≠ b → h8.1 c = h.1 c := fun c hc => (e8 c (by simpa using hc)).1
  have y1 : ∀ i, i < 10 → h12.1 (b + 1) i = h.1 (a + 1) i := fun i hi => by
    rw [← hh2, cp_o (by omega), cp_o (by omega), cp_o (by omega), cp_0 hi, zs _ (by omega)]
  have y2 : ∀ i, i < 10 → h12.1 (b + 2) i = h.1 (a + 2) i := fun i hi => by
    rw [← hh2, cp_o (by omega), cp_o (by omega), cp_0 hi, cp_o (by omega), zs _ (by omega)]
  have y3 : ∀ i, i < 11 → h12.1 (b + 3) i = h.1 (a + 3) i := fun i hi => by
    rw [← hh2, cp_o (by omega), cp_0 hi, cp_o (by omega), cp_o (by omega), zs _ (by omega)]
  have y4 : ∀ i, i < gv K 65 → h12.1 (b + 4) i = h.1 (a + 4) i := fun i hi => by
    rw [← hh2, cp_0 hi, cp_o (by omega), cp_o (by omega), cp_o (by omega), zs _ (by omega)]
  obtain ⟨t0, t1, t2, t3, t4, t5, t6, t7, t8, t10, t11⟩ := s0
  refine ok_cb (c_measure (b := b) (np := gv K 1) (nd := gv K 2) (wi := gv K 4) x1 x2 x3 x5 (by rw [zb, z1, t1]; exact k1) (by rw [zb, z2, t2]; exact k2) (by rw [zb, z4, t4]; exact k4)) ?_
  rintro r h' ⟨e', m7, m8, m10, m11, mo⟩
  have q : ∀ j, j ≠ 7 → j ≠ 8 → j ≠ 10 → j ≠ 11 → h'.1 b j = h8.1 b j := fun j q1 q2 q3 q4 => by rw [mo j q1 q2 q3 q4, zb]
  have q' : ∀ c, c ≠ b → h'.1 c = h12.1 c := fun c hc => (e' c (by simpa using hc)).1
  refine ok_some ⟨eqx_trans e12 (eqx_mono e' (fun c hc => by simp at hc; exact rg_m.mpr (by omega))), ⟨?_, ?_, ?_, ?_, ?_, ?_, ?_, m7, m8, m10, fun _ => m11⟩, ?_, fun i hi => ?_, fun i hi => ?_, fun i hi => ?_, fun k hk => ?_⟩
  · rw [q 0 (by decide) (by decide) (by decide) (by decide), z0, t0]
  · rw [q 1 (by decide) (by decide) (by decide) (by decide), z1, t1]
  · rw [q 2 (by decide) (by decide) (by decide) (by decide), z2, t2]
  · rw [q 3 (by decide) (by decide) (by decide) (by decide), z3, t3]
  · rw [q 4 (by decide) (by decide) (by decide) (by decide), z4, t4]
  · rw [q 5 (by decide) (by decide) (by decide) (by decide), z5, t5]
  · rw [q 6 (by decide) (by decide) (by decide) (by decide), z6, t6]
  · rw [q 9 (by decide) (by decide) (by decide) (by decide), z9]
  · rw [q' _ (by omega), y1 i (by omega)]; exact sb i hi
  · rw [q' _ (by omega), y2 i (by omega)]; exact sw i hi
  · rw [q' _ (by omega), y3 i (by omega)]; exact sF i hi
  · rw [q' _ (by omega), y4 k hk]; exact sC k hk
def BRr (b : Nat) : Prop := rt b 1 = b + 1 ∧ rt b 2 = b + 2 ∧ rt b 5 = b + 3 ∧ ∀ k, k < 10 → rt (b + 3) k = b + 4 + k
set_option maxRecDepth 16384 in
theorem BRr_16 : BRr 16 := ⟨rfl, rfl, rfl, by decide⟩
set_option maxRecDepth 16384 in
theorem BRr_im {i : Nat} (h : i < 3) : BRr (100 + 19 * i) := by
  rcases (show i = 0 ∨ i = 1 ∨ i = 2 by omega) with rfl | rfl | rfl <;> exact ⟨rfl, rfl, rfl, by decide⟩
set_option maxRecDepth 16384 in
theorem c_copyBookLp {h : PH} {a b : Nat} (ra : BRr a) (rb : BRr b) (hab : a + 13 < b ∨ b + 13 < a) : ok (lp (b_X0_copyFrom_56 b a) FU (nI 0) h) (fun _ h' => eqx (rgL (b + 4) 10) h h' ∧ ∀ k, k < 10 → ∀ j, j < 17 → h'.1 (b + 4 + k) j = h.1 (a + 4 + k) j) := by
  obtain ⟨a1, a2, a5, ak⟩ := ra
  obtain ⟨b1, b2, b5, bk⟩ := rb
  refine lp_ok (fun n s h1 => n ≤ 10 ∧ s = nI (10 - n) ∧ eqx (rgL (b + 4) 10) h h1 ∧ ∀ k, k < 10 - n → ∀ j, j < 17 → h1.1 (b + 4 + k) j = h.1 (a + 4 + k) j) ?_ FU 10 _ h ⟨Nat.le_refl _, rfl, eqx_rfl _ _, fun k hk => absurd hk (by omega)⟩ (fu_lt (by omega))
  rintro n rec s h1 ⟨hn, rfl, e1, y1⟩ hrec
  unfold b_X0_copyFrom_56
  by_cases h0 : n = 0
  · subst h0
    simp (disch := omega) only [pw_lt, pw_cb, pw_cbx, pw_cbxr, pw_lit, pw_litL, pw_oi, pw_oim, pw_oi8, pw_m, pw_ldI, pw_ldL, pw_ldR, pw_stI, pw_stL, pw_nz, pw_ltI, pw_leI, pw_eqI, pw_eqm, pw_eqm2, pw_ltm, pw_mlt, pw_lem, pw_mle, pw_mm, pw_dec, pw_nar0, pw_nar1, nI_add, pw_sub, pw_mul, pw_and, pw_or, pw_andn, pw_shl1, pw_shl, pw_shr, pw_dv, nI_l, lN_i, Bool.false_eq_true, reduceCtorEq, if_false, if_true, ↓reduceIte, if_pos, if_neg]
    exact ok_some ⟨e1, fun k hk => y1 k (by omega)⟩
  · generalize hi : 10 - n = i at *
    have e9 : 10 - (n - 1) = i + 1 := by omega
    have ai := ak i (by omega)
    have bi := bk i (by omega)
    simp (disch := omega) only [pw_lt, pw_cb, pw_cbx, pw_cbxr, pw_lit, pw_litL, pw_oi, pw_oim, pw_oi8, pw_m, pw_ldI, pw_ldL, pw_ldR, pw_stI, pw_stL, pw_nz, pw_ltI, pw_leI, pw_eqI, pw_eqm, pw_eqm2, pw_ltm, pw_mlt, pw_lem, pw_mle, pw_mm, pw_dec, pw_nar0, pw_nar1, nI_add, pw_sub, pw_mul, pw_and, pw_or, pw_andn, pw_shl1, pw_shl, pw_shr, pw_dv, nI_l, lN_i, Bool.false_eq_true, reduceCtorEq, if_false, if_true, ↓reduceIte, if_pos, if_neg, a5, b5, ai, bi, pw_cyI]
    refine hrec (n - 1) _ _ (by omega) ⟨by omega, by rw [e9], eqx_trans e1 (eqx_cp (rg_m.mpr (by omega))), fun k hk j hj => ?_⟩
    rw [e9] at hk
    by_cases ek : k = i
    · subst ek
      rw [cp_0 hj, (e1 _ (rg_n (by omega))).1]
    · rw [cp_o (by omega)]
      exact y1 k (by omega) j hj
set_option maxRecDepth 16384 in
theorem c_copyBook {K : Nat → Int32} {h : PH} {a b : Nat} (B : BK a K h) (ra : BRr a) (rb : BRr b) (hab : a + 13 < b ∨ b + 13 < a) : ok (f_X0_copyFrom b a h) (fun _ h' => eqx (rgL b 14) h h' ∧ BK b K h') := by
  obtain ⟨B0, B1, B2, B3, e, he, B4, B5⟩ := B
  obtain ⟨a1, a2, a5, ak⟩ := id ra
  obtain ⟨b1, b2, b5, bk⟩ := id rb
  unfold f_X0_copyFrom
  refine ok_lt ?_
  simp (disch := omega) only [pw_lit, a1, a2, b1, b2, pw_cyI, cp_o, pw_pIo]
  refine ok_lt (ok_lt (ok_lt ?_))
  simp (disch := omega) only [cp_o, pw_pIo]
  generalize hh : pI (pI (cpI (cpI (pI h b 0 (h.1 a 0)) (a + 1) (b + 1) 0 0 10) (a + 2) (b + 2) 0 0 6) b 3 (h.1 a 3)) b 4 (h.1 a 4) = h5
  have e5 : eqx (rgL b 14) h h5 := by
    rw [← hh]
    exact eqx_trans (eqx_pI (rg_m.mpr (by omega))) (eqx_trans (eqx_cp (rg_m.mpr (by omega))) (eqx_trans (eqx_cp (rg_m.mpr (by omega))) (eqx_trans (eqx_pI (rg_m.mpr (by omega))) (eqx_pI (rg_m.mpr (by omega))))))
  have z0 : h5.1 b 0 = h.1 a 0 := by rw [← hh]; simp (disch := omega) only [pw_pIs, pw_pIo, cp_o]
  have z3 : h5.1 b 3 = h.1 a 3 := by rw [← hh]; simp (disch := omega) only [pw_pIs, pw_pIo, cp_o]
  have z4 : h5.1 b 4 = h.1 a 4 := by rw [← hh]; simp (disch := omega) only [pw_pIs, pw_pIo, cp_o]
  have y1 : ∀ i, i < 10 → h5.1 (b + 1) i = h.1 (a + 1) i := fun i hi => by
    rw [← hh, pw_pIo (by omega), pw_pIo (by omega), cp_o (by omega), cp_0 hi, pw_pIo (by omega)]
  have y2 : ∀ i, i < 6 → h5.1 (b + 2) i = h.1 (a + 2) i := fun i hi => by
    rw [← hh, pw_pIo (by omega), pw_pIo (by omega), cp_0 hi, cp_o (by omega), pw_pIo (by omega)]
  have y3 : ∀ c, (c < b ∨ b + 3 < c) → h5.1 c = h.1 c := fun c hc => by
    rw [← hh]
    funext j
    rw [pw_pIo (by omega), pw_pIo (by omega), cp_o (by omega), cp_o (by omega), pw_pIo (by omega)]
  refine ok_mono (c_copyBookLp ra rb hab) ?_
  rintro r h' ⟨e', yk⟩
  have q : ∀ c, c ≤ b + 3 → h'.1 c = h5.1 c := fun c hc => (e' c (rg_n (by omega))).1
  refine ⟨eqx_trans e5 (eqx_mono e' (fun c hc => by have := rg_m.mp hc; exact rg_m.mpr (by omega))), ?_, fun i hi => ?_, fun p hp => ?_, ?_, e, he, ?_, fun k hk j hj => ?_⟩
  · rw [q b (by omega), z0]; exact B0
  · rw [q _ (by omega), y1 i hi]; exact B1 i hi
  · rw [q _ (by omega), y2 p hp]; exact B2 p hp
  · rw [q b (by omega), z3]; exact B3
  · rw [q b (by omega), z4]; exact B4
  · rw [yk _ (by omega) j hj, y3 _ (by omega)]
    exact B5 k hk j hj

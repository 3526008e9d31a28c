/-! ===== undo ===== -/
def unK (K : Nat → Int32) (n j : Nat) : Int32 := if j = 6 then nI (gv K 6 - n) else if 7 ≤ j ∧ j < 24 then K (66 + 17 * (gv K 6 - n) + (j - 7)) else K j
set_option maxRecDepth 16384 in
theorem unK_ok {K : Nat → Int32} (G : GK K) {n : Nat} (h1 : 1 ≤ n) (h2 : n ≤ gv K 6) : GK (unK K n) ∧ sameK K (unK K n) ∧ gv (unK K n) 6 = gv K 6 - n := by
  obtain ⟨H, U, W⟩ := G
  have h6l := (rk_b H).2.2.2.2.2.2.2.1
  have s : sameK K (unK K n) := fun j hj => by
    unfold unK
    rw [if_neg (by omega), if_neg (by omega)]
  obtain ⟨o, ho, hv⟩ := U (gv K 6 - n) (by omega)
  have h7 : unK K n 7 = nI o := by
    unfold unK
    rw [if_neg (by omega), if_pos (by omega)]
    exact hv
  obtain ⟨H', g6, g7⟩ := RK_same H s (d := gv K 6 - n) (o := o) (by unfold unK; rw [if_pos rfl]) (by omega) h7 ho
  refine ⟨⟨H', fun k hk => ?_, KW_same H s W⟩, s, g6⟩
  rw [g6] at hk
  rw [gv_same s (show 5 < 6 ∨ _ by omega)]
  obtain ⟨o2, ho2, hv2⟩ := U k (by omega)
  refine ⟨o2, ho2, ?_⟩
  unfold unK
  rw [if_neg (by omega), if_neg (by omega)]
  exact hv2
set_option maxRecDepth 16384 in
theorem c_takeBack {K T : Nat → Int32} {h : PH} {n : Nat} (C : CS K T h) (h1 : 1 ≤ n) (h2 : n ≤ gv K 6) : ok (f_X0_takeBack 16 (nI n) h) (fun _ h' => eqx bkS h h' ∧ CS (unK K n) T h' ∧ h'.1 16 3 = nI (gv K 6 - n)) := by
  obtain ⟨G, s, g6⟩ := unK_ok C.1 h1 h2
  obtain ⟨B0, B1, B2, B3, e, he, B4, B5⟩ := C.2.2.2.1
  have h6l := (rk_b C.1.1).2.2.2.2.2.2.2.1
  have hk6 := (rk_e C.1.1).2.2.2.2.2.2.1
  rw [hk6] at B3
  have hmod : e + (gv K 6 - n) - (e + (gv K 6 - n)) / 10 * 10 = (e + (gv K 6 - n)) % 10 := by omega
  have hv : (e + (gv K 6 - n)) % 10 < 10 := by omega
  have hrow := fun j (hj : j < 17) => B5 (gv K 6 - n) (by omega) j hj
  have hrow : ∀ j, j < 17 → h.1 (20 + (e + (gv K 6 - n)) % 10) j = K (66 + 17 * (gv K 6 - n) + j) := hrow
  unfold f_X0_takeBack
  simp (disch := omega) only [pw_lt, pw_cb, pw_cbx, pw_cbxr, pw_lit, pw_litL, pw_oi, pw_oim, pw_oi8, pw_m, pw_ldI, pw_ldL, pw_ldR, pw_stI, pw_stL, pw_nz, pw_ltI, pw_leI, pw_eqI, pw_eqm, pw_eqm2, pw_ltm, pw_mlt, pw_lem, pw_mle, pw_mm, pw_dec, pw_nar0, pw_nar1, nI_add, pw_sub, pw_mul, pw_and, pw_or, pw_andn, pw_shl1, pw_shl, pw_shr, pw_dv, nI_l, lN_i, Bool.false_eq_true, reduceCtorEq, if_false, if_true, ↓reduceIte, if_pos, if_neg, B3, B4, pw_pIs, pw_pIo, hmod, r_16_5, r_19, r_16_1, r_16_2, hrow, pw_cyI]
  refine ok_some ?_
  generalize hx : (e + (gv K 6 - n)) % 10 = x at *
  generalize hh : pI (pI h 16 3 (nI (gv K 6 - n))) 16 0 (K (66 + 17 * (gv K 6 - n) + 0)) = h3
  have e3 : eqx [16] h h3 := by rw [← hh]; exact eqx_trans (eqx_pI (by decide)) (eqx_pI (by decide))
  have v0 : h3.1 16 0 = K (66 + 17 * (gv K 6 - n) + 0) := by rw [← hh, pw_pIs]
  have v3 : h3.1 16 3 = nI (gv K 6 - n) := by rw [← hh, pw_pIo (by omega), pw_pIs]
  have v4 : h3.1 16 4 = nI e := by rw [← hh, pw_pIo (by omega), pw_pIo (by omega)]; exact B4
  have hr3 : ∀ j, j < 17 → h3.1 (20 + x) j = K (66 + 17 * (gv K 6 - n) + j) := fun j hj => by rw [(e3 (20 + x) (by simp; omega)).1]; exact hrow j hj
  have ee : eqx bkS h (cpI (cpI h3 (20 + x) 17 1 0 10) (20 + x) 18 11 0 6) := eqx_trans (eqx_mono e3 (by decide)) (eqx_trans (eqx_cp (by decide)) (eqx_cp (by decide)))
  refine ⟨ee, C.k ee G s ⟨?_, fun i hi => ?_, fun p hp => ?_, ?_, e, he, ?_, fun k hk j hj => ?_⟩, ?_⟩
  · rw [cp_o (by omega), cp_o (by omega), v0]
    unfold unK
    rw [if_neg (by omega), if_pos (by omega)]
  · show (cpI (cpI h3 (20 + x) 17 1 0 10) (20 + x) 18 11 0 6).1 17 i = _
    rw [cp_o (by omega), cp_in (by omega) (by omega), hr3 _ (by omega)]
    unfold unK
    rw [if_neg (by omega), if_pos (by omega)]
    congr 1
    omega
  · show (cpI (cpI h3 (20 + x) 17 1 0 10) (20 + x) 18 11 0 6).1 18 p = _
    rw [cp_in (by omega) (by omega), cp_o (by omega), hr3 _ (by omega)]
    unfold unK
    rw [if_neg (by omega), if_pos (by omega)]
    congr 1
    omega
  · rw [cp_o (by omega), cp_o (by omega), v3]
    unfold unK
    rw [if_pos rfl]
  · rw [cp_o (by omega), cp_o (by omega)]
    exact v4
  · rw [g6] at hk
    rw [cp_o (by omega), cp_o (by omega), (e3 _ (by simp; omega)).1, B5 k (by omega) j hj]
    unfold unK
    rw [if_neg (by omega), if_neg (by omega)]
  · rw [cp_o (by omega), cp_o (by omega), v3]

set_option maxRecDepth 16384 in
theorem getD_app {l : List Nat} {x i : Nat} (hi : i < l.length + 1) : (l ++ [x]).getD i 0 = if i < l.length then l.getD i 0 else x := by
  by_cases h : i < l.length
  · rw [if_pos h, List.getD_eq_getElem?_getD, List.getD_eq_getElem?_getD, List.getElem?_append_left h]
  · rw [if_neg h, List.getD_eq_getElem?_getD, List.getElem?_append_right (by omega)]
    have : i - l.length = 0 := by omega
    rw [this]
    rfl
set_option maxRecDepth 16384 in
theorem grO_1024 {K T : Nat → Int32} (H : RK K) {o p : Nat} : grO K T o p < 1024 := by
  have h1 : grO K T o p ≤ hw K T (wx K p) := Nat.and_le_left
  have h2 := hw_lt (T := T) H (wx K p)
  omega
set_option maxRecDepth 16384 in
theorem c_settle {h : PH} {K T : Nat → Int32} {o : Nat} (F : FC K T h) (ho : h.1 16 0 = nI o) (ho2 : o < 1024) : ok (f_X2_settle 33 h) (fun _ h' => eqx [31, 32, 33, 34, 35] h h' ∧ FC K T h' ∧ h'.1 33 8 = nI 1 ∧ h'.1 33 7 = nI o ∧ CT2 K T o h') := by
  obtain ⟨H, S, C, D⟩ := id F
  obtain ⟨k0, k1, k2, k3, k4, k5, k6, k7⟩ := rk_e H
  obtain ⟨b0, b1, b2, b3, b4, b5, b6, b7, b8, b9, b10⟩ := rk_b H
  have hp2 : 2 ^ gv K 5 ≤ 2 ^ 10 := Nat.pow_le_pow_right (by decide) b6
  have e1024 : 2 ^ 10 = 1024 := rfl
  unfold f_X2_settle
  refine ok_lt (ok_lt (ok_lt ?_))
  generalize hh3 : pI (pI (pI h 33 7 (h.1 (rt 33 1) 0)) 33 8 1) 33 4 0 = h3
  have e3 : eqx [31, 32, 33, 34, 35] h h3 := by
    rw [← hh3]
    exact eqx_trans (eqx_trans (eqx_pI (by decide)) (eqx_pI (by decide))) (eqx_pI (by decide))
  have v7 : h3.1 33 7 = nI o := by rw [← hh3, pw_pIo (by omega), pw_pIo (by omega), pw_pIs, r_33_1, ho]
  have v8 : h3.1 33 8 = nI 1 := by rw [← hh3, pw_pIo (by omega), pw_pIs, pw_lit]
  have v4 : h3.1 33 4 = nI 0 := by rw [← hh3, pw_pIs, pw_lit]
  have F3 : FC K T h3 := by
    refine F.to2 (S := [33]) ?_ (by decide) (by decide) (by decide) (by decide)
    rw [← hh3]
    exact eqx_trans (eqx_trans (eqx_pI (by decide)) (eqx_pI (by decide))) (eqx_pI (by decide))
  rw [r_33_5]
  refine ok_cb (c_fill (by omega)) ?_
  rintro r4 h5 ⟨e5, f5⟩
  have e5' : eqx [31, 32, 33, 34, 35] h h5 := eqx_trans e3 (eqx_mono e5 (fun c hc => by simp at hc; simp [hc]))
  have F5 : FC K T h5 := F3.to2 e5 (by decide) (by decide) (by decide) (by decide)
  have w4 : h5.1 33 4 = nI 0 := by rw [(e5 33 (by decide)).1, v4]
  have w7 : h5.1 33 7 = nI o := by rw [(e5 33 (by decide)).1, v7]
  have w8 : h5.1 33 8 = nI 1 := by rw [(e5 33 (by decide)).1, v8]
  clear hh3 v7 v8 v4 e3 F3 e5
  refine ok_lt (ok_join (fun h7 => eqx [31, 32, 33, 34, 35] h h7 ∧ FC K T h7 ∧ h7.1 33 8 = nI 1 ∧ h7.1 33 7 = nI o ∧ h7.1 33 4 = nI (aL K T o (ga K + 1)).length ∧ (∀ i, i < (aL K T o (ga K + 1)).length → h7.1 34 i = nI ((aL K T o (ga K + 1)).getD i 0)) ∧ ∀ s, s < 1024 → h7.1 35 s = oI (bestP (fun p => ablo K T o p && decide (grO K T o p = s)) (ga K + 1))) ?_ (fun j hj => ?_))
  · rintro h7 ⟨e7, F7, z8, z7, z4, za, zl⟩
    refine ok_cb (c_spread (K := K) (T := T) (o := o) H F7.2.1 (fun s hs => by rw [zl s (by omega), Psi_0])) ?_
    rintro r8 h9 ⟨e9, y9⟩
    have q33 := (e9 33 (by decide)).1
    have q34 := (e9 34 (by decide)).1
    refine ok_some ⟨eqx_trans e7 (eqx_mono e9 (fun c hc => by simp at hc; simp [hc])), F7.to2 e9 (by decide) (by decide) (by decide) (by decide), by rw [q33]; exact z8, by rw [q33]; exact z7, by rw [q33]; exact z4, fun i hi => by rw [q34]; exact za i hi, y9⟩
  · refine lp_ok (fun n s h7 => n ≤ ga K + 1 ∧ s = nI (ga K + 1 - n) ∧ eqx [31, 32, 33, 34, 35] h h7 ∧ FC K T h7 ∧ h7.1 33 8 = nI 1 ∧ h7.1 33 7 = nI o ∧ h7.1 33 4 = nI (aL K T o (ga K + 1 - n)).length ∧ (∀ i, i < (aL K T o (ga K + 1 - n)).length → h7.1 34 i = nI ((aL K T o (ga K + 1 - n)).getD i 0)) ∧ ∀ s, s < 1024 → h7.1 35 s = oI (bestP (fun p => ablo K T o p && decide (grO K T o p = s)) (ga K + 1 - n))) ?_ FU (ga K + 1) _ h5 ⟨Nat.le_refl _, by rw [Nat.sub_self, pw_lit], e5', F5, w8, w7, by rw [Nat.sub_self]; exact w4, fun i hi => by rw [Nat.sub_self] at hi; exact absurd hi (Nat.not_lt_zero _), fun s hs => by rw [f5 s hs, Nat.sub_self]; rfl⟩ (fu_lt (by omega))
    rintro n rec s h7 ⟨hn, rfl, e7, F7, z8, z7, z4, za, zl⟩ hrec
    have s8 := F7.2.1.2.2.2.2.2.2.2.2.1
    unfold b_X2_settle_31
    by_cases h0 : n = 0
    · subst h0
      simp (disch := omega) only [pw_lt, pw_cb, pw_cbx, pw_cbxr, pw_lit, pw_litL, pw_oi, pw_oim, pw_oi8, pw_m, pw_ldI, pw_ldL, pw_ldR, pw_stI, pw_stL, pw_nz, pw_ltI, pw_leI, pw_eqI, pw_eqm, pw_eqm2, pw_ltm, pw_mlt, pw_lem, pw_mle, pw_mm, pw_dec, pw_nar0, pw_nar1, nI_add, pw_sub, pw_mul, pw_and, pw_or, pw_andn, pw_shl1, pw_shl, pw_shr, pw_dv, nI_l, lN_i, Bool.false_eq_true, reduceCtorEq, if_false, if_true, ↓reduceIte, if_pos, if_neg, r_33_0, s8]
      exact hj h7 ⟨e7, F7, z8, z7, z4, za, zl⟩
    · generalize hp : ga K + 1 - n = p at *
      have hpa : p ≤ ga K := by omega
      have e9 : ga K + 1 - (n - 1) = p + 1 := by omega
      simp (disch := omega) only [pw_lt, pw_cb, pw_cbx, pw_cbxr, pw_lit, pw_litL, pw_oi, pw_oim, pw_oi8, pw_m, pw_ldI, pw_ldL, pw_ldR, pw_stI, pw_stL, pw_nz, pw_ltI, pw_leI, pw_eqI, pw_eqm, pw_eqm2, pw_ltm, pw_mlt, pw_lem, pw_mle, pw_mm, pw_dec, pw_nar0, pw_nar1, nI_add, pw_sub, pw_mul, pw_and, pw_or, pw_andn, pw_shl1, pw_shl, pw_shr, pw_dv, nI_l, lN_i, Bool.false_eq_true, reduceCtorEq, if_false, if_true, ↓reduceIte, r_33_0, r_33_2, s8, z7]
      rw [if_neg (by omega)]
      refine ok_cb (c_whyNot F7 hpa ho2) ?_
      rintro r10 h11 ⟨rfl, e11, F11⟩
      have q33 := (e11 33 (by decide)).1
      have q34 := (e11 34 (by decide)).1
      have q35 := (e11 35 (by decide)).1
      have hwl : wyo K T o p ≤ 3 := by
        unfold wyo
        split
        · omega
        · split <;> omega
      have hal := aL_len K T o p
      by_cases hw0 : wyo K T o p = 0
      · have ha : ablo K T o p = true := decide_eq_true hw0
        have w4 := z4
        have w7 := z7
        rw [← q33] at w4 w7
        simp (disch := omega) only [pw_lt, pw_cb, pw_cbx, pw_cbxr, pw_lit, pw_litL, pw_oi, pw_oim, pw_oi8, pw_m, pw_ldI, pw_ldL, pw_ldR, pw_stI, pw_stL, pw_nz, pw_ltI, pw_leI, pw_eqI, pw_eqm, pw_eqm2, pw_ltm, pw_mlt, pw_lem, pw_mle, pw_mm, pw_dec, pw_nar0, pw_nar1, nI_add, pw_sub, pw_mul, pw_and, pw_or, pw_andn, pw_shl1, pw_shl, pw_shr, pw_dv, nI_l, lN_i, Bool.false_eq_true, reduceCtorEq, if_false, if_true, ↓reduceIte, if_pos, if_neg, hw0, r_33_3, w4, pw_pIs, pw_pIo]
        generalize hh : pI (pI h11 34 (aL K T o p).length (nI p)) 33 4 (nI ((aL K T o p).length + 1)) = h15
        have e15 : eqx [33, 34] h11 h15 := by
          rw [← hh]
          exact eqx_trans (eqx_pI (by decide)) (eqx_pI (by decide))
        have F15 : FC K T h15 := F11.to2 e15 (by decide) (by decide) (by decide) (by decide)
        have y8 : h15.1 33 8 = nI 1 := by rw [← hh, pw_pIo (by omega), pw_pIo (by omega), q33, z8]
        have y7 : h15.1 33 7 = nI o := by rw [← hh, pw_pIo (by omega), pw_pIo (by omega), q33, z7]
        have y4 : h15.1 33 4 = nI ((aL K T o p).length + 1) := by rw [← hh, pw_pIs]
        have ya : ∀ i, i < (aL K T o p).length + 1 → h15.1 34 i = nI ((aL K T o p ++ [p]).getD i 0) := fun i hi => by
          rw [getD_app hi, ← hh, pw_pIo (by omega)]
          by_cases ei : i = (aL K T o p).length
          · subst ei
            rw [pw_pIs, if_neg (Nat.lt_irrefl _)]
          · rw [pw_pIo (by omega), q34, if_pos (by omega)]
            exact za i (by omega)
        have y35 : h15.1 35 = h7.1 35 := by rw [(e15 35 (by decide)).1, q35]
        rw [w7]
        clear hh w4 w7
        refine ok_cb (c_grantedBy F15 hpa) ?_
        rintro r16 h17 ⟨rfl, e17, F17⟩
        have hg := grO_1024 (T := T) H (o := o) (p := p)
        have hgd : hw K T (wx K p) &&& o = grO K T o p := rfl
        have p35 := (e17 35 (by decide)).1
        have p33 := (e17 33 (by decide)).1
        have p34 := (e17 34 (by decide)).1
        have v1 := zl (grO K T o p) hg
        rw [← y35, ← p35] at v1
        have hls := c_lesser (h := h17) (a := bestP (fun q => ablo K T o q && decide (grO K T o q = grO K T o p)) p) (b := some p) (best_lt6 (by omega)) (fun q hq => by cases hq; omega)
        rw [lsr_new (by omega) (by simp [ha])] at hls
        have hls : f_X2_lesser (oI (bestP (fun q => ablo K T o q && decide (grO K T o q = grO K T o p)) p)) (nI p) h17 = _ := hls
        rw [hgd]
        simp (disch := omega) only [pw_lt, pw_cb, pw_cbx, pw_cbxr, pw_lit, pw_litL, pw_oi, pw_oim, pw_oi8, pw_m, pw_ldI, pw_ldL, pw_ldR, pw_stI, pw_stL, pw_nz, pw_ltI, pw_leI, pw_eqI, pw_eqm, pw_eqm2, pw_ltm, pw_mlt, pw_lem, pw_mle, pw_mm, pw_dec, pw_nar0, pw_nar1, nI_add, pw_sub, pw_mul, pw_and, pw_or, pw_andn, pw_shl1, pw_shl, pw_shr, pw_dv, nI_l, lN_i, Bool.false_eq_true, reduceCtorEq, if_false, if_true, ↓reduceIte, if_pos, if_neg, r_33_5, v1, hls]
        have e18 : eqx [31, 32, 33, 34, 35] h (pI h17 35 (grO K T o p) (oI (bestP (fun q => ablo K T o q && decide (grO K T o q = grO K T o p)) (p + 1)))) := eqx_trans e7 (eqx_trans (eqx_mono e11 (fun c hc => by simp at hc; rcases hc with rfl | rfl <;> simp)) (eqx_trans (eqx_mono e15 (fun c hc => by simp at hc; rcases hc with rfl | rfl <;> simp)) (eqx_trans (eqx_mono e17 (fun c hc => by simp at hc; rcases hc with rfl | rfl <;> simp)) (eqx_pI (by decide)))))
        have aLs : aL K T o (p + 1) = aL K T o p ++ [p] := by rw [aL_s, ha]; rfl
        refine hrec (n - 1) _ _ (by omega) ⟨by omega, by rw [e9], e18, F17.to2 (eqx_pI (S := [35]) (by decide)) (by decide) (by decide) (by decide) (by decide), by rw [pw_pIo (by omega), p33]; exact y8, by rw [pw_pIo (by omega), p33]; exact y7, by rw [pw_pIo (by omega), p33, e9, aLs, List.length_append]; exact y4, fun i hi => ?_, fun s hs => ?_⟩
        · rw [e9, aLs] at hi ⊢
          rw [List.length_append] at hi
          rw [pw_pIo (by omega), p34]
          exact ya i hi
        · rw [e9]
          by_cases es : s = grO K T o p
          · subst es
            rw [pw_pIs]
          · rw [pw_pIo (by omega), p35, y35, zl s hs, best_skip]
            rw [ha, decide_eq_false (fun q => es q.symm)]
            rfl
      · have ha : ablo K T o p = false := decide_eq_false hw0
        have aLs : aL K T o (p + 1) = aL K T o p := by rw [aL_s, ha]; simp
        simp (disch := omega) only [pw_lt, pw_cb, pw_cbx, pw_cbxr, pw_lit, pw_litL, pw_oi, pw_oim, pw_oi8, pw_m, pw_ldI, pw_ldL, pw_ldR, pw_stI, pw_stL, pw_nz, pw_ltI, pw_leI, pw_eqI, pw_eqm, pw_eqm2, pw_ltm, pw_mlt, pw_lem, pw_mle, pw_mm, pw_dec, pw_nar0, pw_nar1, nI_add, pw_sub, pw_mul, pw_and, pw_or, pw_andn, pw_shl1, pw_shl, pw_shr, pw_dv, nI_l, lN_i, Bool.false_eq_true, reduceCtorEq, if_false, if_true, ↓reduceIte, if_pos, if_neg, hw0]
        refine hrec (n - 1) _ _ (by omega) ⟨by omega, by rw [e9], eqx_trans e7 (eqx_mono e11 (fun c hc => by simp at hc; rcases hc with rfl | rfl <;> simp)), F11, by rw [q33]; exact z8, by rw [q33]; exact z7, by rw [q33, e9, aLs]; exact z4, fun i hi => ?_, fun s hs => ?_⟩
        · rw [e9, aLs] at hi ⊢
          rw [q34]
          exact za i hi
        · rw [e9, q35, zl s hs, best_skip]
          rw [ha]
          rfl
set_option maxRecDepth 16384 in
theorem c_settled {h : PH} {K T : Nat → Int32} (F : FC K T h) (Cc : CHc K T h) (ho : h.1 16 0 = nI (gv K 7)) : ok (f_X2_settled 33 h) (fun _ h' => eqx [31, 32, 33, 34, 35] h h' ∧ FC K T h' ∧ CHc K T h' ∧ CT2 K T (gv K 7) h' ∧ h'.1 33 7 = nI (gv K 7)) := by
  obtain ⟨b0, b1, b2, b3, b4, b5, b6, b7, b8, b9, b10⟩ := rk_b F.1
  unfold f_X2_settled
  refine ok_join (fun h1 => eqx [31, 32, 33, 34, 35] h h1 ∧ FC K T h1 ∧ CHc K T h1 ∧ CT2 K T (gv K 7) h1 ∧ h1.1 33 7 = nI (gv K 7)) (fun h1 q => ok_some q) (fun j hj => ?_)
  have hs : ok (f_X2_settle 33 h) (fun _ h1 => eqx [31, 32, 33, 34, 35] h h1 ∧ FC K T h1 ∧ CHc K T h1 ∧ CT2 K T (gv K 7) h1 ∧ h1.1 33 7 = nI (gv K 7)) := ok_mono (c_settle F ho b8) (fun r h' q => ⟨q.1, q.2.1, Or.inr ⟨q.2.2.1, gv K 7, b8, q.2.2.2.1, q.2.2.2.2⟩, q.2.2.2.2, q.2.2.2.1⟩)
  refine ok_join (fun h1 => h1 = h) (fun h1 q => ?_) (fun j2 hj2 => ?_)
  · subst q
    exact ok_cb hs (fun _ h4 q => hj h4 q)
  · rcases id Cc with c | ⟨c, o, h1, h2, h3⟩
    · simp (disch := omega) only [pw_lt, pw_cb, pw_cbx, pw_cbxr, pw_lit, pw_litL, pw_oi, pw_oim, pw_oi8, pw_m, pw_ldI, pw_ldL, pw_ldR, pw_stI, pw_stL, pw_nz, pw_ltI, pw_leI, pw_eqI, pw_eqm, pw_eqm2, pw_ltm, pw_mlt, pw_lem, pw_mle, pw_mm, pw_dec, pw_nar0, pw_nar1, nI_add, pw_sub, pw_mul, pw_and, pw_or, pw_andn, pw_shl1, pw_shl, pw_shr, pw_dv, nI_l, lN_i, Bool.false_eq_true, reduceCtorEq, if_false, if_true, ↓reduceIte, if_pos, if_neg, c]
      exact hj2 h rfl
    · by_cases e : o = gv K 7
      · subst e
        simp (disch := omega) only [pw_lt, pw_cb, pw_cbx, pw_cbxr, pw_lit, pw_litL, pw_oi, pw_oim, pw_oi8, pw_m, pw_ldI, pw_ldL, pw_ldR, pw_stI, pw_stL, pw_nz, pw_ltI, pw_leI, pw_eqI, pw_eqm, pw_eqm2, pw_ltm, pw_mlt, pw_lem, pw_mle, pw_mm, pw_dec, pw_nar0, pw_nar1, nI_add, pw_sub, pw_mul, pw_and, pw_or, pw_andn, pw_shl1, pw_shl, pw_shr, pw_dv, nI_l, lN_i, Bool.false_eq_true, reduceCtorEq, if_false, if_true, ↓reduceIte, if_pos, if_neg, c, h2, r_33_1, ho]
        exact hj h ⟨eqx_rfl _ _, F, Cc, h3, h2⟩
      · simp (disch := omega) only [pw_lt, pw_cb, pw_cbx, pw_cbxr, pw_lit, pw_litL, pw_oi, pw_oim, pw_oi8, pw_m, pw_ldI, pw_ldL, pw_ldR, pw_stI, pw_stL, pw_nz, pw_ltI, pw_leI, pw_eqI, pw_eqm, pw_eqm2, pw_ltm, pw_mlt, pw_lem, pw_mle, pw_mm, pw_dec, pw_nar0, pw_nar1, nI_add, pw_sub, pw_mul, pw_and, pw_or, pw_andn, pw_shl1, pw_shl, pw_shr, pw_dv, nI_l, lN_i, Bool.false_eq_true, reduceCtorEq, if_false, if_true, ↓reduceIte, if_pos, if_neg, c, h2, r_33_1, ho]
        exact hj2 h rfl

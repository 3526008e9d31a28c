/-! ===== gains and the best rule: the reference ===== -/
set_option maxRecDepth 16384 in
theorem e_isWishN {h : PH} {i : Nat} (H : RK (h.1 153)) (hi : i < 2147483648) : f_X12_isWish 152 (nI i) h = some (bI (decide (i < gv (h.1 153) 5)), h) := by
  obtain ⟨b0, b1, b2, b3, b4, b5, b6, b7, b8, b9, b10⟩ := rk_b H
  rw [e_isWish H]
  refine congrArg (fun z => some (bI z, h)) (decide_eq_decide.mpr ?_)
  constructor
  · rintro ⟨k, hk, e⟩
    have := (pw_eqI hi (show k < 2147483648 by omega)).mp e
    omega
  · intro q
    exact ⟨i, q, rfl⟩
set_option maxRecDepth 16384 in
theorem AR0 {K : Nat → Int32} {h : PH} (H : RK K) (h1 : ∀ i, i < 10 → h.1 166 i = K (8 + i)) (h2 : ∀ i, i < 10 → h.1 167 i = K (34 + i)) : AR K (A0f K) (W0f K) h := by
  have h6 := H.2.2.2.2.2.2.2.1
  exact ⟨fun i hi => h1 i (by omega), fun i hi => h2 i (by omega)⟩
set_option maxRecDepth 16384 in
theorem RG.to3 {K T : Nat → Int32} {h h' : PH} (R : RG K T h) (e : eqx [165, 166, 167] h h') : RG K T h' := R.to e (by decide) (by decide) (by decide) (by decide) (by decide)
set_option maxRecDepth 16384 in
theorem e_shareFin {K T : Nat → Int32} {h h6 : PH} {pr rule w i : Nat} (R : RG K T h) (hp : pr < 6) (hr : rule < 4) (e6 : eqx [165, 166, 167] h h6) (A6 : AR K (Asr K w i) (Wsr K w i) h6) : ok (cb (f_X12_serves 152 (nI rule) (nI (Osr K w i)) h6) (fun r14 h15 => cb (f_X12_shareOf 152 (nI pr) r14 h15) (fun r16 h17 => some (r16, h17)))) (fun r h' => r = nI (shv K T pr rule w i) ∧ eqx [165, 166, 167] h h') := by
  obtain ⟨⟨H, r1, r2, r3, r4⟩, g1, g2⟩ := id R
  have R6 := R.to3 e6
  refine ok_cb (e_serves R6 A6 (Osr_lt H w i) hr) ?_
  rintro r h7 ⟨rfl, e7⟩
  have e67 := eqx_trans e6 (eqx_mono e7 (fun c hc => by simp at hc; simp [hc]))
  have hsl := svS_lt (T := T) (A := Asr K w i) (W := Wsr K w i) (rule := rule) H (Osr_lt H w i)
  have hsd : sv K T (kk K T (Asr K w i) (Wsr K w i) (Osr K w i) rule 99) 10 (Osr K w i) 0 = svS K T (Asr K w i) (Wsr K w i) (Osr K w i) rule := rfl
  have hsh := e_shareOf (h := h7) (pr := pr) H (by rw [(e67 153 (by decide)).1]; exact r1) hsl hp
  rw [hsd]
  simp (disch := omega) only [pw_lt, pw_cb, pw_cbx, pw_cbxr, pw_lit, pw_litL, pw_oi, pw_oim, pw_oi8, pw_m, pw_ldI, pw_ldL, pw_ldR, pw_stI, pw_stL, pw_nz, pw_ltI, pw_leI, pw_eqI, pw_eqm, pw_eqm2, pw_ltm, pw_mlt, pw_lem, pw_mle, pw_mm, pw_dec, pw_nar0, pw_nar1, nI_add, pw_sub, pw_mul, pw_and, pw_or, pw_andn, pw_shl1, pw_shl, pw_shr, pw_dv, nI_l, lN_i, Bool.false_eq_true, reduceCtorEq, if_false, if_true, ↓reduceIte, if_pos, if_neg, hsh]
  exact ok_some ⟨rfl, e67⟩
set_option maxRecDepth 16384 in
theorem e_shareBy {K T : Nat → Int32} {h : PH} {pr rule n : Nat} (R : RG K T h) (hp : pr < 6) (hr : rule < 4) (hn : n < 30) : ok (f_X12_shareBy 152 (nI pr) (nI rule) (nI (10 + n)) h) (fun r h' => r = (if okg K pr n = true then nI (shv K T pr rule (n / 10 + 1) (n % 10)) else mI) ∧ eqx [165, 166, 167] h h') := by
  obtain ⟨⟨H, r1, r2, r3, r4⟩, g1, g2⟩ := id R
  obtain ⟨b0, b1, b2, b3, b4, b5, b6, b7, b8, b9, b10⟩ := rk_b H
  have hW := H.2.2.2.2.2.2.2.2.2.2.2
  have hk7 := (rk_e H).2.2.2.2.2.2.2
  have hiw := e_isWishN (h := h) (i := n % 10) (by rw [r1]; exact H) (by omega)
  have hio := e_isOpen (h := h) (k := n % 10) (by rw [r1]; exact H) (by omega)
  rw [r1] at hiw hio
  have hn1 : 10 + n - (10 + n) / 10 * 10 = n % 10 := by omega
  have hdm := Nat.div_add_mod n 10
  have hfin := fun h6 w => e_shareFin (h := h) (h6 := h6) (w := w) (i := n % 10) R hp hr
  generalize hi : n % 10 = i at *
  have hno : okg K pr n = false → ok (some (mI, h)) (fun r h' => r = (if okg K pr n = true then nI (shv K T pr rule (n / 10 + 1) i) else mI) ∧ eqx [165, 166, 167] h h') := fun q => ok_some ⟨by rw [q]; rfl, eqx_rfl _ _⟩
  by_cases h1 : i < gv K 5
  · have hil := h1
    obtain ⟨⟨w1, w2⟩, -, ⟨w3, w4⟩⟩ := hW i h1
    rw [decide_eq_true h1] at hiw
    rcases tf ((gv K 7).testBit i) with h2 | h2
    · have hk : okg K pr n = false := by unfold okg okd; rw [hi, h2, Bool.false_and, Bool.and_false]
      rw [h2] at hio
      unfold f_X12_shareBy
      simp (disch := omega) only [pw_lit, pw_nz, pw_dv, pw_mul, pw_sub, hn1]
      refine ok_lt ?_
      rw [hiw]
      simp (disch := omega) only [pw_cb]
      refine ok_join (fun h1 => h1 = h) (fun h1 q => ?_) (fun j hj => ?_)
      · subst q
        exact hno hk
      · simp (disch := omega) only [pw_lt, pw_cb, pw_cbx, pw_cbxr, pw_lit, pw_litL, pw_oi, pw_oim, pw_oi8, pw_m, pw_ldI, pw_ldL, pw_ldR, pw_stI, pw_stL, pw_nz, pw_ltI, pw_leI, pw_eqI, pw_eqm, pw_eqm2, pw_ltm, pw_mlt, pw_lem, pw_mle, pw_mm, pw_dec, pw_nar0, pw_nar1, nI_add, pw_sub, pw_mul, pw_and, pw_or, pw_andn, pw_shl1, pw_shl, pw_shr, pw_dv, nI_l, lN_i, Bool.false_eq_true, reduceCtorEq, if_false, if_true, ↓reduceIte, if_pos, if_neg, bI_0', hio]
        exact hj h rfl
    · rw [h2] at hio
      by_cases h3 : gv K (24 + i) = pr
      · have hw : n < 10 ∨ (10 ≤ n ∧ n < 20) ∨ 20 ≤ n := by omega
        have hok1 : n < 10 → ¬ gv K (44 + i) = 1 → okg K pr n = true := fun q1 h4 => by unfold okg okd; rw [hi, h2, decide_eq_true h1, decide_eq_true h3, decide_eq_false h4, Bool.and_false]; rfl
        have hok2 : ¬ n < 10 → okg K pr n = true := fun q1 => by unfold okg okd; rw [hi, h2, decide_eq_true h1, decide_eq_true h3, decide_eq_false (show ¬ n / 10 + 1 = 1 by omega)]; rfl
        unfold f_X12_shareBy
        simp (disch := omega) only [pw_lit, pw_nz, pw_dv, pw_mul, pw_sub, hn1]
        refine ok_lt ?_
        rw [hiw]
        simp (disch := omega) only [pw_cb]
        refine ok_join (fun h1 => h1 = h ∧ okg K pr n = false) (fun h1 q => ?_) (fun j58 hj58 => ?_)
        · obtain ⟨rfl, q⟩ := q
          exact hno q
        · simp (disch := omega) only [bI_0', Bool.true_eq_false, if_false, hio, pw_cb, r_152_0, pw_ldI, r1, w1, nI_add, pw_eqI, h3, if_true]
          refine ok_join (fun h1 => h1 = h ∧ okg K pr n = true) (fun h1 q => ?_) (fun j60 hj60 => ?_)
          · obtain ⟨rfl, hok⟩ := q
            rw [hok, if_pos rfl]
            refine ok_cb e_asks ?_
            rintro r h5 ⟨e5, y1, y2⟩
            rw [r1] at y1 y2
            have AR5 := AR0 H y1 y2
            have e5' : eqx [165, 166, 167] h1 h5 := eqx_mono e5 (fun c hc => by simp at hc; rcases hc with rfl | rfl <;> simp)
            have k7 : h5.1 153 7 = nI (gv K 7) := by rw [(e5 153 (by decide)).1, r1]; exact hk7
            rcases hw with c1 | ⟨c1, c2⟩ | c1
            · have f1 := hfin h5 1 e5' (by rw [show Asr K 1 i = A0f K from if_neg (by decide), show Wsr K 1 i = W0f K from if_neg (by decide)]; exact AR5)
              rw [show Osr K 1 i = sdf (gv K 7) (2 ^ i) from if_pos rfl] at f1
              rw [show n / 10 + 1 = 1 by omega]
              simp (disch := omega) only [pw_lt, pw_cb, pw_cbx, pw_cbxr, pw_lit, pw_litL, pw_oi, pw_oim, pw_oi8, pw_m, pw_ldI, pw_ldL, pw_ldR, pw_stI, pw_stL, pw_nz, pw_ltI, pw_leI, pw_eqI, pw_eqm, pw_eqm2, pw_ltm, pw_mlt, pw_lem, pw_mle, pw_mm, pw_dec, pw_nar0, pw_nar1, nI_add, pw_sub, pw_mul, pw_and, pw_or, pw_andn, pw_shl1, pw_shr, pw_dv, nI_l, lN_i, Bool.false_eq_true, reduceCtorEq, if_false, if_true, ↓reduceIte, if_pos, if_neg, k7]
              exact f1
            · have f2 := hfin (pI h5 167 i (nI 9)) 2 (eqx_trans e5' (eqx_pI (by decide))) ⟨fun k hk => by
                rw [pw_pIo (by omega), show Asr K 2 i = A0f K from if_neg (by decide)]
                exact AR5.1 k hk, fun k hk => by
                rw [show Wsr K 2 i = (fun j => if j = i then nI 9 else K (34 + j)) from if_pos rfl]
                by_cases ek : k = i
                · subst ek
                  rw [pw_pIs]
                  exact (if_pos rfl).symm
                · rw [pw_pIo (by omega)]
                  exact (AR5.2 k hk).trans (if_neg ek).symm⟩
              rw [show Osr K 2 i = gv K 7 from if_neg (by decide)] at f2
              rw [show n / 10 + 1 = 2 by omega]
              simp (disch := omega) only [pw_lt, pw_cb, pw_cbx, pw_cbxr, pw_lit, pw_litL, pw_oi, pw_oim, pw_oi8, pw_m, pw_ldI, pw_ldL, pw_ldR, pw_stI, pw_stL, pw_nz, pw_ltI, pw_leI, pw_eqI, pw_eqm, pw_eqm2, pw_ltm, pw_mlt, pw_lem, pw_mle, pw_mm, pw_dec, pw_nar0, pw_nar1, nI_add, pw_sub, pw_mul, pw_and, pw_or, pw_andn, pw_shl1, pw_shl, pw_shr, pw_dv, nI_l, lN_i, Bool.false_eq_true, reduceCtorEq, if_false, if_true, ↓reduceIte, if_pos, if_neg, pw_pIo, k7, r_152_26]
              exact f2
            · have v5 : h5.1 166 i = K (8 + i) := AR5.1 i hil
              have f3 := hfin (pI h5 166 i (K (8 + i) + nI 9)) 3 (eqx_trans e5' (eqx_pI (by decide))) ⟨fun k hk => by
                rw [show Asr K 3 i = (fun j => if j = i then K (8 + i) + nI 9 else K (8 + j)) from if_pos rfl]
                by_cases ek : k = i
                · subst ek
                  rw [pw_pIs]
                  exact (if_pos rfl).symm
                · rw [pw_pIo (by omega)]
                  exact (AR5.1 k hk).trans (if_neg ek).symm, fun k hk => by
                rw [pw_pIo (by omega), show Wsr K 3 i = W0f K from if_neg (by decide)]
                exact AR5.2 k hk⟩
              rw [show Osr K 3 i = gv K 7 from if_neg (by decide)] at f3
              rw [show n / 10 + 1 = 3 by omega]
              simp (disch := omega) only [pw_lt, pw_cb, pw_cbx, pw_cbxr, pw_lit, pw_litL, pw_oi, pw_oim, pw_oi8, pw_m, pw_ldI, pw_ldL, pw_ldR, pw_stI, pw_stL, pw_nz, pw_ltI, pw_leI, pw_eqI, pw_eqm, pw_eqm2, pw_ltm, pw_mlt, pw_lem, pw_mle, pw_mm, pw_dec, pw_nar0, pw_nar1, nI_add, pw_sub, pw_mul, pw_and, pw_or, pw_andn, pw_shl1, pw_shl, pw_shr, pw_dv, nI_l, lN_i, Bool.false_eq_true, reduceCtorEq, if_false, if_true, ↓reduceIte, if_pos, if_neg, v5, pw_pIo, k7, r_152_25]
              exact f3
          · by_cases c1 : n < 10
            · by_cases h4 : gv K (44 + i) = 1
              · have hk : okg K pr n = false := by unfold okg okd; rw [hi, decide_eq_true h4, decide_eq_true (show n / 10 + 1 = 1 by omega), Bool.and_self, Bool.not_true, Bool.and_false, Bool.and_false]
                simp (disch := omega) only [pw_lt, pw_cb, pw_cbx, pw_cbxr, pw_lit, pw_litL, pw_oi, pw_oim, pw_oi8, pw_m, pw_ldI, pw_ldL, pw_ldR, pw_stI, pw_stL, pw_nz, pw_ltI, pw_leI, pw_eqI, pw_eqm, pw_eqm2, pw_ltm, pw_mlt, pw_lem, pw_mle, pw_mm, pw_dec, pw_nar0, pw_nar1, nI_add, pw_sub, pw_mul, pw_and, pw_or, pw_andn, pw_shl1, pw_shl, pw_shr, pw_dv, nI_l, lN_i, Bool.false_eq_true, reduceCtorEq, if_false, if_true, ↓reduceIte, if_pos, if_neg, w3, h4]
                exact hj58 h ⟨rfl, hk⟩
              · simp (disch := omega) only [pw_lt, pw_cb, pw_cbx, pw_cbxr, pw_lit, pw_litL, pw_oi, pw_oim, pw_oi8, pw_m, pw_ldI, pw_ldL, pw_ldR, pw_stI, pw_stL, pw_nz, pw_ltI, pw_leI, pw_eqI, pw_eqm, pw_eqm2, pw_ltm, pw_mlt, pw_lem, pw_mle, pw_mm, pw_dec, pw_nar0, pw_nar1, nI_add, pw_sub, pw_mul, pw_and, pw_or, pw_andn, pw_shl1, pw_shl, pw_shr, pw_dv, nI_l, lN_i, Bool.false_eq_true, reduceCtorEq, if_false, if_true, ↓reduceIte, if_pos, if_neg, w3, h4]
                exact hj60 h ⟨rfl, hok1 c1 h4⟩
            · simp (disch := omega) only [pw_lt, pw_cb, pw_cbx, pw_cbxr, pw_lit, pw_litL, pw_oi, pw_oim, pw_oi8, pw_m, pw_ldI, pw_ldL, pw_ldR, pw_stI, pw_stL, pw_nz, pw_ltI, pw_leI, pw_eqI, pw_eqm, pw_eqm2, pw_ltm, pw_mlt, pw_lem, pw_mle, pw_mm, pw_dec, pw_nar0, pw_nar1, nI_add, pw_sub, pw_mul, pw_and, pw_or, pw_andn, pw_shl1, pw_shl, pw_shr, pw_dv, nI_l, lN_i, Bool.false_eq_true, reduceCtorEq, if_false, if_true, ↓reduceIte, if_pos, if_neg]
              exact hj60 h ⟨rfl, hok2 c1⟩
      · have hk : okg K pr n = false := by unfold okg; rw [hi, decide_eq_false h3, Bool.and_false, Bool.false_and]
        unfold f_X12_shareBy
        simp (disch := omega) only [pw_lit, pw_nz, pw_dv, pw_mul, pw_sub, hn1]
        refine ok_lt ?_
        rw [hiw]
        simp (disch := omega) only [pw_cb]
        refine ok_join (fun h1 => h1 = h) (fun h1 q => ?_) (fun j hj => ?_)
        · subst q
          exact hno hk
        · simp (disch := omega) only [bI_0', Bool.true_eq_false, if_false, hio, pw_cb, r_152_0, pw_ldI, r1, w1, nI_add, pw_eqI, h3]
          exact hj h rfl
  · have hk : okg K pr n = false := by unfold okg; rw [hi, decide_eq_false h1, Bool.false_and, Bool.false_and]
    rw [decide_eq_false h1] at hiw
    unfold f_X12_shareBy
    simp (disch := omega) only [pw_lit, pw_nz, pw_dv, pw_mul, pw_sub, hn1]
    refine ok_lt ?_
    rw [hiw]
    simp (disch := omega) only [pw_cb]
    refine ok_join (fun h1 => h1 = h) (fun h1 q => ?_) (fun j hj => ?_)
    · subst q
      exact hno hk
    · simp only [bI_0', if_true]
      exact hj h rfl
set_option maxRecDepth 16384 in
theorem e_gains_lp {K T : Nat → Int32} {h : PH} {pr rule : Nat} {Q : Int32 → PH → Prop} {j : Int32 → Int32 → PH → Option (Int32 × PH)} (R : RG K T h) (hp : pr < 6) (hr : rule < 4) (hj : ∀ h', eqx [165, 166, 167] h h' → ok (j (nI (gF K T pr rule 30).1) (oI (gF K T pr rule 30).2) h') Q) : ok (lp (b_X12_gains_73 152 (nI pr) (nI rule) j) FU (nI (usu K T pr rule), mI, nI 10) h) Q := by
  have H := R.1.1
  refine lp_ok (fun n s h' => n ≤ 30 ∧ s = (nI (gF K T pr rule (30 - n)).1, oI (gF K T pr rule (30 - n)).2, nI (10 + (30 - n))) ∧ eqx [165, 166, 167] h h') ?_ FU 30 _ h ⟨by omega, rfl, eqx_rfl _ _⟩ (fu_lt (by omega))
  rintro n rec s h' ⟨hn, rfl, e1⟩ hrec
  unfold b_X12_gains_73
  by_cases h0 : n = 0
  · subst h0
    simp (disch := omega) only [pw_lt, pw_cb, pw_cbx, pw_cbxr, pw_lit, pw_litL, pw_oi, pw_oim, pw_oi8, pw_m, pw_ldI, pw_ldL, pw_ldR, pw_stI, pw_stL, pw_nz, pw_ltI, pw_leI, pw_eqI, pw_eqm, pw_eqm2, pw_ltm, pw_mlt, pw_lem, pw_mle, pw_mm, pw_dec, pw_nar0, pw_nar1, nI_add, pw_sub, pw_mul, pw_and, pw_or, pw_andn, pw_shl1, pw_shl, pw_shr, pw_dv, nI_l, lN_i, Bool.false_eq_true, reduceCtorEq, if_false, if_true, ↓reduceIte, if_pos, if_neg]
    exact hj h' e1
  · generalize hi : 30 - n = i at *
    have e9 : 30 - (n - 1) = i + 1 := by omega
    simp (disch := omega) only [pw_lt, pw_cb, pw_cbx, pw_cbxr, pw_lit, pw_litL, pw_oi, pw_oim, pw_oi8, pw_m, pw_ldI, pw_ldL, pw_ldR, pw_stI, pw_stL, pw_nz, pw_ltI, pw_leI, pw_eqI, pw_eqm, pw_eqm2, pw_ltm, pw_mlt, pw_lem, pw_mle, pw_mm, pw_dec, pw_nar0, pw_nar1, nI_add, pw_sub, pw_mul, pw_and, pw_or, pw_andn, pw_shl1, pw_shl, pw_shr, pw_dv, nI_l, lN_i, Bool.false_eq_true, reduceCtorEq, if_false, if_true, ↓reduceIte]
    rw [if_neg (by omega)]
    refine ok_cb (e_shareBy (R.to3 e1) hp hr (by omega)) ?_
    rintro r h2 ⟨rfl, e2⟩
    have hgs : gF K T pr rule (i + 1) = gst K T pr rule (gF K T pr rule i) i := rfl
    have hgb := gF_b (T := T) H (pr := pr) (rule := rule) i
    have hrec := hrec (n - 1) (nI (gF K T pr rule (i + 1)).1, oI (gF K T pr rule (i + 1)).2, nI (10 + (i + 1))) h2 (by omega) ⟨by omega, by rw [e9], eqx_trans e1 e2⟩
    rw [hgs] at hrec
    generalize gF K T pr rule i = g at *
    unfold gst at hrec
    rcases tf (okg K pr i) with hk | hk
    · rw [if_neg (by rw [hk]; simp)] at hrec
      rw [hk]
      simp (disch := omega) only [pw_lt, pw_cb, pw_cbx, pw_cbxr, pw_lit, pw_litL, pw_oi, pw_oim, pw_oi8, pw_m, pw_ldI, pw_ldL, pw_ldR, pw_stI, pw_stL, pw_nz, pw_ltI, pw_leI, pw_eqI, pw_eqm, pw_eqm2, pw_ltm, pw_mlt, pw_lem, pw_mle, pw_mm, pw_dec, pw_nar0, pw_nar1, nI_add, pw_sub, pw_mul, pw_and, pw_or, pw_andn, pw_shl1, pw_shl, pw_shr, pw_dv, nI_l, lN_i, Bool.false_eq_true, reduceCtorEq, if_false, if_true, ↓reduceIte, if_pos, if_neg]
      exact hrec
    · have hshl := shw_le H pr (svS K T (Asr K (i / 10 + 1) (i % 10)) (Wsr K (i / 10 + 1) (i % 10)) (Osr K (i / 10 + 1) (i % 10)) rule)
      have hshd : shw K pr (svS K T (Asr K (i / 10 + 1) (i % 10)) (Wsr K (i / 10 + 1) (i % 10)) (Osr K (i / 10 + 1) (i % 10)) rule) = shv K T pr rule (i / 10 + 1) (i % 10) := rfl
      rw [hshd] at hshl
      rw [hk, if_pos rfl]
      by_cases hlt : g.1 < shv K T pr rule (i / 10 + 1) (i % 10)
      · rw [if_pos ⟨hk, hlt⟩] at hrec
        simp (disch := omega) only [pw_lt, pw_cb, pw_cbx, pw_cbxr, pw_lit, pw_litL, pw_oi, pw_oim, pw_oi8, pw_m, pw_ldI, pw_ldL, pw_ldR, pw_stI, pw_stL, pw_nz, pw_ltI, pw_leI, pw_eqI, pw_eqm, pw_eqm2, pw_ltm, pw_mlt, pw_lem, pw_mle, pw_mm, pw_dec, pw_nar0, pw_nar1, nI_add, pw_sub, pw_mul, pw_and, pw_or, pw_andn, pw_shl1, pw_shl, pw_shr, pw_dv, nI_l, lN_i, Bool.false_eq_true, reduceCtorEq, if_false, if_true, ↓reduceIte, if_pos, if_neg, hlt]
        exact hrec
      · rw [if_neg (fun q => hlt q.2)] at hrec
        simp (disch := omega) only [pw_lt, pw_cb, pw_cbx, pw_cbxr, pw_lit, pw_litL, pw_oi, pw_oim, pw_oi8, pw_m, pw_ldI, pw_ldL, pw_ldR, pw_stI, pw_stL, pw_nz, pw_ltI, pw_leI, pw_eqI, pw_eqm, pw_eqm2, pw_ltm, pw_mlt, pw_lem, pw_mle, pw_mm, pw_dec, pw_nar0, pw_nar1, nI_add, pw_sub, pw_mul, pw_and, pw_or, pw_andn, pw_shl1, pw_shl, pw_shr, pw_dv, nI_l, lN_i, Bool.false_eq_true, reduceCtorEq, if_false, if_true, ↓reduceIte, if_pos, if_neg]
        exact hrec
/-! the best rule -/
def wR (K T : Nat → Int32) (r : Nat) : Nat := wt K (svS K T (A0f K) (W0f K) (gv K 7) r)
def bru (K T : Nat → Int32) : Nat → Nat
  | 0 => 0
  | n + 1 => if wR K T (bru K T n) < wR K T (n + 1) then n + 1 else bru K T n
set_option maxRecDepth 16384 in
theorem bru_le {K T : Nat → Int32} : ∀ n, bru K T n ≤ n
  | 0 => Nat.le_refl _
  | n + 1 => by
    have ih := bru_le (K := K) (T := T) n
    rw [bru]
    by_cases h : wR K T (bru K T n) < wR K T (n + 1)
    · rw [if_pos h]; exact Nat.le_refl _
    · rw [if_neg h]; omega
set_option maxRecDepth 16384 in
theorem e_bestRule_lp {K T : Nat → Int32} {h : PH} (R : RG K T h) (A : AR K (A0f K) (W0f K) h) : ok (lp (b_X12_bestRule_17 152) FU (nI 0, nI 1) h) (fun r h' => r = nI (bru K T 3) ∧ eqx [165] h h') := by
  have H := R.1.1
  have hk7 := (rk_e H).2.2.2.2.2.2.2
  refine lp_ok (fun n s h' => n ≤ 3 ∧ s = (nI (bru K T (3 - n)), nI (4 - n)) ∧ eqx [165] h h') ?_ FU 3 _ h ⟨by omega, rfl, eqx_rfl _ _⟩ (fu_lt (by omega))
  rintro n rec s h' ⟨hn, rfl, e1⟩ hrec
  have hb := bru_le (K := K) (T := T) (3 - n)
  have k7 : h'.1 153 7 = nI (gv K 7) := by rw [(e1 153 (by decide)).1, R.1.2.1]; exact hk7
  have hst : ∀ h'' r, eqx [165] h h'' → r < 4 → ok (f_X12_serves 152 (nI r) (nI (gv K 7)) h'') (fun z h3 => z = nI (svS K T (A0f K) (W0f K) (gv K 7) r) ∧ eqx [165] h h3 ∧ f_X12_weight 152 z h3 = some (nI (wR K T r), h3) ∧ h3.1 153 7 = nI (gv K 7)) := by
    intro h'' r e hr
    have R2 := R.to3 (eqx_mono e (fun c hc => by simp at hc; simp [hc]))
    have A2 : AR K (A0f K) (W0f K) h'' := by
      unfold AR
      rw [(e 166 (by decide)).1, (e 167 (by decide)).1]
      exact A
    refine ok_mono (e_serves R2 A2 (open_lt H) hr) ?_
    rintro z h3 ⟨rfl, e3⟩
    have e03 := eqx_trans e e3
    have r1 : h3.1 153 = K := by rw [(e03 153 (by decide)).1]; exact R.1.2.1
    have hw := e_weight (h := h3) (s := svS K T (A0f K) (W0f K) (gv K 7) r) (by rw [r1]; exact H) (by have := svS_lt (T := T) (A := A0f K) (W := W0f K) (rule := r) H (open_lt H); omega)
    rw [r1] at hw
    refine ⟨rfl, e03, hw, by rw [r1]; exact hk7⟩
  unfold b_X12_bestRule_17
  by_cases h0 : n = 0
  · subst h0
    simp (disch := omega) only [pw_lt, pw_cb, pw_cbx, pw_cbxr, pw_lit, pw_litL, pw_oi, pw_oim, pw_oi8, pw_m, pw_ldI, pw_ldL, pw_ldR, pw_stI, pw_stL, pw_nz, pw_ltI, pw_leI, pw_eqI, pw_eqm, pw_eqm2, pw_ltm, pw_mlt, pw_lem, pw_mle, pw_mm, pw_dec, pw_nar0, pw_nar1, nI_add, pw_sub, pw_mul, pw_and, pw_or, pw_andn, pw_shl1, pw_shl, pw_shr, pw_dv, nI_l, lN_i, Bool.false_eq_true, reduceCtorEq, if_false, if_true, ↓reduceIte, if_pos, if_neg, Nat.le_refl]
    exact ok_some ⟨rfl, e1⟩
  · generalize hi : 3 - n = i at *
    have e8 : 4 - n = i + 1 := by omega
    have e9 : 3 - (n - 1) = i + 1 := by omega
    have e10 : 4 - (n - 1) = i + 1 + 1 := by omega
    have hwl1 : wR K T (i + 1) ≤ 90 := wt_le H _
    have hwl2 : wR K T (bru K T i) ≤ 90 := wt_le H _
    rw [e8]
    simp (disch := omega) only [pw_lt, pw_cb, pw_cbx, pw_cbxr, pw_lit, pw_litL, pw_oi, pw_oim, pw_oi8, pw_m, pw_ldI, pw_ldL, pw_ldR, pw_stI, pw_stL, pw_nz, pw_ltI, pw_leI, pw_eqI, pw_eqm, pw_eqm2, pw_ltm, pw_mlt, pw_lem, pw_mle, pw_mm, pw_dec, pw_nar0, pw_nar1, nI_add, pw_sub, pw_mul, pw_and, pw_or, pw_andn, pw_shl1, pw_shl, pw_shr, pw_dv, nI_l, lN_i, Bool.false_eq_true, reduceCtorEq, if_false, if_true, ↓reduceIte, r_152_0, k7]
    rw [if_neg (by omega)]
    refine ok_cb (hst h' (i + 1) e1 (by omega)) ?_
    rintro r h2 ⟨-, e2, hw2, k72⟩
    simp (disch := omega) only [pw_lt, pw_cb, pw_cbx, pw_cbxr, pw_lit, pw_litL, pw_oi, pw_oim, pw_oi8, pw_m, pw_ldI, pw_ldL, pw_ldR, pw_stI, pw_stL, pw_nz, pw_ltI, pw_leI, pw_eqI, pw_eqm, pw_eqm2, pw_ltm, pw_mlt, pw_lem, pw_mle, pw_mm, pw_dec, pw_nar0, pw_nar1, nI_add, pw_sub, pw_mul, pw_and, pw_or, pw_andn, pw_shl1, pw_shl, pw_shr, pw_dv, nI_l, lN_i, Bool.false_eq_true, reduceCtorEq, if_false, if_true, ↓reduceIte, if_pos, if_neg, hw2, k72]
    refine ok_cb (hst h2 (bru K T i) e2 (by omega)) ?_
    rintro r2 h3 ⟨-, e3, hw3, k73⟩
    have hrec := hrec (n - 1) (nI (bru K T (i + 1)), nI (i + 1 + 1)) h3 (by omega) ⟨by omega, by rw [e9, e10], e3⟩
    rw [bru] at hrec
    by_cases hlt : wR K T (bru K T i) < wR K T (i + 1)
    · rw [if_pos hlt] at hrec
      simp (disch := omega) only [pw_lt, pw_cb, pw_cbx, pw_cbxr, pw_lit, pw_litL, pw_oi, pw_oim, pw_oi8, pw_m, pw_ldI, pw_ldL, pw_ldR, pw_stI, pw_stL, pw_nz, pw_ltI, pw_leI, pw_eqI, pw_eqm, pw_eqm2, pw_ltm, pw_mlt, pw_lem, pw_mle, pw_mm, pw_dec, pw_nar0, pw_nar1, nI_add, pw_sub, pw_mul, pw_and, pw_or, pw_andn, pw_shl1, pw_shl, pw_shr, pw_dv, nI_l, lN_i, Bool.false_eq_true, reduceCtorEq, if_false, if_true, ↓reduceIte, if_pos, if_neg, hw3]
      exact hrec
    · rw [if_neg hlt] at hrec
      simp (disch := omega) only [pw_lt, pw_cb, pw_cbx, pw_cbxr, pw_lit, pw_litL, pw_oi, pw_oim, pw_oi8, pw_m, pw_ldI, pw_ldL, pw_ldR, pw_stI, pw_stL, pw_nz, pw_ltI, pw_leI, pw_eqI, pw_eqm, pw_eqm2, pw_ltm, pw_mlt, pw_lem, pw_mle, pw_mm, pw_dec, pw_nar0, pw_nar1, nI_add, pw_sub, pw_mul, pw_and, pw_or, pw_andn, pw_shl1, pw_shl, pw_shr, pw_dv, nI_l, lN_i, Bool.false_eq_true, reduceCtorEq, if_false, if_true, ↓reduceIte, if_pos, if_neg, hw3]
      exact hrec
set_option maxRecDepth 16384 in
theorem c_bestRule_lp {K T : Nat → Int32} {h : PH} (R : RB K T h) : ok (lp (b_X11_bestRule_14 0) FU (nI 0, mI, nI 0) h) (fun r h' => r = nI (bru K T 3) ∧ eqx [37, 38, 39] h h') := by
  have H := R.1.1.1
  refine lp_ok (fun n s h' => n ≤ 4 ∧ eqx [37, 38, 39] h h' ∧ (n = 4 ∧ s = (nI 0, mI, nI 0) ∨ n ≤ 3 ∧ s = (nI (bru K T (3 - n)), nI (wR K T (bru K T (3 - n))), nI (4 - n)))) ?_ FU 4 _ h ⟨by omega, eqx_rfl _ _, Or.inl ⟨rfl, rfl⟩⟩ (fu_lt (by omega))
  rintro n rec s h' ⟨hn, e1, hs⟩ hrec
  have hst : ∀ r, r < 4 → ok (f_X7_servedAsAsked 37 (nI r) h') (fun z h3 => eqx [37, 38, 39] h h3 ∧ f_X8_weightOf 3 z h3 = some (nI (wR K T r), h3)) := by
    intro r hr
    refine ok_mono (c_servedAsAsked (R.to e1) hr) ?_
    rintro z h3 ⟨rfl, e3, -⟩
    have e03 := eqx_trans e1 e3
    have R3 := R.to e03
    exact ⟨e03, c_weightOf H R3.1.1.2.1 R3.1.2.2.2.2.1 (by have := svS_lt (T := T) (A := A0f K) (W := W0f K) (rule := r) H (open_lt H); omega)⟩
  unfold b_X11_bestRule_14
  rcases hs with ⟨rfl, rfl⟩ | ⟨hn3, rfl⟩
  · have hwl1 : wR K T 0 ≤ 90 := wt_le H _
    simp (disch := omega) only [pw_lt, pw_cb, pw_cbx, pw_cbxr, pw_lit, pw_litL, pw_oi, pw_oim, pw_oi8, pw_m, pw_ldI, pw_ldL, pw_ldR, pw_stI, pw_stL, pw_nz, pw_ltI, pw_leI, pw_eqI, pw_eqm, pw_eqm2, pw_ltm, pw_mlt, pw_lem, pw_mle, pw_mm, pw_dec, pw_nar0, pw_nar1, nI_add, pw_sub, pw_mul, pw_and, pw_or, pw_andn, pw_shl1, pw_shl, pw_shr, pw_dv, nI_l, lN_i, Bool.false_eq_true, reduceCtorEq, if_false, if_true, ↓reduceIte, if_pos, if_neg, r_0_8, r_0_2]
    refine ok_cb (hst 0 (by omega)) ?_
    rintro r h2 ⟨e2, hw2⟩
    simp (disch := omega) only [pw_lt, pw_cb, pw_cbx, pw_cbxr, pw_lit, pw_litL, pw_oi, pw_oim, pw_oi8, pw_m, pw_ldI, pw_ldL, pw_ldR, pw_stI, pw_stL, pw_nz, pw_ltI, pw_leI, pw_eqI, pw_eqm, pw_eqm2, pw_ltm, pw_mlt, pw_lem, pw_mle, pw_mm, pw_dec, pw_nar0, pw_nar1, nI_add, pw_sub, pw_mul, pw_and, pw_or, pw_andn, pw_shl1, pw_shl, pw_shr, pw_dv, nI_l, lN_i, Bool.false_eq_true, reduceCtorEq, if_false, if_true, ↓reduceIte, if_pos, if_neg, hw2]
    exact hrec 3 _ h2 (by omega) ⟨by omega, e2, Or.inr ⟨by omega, rfl⟩⟩
  · by_cases h0 : n = 0
    · subst h0
      simp (disch := omega) only [pw_lt, pw_cb, pw_cbx, pw_cbxr, pw_lit, pw_litL, pw_oi, pw_oim, pw_oi8, pw_m, pw_ldI, pw_ldL, pw_ldR, pw_stI, pw_stL, pw_nz, pw_ltI, pw_leI, pw_eqI, pw_eqm, pw_eqm2, pw_ltm, pw_mlt, pw_lem, pw_mle, pw_mm, pw_dec, pw_nar0, pw_nar1, nI_add, pw_sub, pw_mul, pw_and, pw_or, pw_andn, pw_shl1, pw_shl, pw_shr, pw_dv, nI_l, lN_i, Bool.false_eq_true, reduceCtorEq, if_false, if_true, ↓reduceIte, if_pos, if_neg, Nat.le_refl]
      exact ok_some ⟨rfl, e1⟩
    · generalize hi : 3 - n = i at *
      have hb := bru_le (K := K) (T := T) i
      have e8 : 4 - n = i + 1 := by omega
      have e9 : 3 - (n - 1) = i + 1 := by omega
      have e10 : 4 - (n - 1) = i + 1 + 1 := by omega
      have hwl1 : wR K T (i + 1) ≤ 90 := wt_le H _
      have hwl2 : wR K T (bru K T i) ≤ 90 := wt_le H _
      rw [e8]
      simp (disch := omega) only [pw_lt, pw_cb, pw_cbx, pw_cbxr, pw_lit, pw_litL, pw_oi, pw_oim, pw_oi8, pw_m, pw_ldI, pw_ldL, pw_ldR, pw_stI, pw_stL, pw_nz, pw_ltI, pw_leI, pw_eqI, pw_eqm, pw_eqm2, pw_ltm, pw_mlt, pw_lem, pw_mle, pw_mm, pw_dec, pw_nar0, pw_nar1, nI_add, pw_sub, pw_mul, pw_and, pw_or, pw_andn, pw_shl1, pw_shl, pw_shr, pw_dv, nI_l, lN_i, Bool.false_eq_true, reduceCtorEq, if_false, if_true, ↓reduceIte, r_0_8, r_0_2]
      rw [if_neg (by omega)]
      refine ok_cb (hst (i + 1) (by omega)) ?_
      rintro r h2 ⟨e2, hw2⟩
      have hrec := hrec (n - 1) (nI (bru K T (i + 1)), nI (wR K T (bru K T (i + 1))), nI (i + 1 + 1)) h2 (by omega) ⟨by omega, e2, Or.inr ⟨by omega, by rw [e9, e10]⟩⟩
      rw [bru] at hrec
      by_cases hlt : wR K T (bru K T i) < wR K T (i + 1)
      · rw [if_pos hlt] at hrec
        simp (disch := omega) only [pw_lt, pw_cb, pw_cbx, pw_cbxr, pw_lit, pw_litL, pw_oi, pw_oim, pw_oi8, pw_m, pw_ldI, pw_ldL, pw_ldR, pw_stI, pw_stL, pw_nz, pw_ltI, pw_leI, pw_eqI, pw_eqm, pw_eqm2, pw_ltm, pw_mlt, pw_lem, pw_mle, pw_mm, pw_dec, pw_nar0, pw_nar1, nI_add, pw_sub, pw_mul, pw_and, pw_or, pw_andn, pw_shl1, pw_shl, pw_shr, pw_dv, nI_l, lN_i, Bool.false_eq_true, reduceCtorEq, if_false, if_true, ↓reduceIte, if_pos, if_neg, hw2]
        exact hrec
      · rw [if_neg hlt] at hrec
        simp (disch := omega) only [pw_lt, pw_cb, pw_cbx, pw_cbxr, pw_lit, pw_litL, pw_oi, pw_oim, pw_oi8, pw_m, pw_ldI, pw_ldL, pw_ldR, pw_stI, pw_stL, pw_nz, pw_ltI, pw_leI, pw_eqI, pw_eqm, pw_eqm2, pw_ltm, pw_mlt, pw_lem, pw_mle, pw_mm, pw_dec, pw_nar0, pw_nar1, nI_add, pw_sub, pw_mul, pw_and, pw_or, pw_andn, pw_shl1, pw_shl, pw_shr, pw_dv, nI_l, lN_i, Bool.false_eq_true, reduceCtorEq, if_false, if_true, ↓reduceIte, if_pos, if_neg, hw2]
        exact hrec

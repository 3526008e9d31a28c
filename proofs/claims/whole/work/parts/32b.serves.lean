/-! ===== who is served: the reference; as it is asked ===== -/
set_option maxRecDepth 16384 in
theorem e_manyOf {K : Nat → Int32} {h : PH} {o i : Nat} (H : RK K) (r1 : h.1 153 = K) (hi : i < gv K 5) (ho : o < 1024) : f_X12_manyOf 152 (nI i) (nI o) h = some (nI (mn K o i), h) := by
  obtain ⟨b0, b1, b2, b3, b4, b5, b6, b7, b8, b9, b10⟩ := rk_b H
  have hW := H.2.2.2.2.2.2.2.2.2.2.2
  have k5 : h.1 153 5 = nI (gv K 5) := by rw [r1]; exact (rk_e H).2.2.2.2.2.1
  obtain ⟨⟨u1, u2⟩, -, -⟩ := hW i hi
  rw [← r1] at u1
  unfold f_X12_manyOf
  simp only [pw_lt, pw_lit]
  unfold mn
  rw [r1] at u1
  generalize hb : gv K (24 + i) = b at *
  refine lp_run (fun n => (nI (sumTo n (mnf K o b)), nI n)) (fun _ => h) (gv K 5) _ ?_ ?_ FU (fu_lt (by omega))
  · intro j hj rec
    obtain ⟨⟨w1, w2⟩, -, -⟩ := hW j hj
    unfold b_X12_manyOf_5
    rcases tf (o.testBit j) with h2 | h2
    · have e : mnf K o b j = 0 := if_neg (by rw [h2]; simp)
      simp (disch := omega) only [pw_lt, pw_cb, pw_cbx, pw_cbxr, pw_lit, pw_litL, pw_oi, pw_oim, pw_oi8, pw_m, pw_ldI, pw_ldL, pw_ldR, pw_stI, pw_stL, pw_nz, pw_ltI, pw_leI, pw_eqI, pw_eqm, pw_eqm2, pw_ltm, pw_mlt, pw_lem, pw_mle, pw_mm, pw_dec, pw_nar0, pw_nar1, nI_add, pw_sub, pw_mul, pw_and, pw_or, pw_andn, pw_shl1, pw_shl, pw_shr, pw_dv, nI_l, lN_i, Bool.false_eq_true, reduceCtorEq, if_false, if_true, ↓reduceIte, if_pos, if_neg, r_152_0, k5, e_has, h2, bI_0', sumTo, e, Nat.add_zero]
    · by_cases h1 : gv K (24 + j) = b
      · have e : mnf K o b j = 1 := if_pos ⟨h2, h1⟩
        simp (disch := omega) only [pw_lt, pw_cb, pw_cbx, pw_cbxr, pw_lit, pw_litL, pw_oi, pw_oim, pw_oi8, pw_m, pw_ldI, pw_ldL, pw_ldR, pw_stI, pw_stL, pw_nz, pw_ltI, pw_leI, pw_eqI, pw_eqm, pw_eqm2, pw_ltm, pw_mlt, pw_lem, pw_mle, pw_mm, pw_dec, pw_nar0, pw_nar1, nI_add, pw_sub, pw_mul, pw_and, pw_or, pw_andn, pw_shl1, pw_shl, pw_shr, pw_dv, nI_l, lN_i, Bool.false_eq_true, reduceCtorEq, if_false, if_true, ↓reduceIte, if_pos, if_neg, r_152_0, k5, e_has, h2, bI_0', r1, w1, u1, h1, sumTo, e]
      · have e : mnf K o b j = 0 := if_neg (fun q => h1 q.2)
        simp (disch := omega) only [pw_lt, pw_cb, pw_cbx, pw_cbxr, pw_lit, pw_litL, pw_oi, pw_oim, pw_oi8, pw_m, pw_ldI, pw_ldL, pw_ldR, pw_stI, pw_stL, pw_nz, pw_ltI, pw_leI, pw_eqI, pw_eqm, pw_eqm2, pw_ltm, pw_mlt, pw_lem, pw_mle, pw_mm, pw_dec, pw_nar0, pw_nar1, nI_add, pw_sub, pw_mul, pw_and, pw_or, pw_andn, pw_shl1, pw_shl, pw_shr, pw_dv, nI_l, lN_i, Bool.false_eq_true, reduceCtorEq, if_false, if_true, ↓reduceIte, if_pos, if_neg, r_152_0, k5, e_has, h2, bI_0', r1, w1, u1, h1, sumTo, e, Nat.add_zero]
  · intro rec
    unfold b_X12_manyOf_5
    simp (disch := omega) only [pw_lt, pw_cb, pw_cbx, pw_cbxr, pw_lit, pw_litL, pw_oi, pw_oim, pw_oi8, pw_m, pw_ldI, pw_ldL, pw_ldR, pw_stI, pw_stL, pw_nz, pw_ltI, pw_leI, pw_eqI, pw_eqm, pw_eqm2, pw_ltm, pw_mlt, pw_lem, pw_mle, pw_mm, pw_dec, pw_nar0, pw_nar1, nI_add, pw_sub, pw_mul, pw_and, pw_or, pw_andn, pw_shl1, pw_shl, pw_shr, pw_dv, nI_l, lN_i, Bool.false_eq_true, reduceCtorEq, if_false, if_true, ↓reduceIte, if_pos, if_neg, r_152_0, k5]
def AR (K A W : Nat → Int32) (h : PH) : Prop := (∀ i, i < gv K 5 → h.1 166 i = A i) ∧ (∀ i, i < gv K 5 → h.1 167 i = W i)
set_option maxRecDepth 16384 in
theorem RG.to {K T : Nat → Int32} {h h' : PH} {S : List Nat} (R : RG K T h) (e : eqx S h h') (a : 153 ∉ S) (b : 159 ∉ S) (c : 160 ∉ S) (d : 162 ∉ S) (f : 163 ∉ S) : RG K T h' := by
  obtain ⟨⟨H, r1, r2, r3, r4⟩, g1, g2⟩ := R
  refine ⟨⟨H, by rw [(e 153 a).1]; exact r1, by rw [(e 159 b).1]; exact r2, r3, by rw [(e 160 c).1]; exact r4⟩, by rw [(e 162 d).1]; exact g1, by rw [(e 163 f).1]; exact g2⟩
set_option maxRecDepth 16384 in
theorem e_key {K T A W : Nat → Int32} {h : PH} {o i rule : Nat} (R : RG K T h) (S : AR K A W h) (hi : i < gv K 5) (ho : o < 1024) (hr : rule < 4) : f_X12_key 152 (nI i) (nI rule) (nI o) h = some (kk K T A W o rule 99 i, h) := by
  obtain ⟨⟨H, r1, r2, r3, r4⟩, g1, g2⟩ := id R
  obtain ⟨b0, b1, b2, b3, b4, b5, b6, b7, b8, b9, b10⟩ := rk_b H
  obtain ⟨s8, s9⟩ := id S
  have s8 := s8 i hi
  have s9 := s9 i hi
  obtain ⟨q1, q2⟩ := pow_lt10 hi b6
  have hlp := e_planFor (h := h) (s := 2 ^ i) (T := T) (by rw [r1]; exact H) (by rw [r1]; exact g1) (by omega)
  rw [r1] at hlp
  unfold f_X12_key kk
  by_cases h0 : rule = 0
  · subst h0
    simp (disch := omega) only [pw_lt, pw_cb, pw_cbx, pw_cbxr, pw_lit, pw_litL, pw_oi, pw_oim, pw_oi8, pw_m, pw_ldI, pw_ldL, pw_ldR, pw_stI, pw_stL, pw_nz, pw_ltI, pw_leI, pw_eqI, pw_eqm, pw_eqm2, pw_ltm, pw_mlt, pw_lem, pw_mle, pw_mm, pw_dec, pw_nar0, pw_nar1, nI_add, pw_sub, pw_mul, pw_and, pw_or, pw_andn, pw_shl1, pw_shl, pw_shr, pw_dv, nI_l, lN_i, Bool.false_eq_true, reduceCtorEq, if_false, if_true, ↓reduceIte, if_pos, if_neg, r_152_25, s8]
  · by_cases h1 : rule = 1
    · subst h1
      simp (disch := omega) only [pw_lt, pw_cb, pw_cbx, pw_cbxr, pw_lit, pw_litL, pw_oi, pw_oim, pw_oi8, pw_m, pw_ldI, pw_ldL, pw_ldR, pw_stI, pw_stL, pw_nz, pw_ltI, pw_leI, pw_eqI, pw_eqm, pw_eqm2, pw_ltm, pw_mlt, pw_lem, pw_mle, pw_mm, pw_dec, pw_nar0, pw_nar1, nI_add, pw_sub, pw_mul, pw_and, pw_or, pw_andn, pw_shl1, pw_shl, pw_shr, pw_dv, nI_l, lN_i, Bool.false_eq_true, reduceCtorEq, if_false, if_true, ↓reduceIte, if_pos, if_neg, r_152_26, s9]
    · by_cases h2 : rule = 2
      · subst h2
        simp (disch := omega) only [pw_lt, pw_cb, pw_cbx, pw_cbxr, pw_lit, pw_litL, pw_oi, pw_oim, pw_oi8, pw_m, pw_ldI, pw_ldL, pw_ldR, pw_stI, pw_stL, pw_nz, pw_ltI, pw_leI, pw_eqI, pw_eqm, pw_eqm2, pw_ltm, pw_mlt, pw_lem, pw_mle, pw_mm, pw_dec, pw_nar0, pw_nar1, nI_add, pw_sub, pw_mul, pw_and, pw_or, pw_andn, pw_shl1, pw_shl, pw_shr, pw_dv, nI_l, lN_i, Bool.false_eq_true, reduceCtorEq, if_false, if_true, ↓reduceIte, if_pos, if_neg, e_manyOf H r1 hi ho]
      · unfold kp
        cases hb : pF K T (2 ^ i) with
        | none =>
          rw [hb] at hlp
          simp (disch := omega) only [pw_lt, pw_cb, pw_cbx, pw_cbxr, pw_lit, pw_litL, pw_oi, pw_oim, pw_oi8, pw_m, pw_ldI, pw_ldL, pw_ldR, pw_stI, pw_stL, pw_nz, pw_ltI, pw_leI, pw_eqI, pw_eqm, pw_eqm2, pw_ltm, pw_mlt, pw_lem, pw_mle, pw_mm, pw_dec, pw_nar0, pw_nar1, nI_add, pw_sub, pw_mul, pw_and, pw_or, pw_andn, pw_shl1, pw_shr, pw_dv, nI_l, lN_i, Bool.false_eq_true, reduceCtorEq, if_false, if_true, ↓reduceIte, if_pos, if_neg, hlp, oI, h0, h1, h2]
        | some p =>
          rw [hb] at hlp
          have := pF_lt H hb
          simp (disch := omega) only [pw_lt, pw_cb, pw_cbx, pw_cbxr, pw_lit, pw_litL, pw_oi, pw_oim, pw_oi8, pw_m, pw_ldI, pw_ldL, pw_ldR, pw_stI, pw_stL, pw_nz, pw_ltI, pw_leI, pw_eqI, pw_eqm, pw_eqm2, pw_ltm, pw_mlt, pw_lem, pw_mle, pw_mm, pw_dec, pw_nar0, pw_nar1, nI_add, pw_sub, pw_mul, pw_and, pw_or, pw_andn, pw_shl1, pw_shr, pw_dv, nI_l, lN_i, Bool.false_eq_true, reduceCtorEq, if_false, if_true, ↓reduceIte, if_pos, if_neg, hlp, oI, h0, h1, h2, e_size]
set_option maxRecDepth 16384 in
theorem e_next {K T k : Nat → Int32} {h : PH} {s left : Nat} {Q : Int32 → PH → Prop} {j : Int32 → PH → Option (Int32 × PH)} (R : RG K T h) (hl : left < 1024) (hk : ∀ i, i < gv K 5 → left.testBit i = true → h.1 165 i = k i) (hj : ok (j (oI (foR k left (gv K 5))) h) Q) : ok (lp (b_X12_serves_64 152 (nI s, nI left) j) FU (mI, nI 0) h) Q := by
  obtain ⟨⟨H, r1, r2, r3, r4⟩, g1, g2⟩ := id R
  obtain ⟨b0, b1, b2, b3, b4, b5, b6, b7, b8, b9, b10⟩ := rk_b H
  have k5 : h.1 153 5 = nI (gv K 5) := by rw [r1]; exact (rk_e H).2.2.2.2.2.1
  suffices hs : lp (b_X12_serves_64 152 (nI s, nI left) j) FU (mI, nI 0) h = j (oI (foR k left (gv K 5))) h by rw [hs]; exact hj
  refine lp_run (fun n => (oI (foR k left n), nI n)) (fun _ => h) (gv K 5) _ ?_ ?_ FU (fu_lt (by omega))
  · intro i hi rec
    unfold b_X12_serves_64
    rcases tf (left.testBit i) with h1 | h1
    · simp (disch := omega) only [pw_lt, pw_cb, pw_cbx, pw_cbxr, pw_lit, pw_litL, pw_oi, pw_oim, pw_oi8, pw_m, pw_ldI, pw_ldL, pw_ldR, pw_stI, pw_stL, pw_nz, pw_ltI, pw_leI, pw_eqI, pw_eqm, pw_eqm2, pw_ltm, pw_mlt, pw_lem, pw_mle, pw_mm, pw_dec, pw_nar0, pw_nar1, nI_add, pw_sub, pw_mul, pw_and, pw_or, pw_andn, pw_shl1, pw_shl, pw_shr, pw_dv, nI_l, lN_i, Bool.false_eq_true, reduceCtorEq, if_false, if_true, ↓reduceIte, if_pos, if_neg, r_152_0, k5, e_has, h1, bI_0', foR]
    · have v1 := hk i hi h1
      cases hb : foR k left i with
      | none => simp (disch := omega) only [pw_lt, pw_cb, pw_cbx, pw_cbxr, pw_lit, pw_litL, pw_oi, pw_oim, pw_oi8, pw_m, pw_ldI, pw_ldL, pw_ldR, pw_stI, pw_stL, pw_nz, pw_ltI, pw_leI, pw_eqI, pw_eqm, pw_eqm2, pw_ltm, pw_mlt, pw_lem, pw_mle, pw_mm, pw_dec, pw_nar0, pw_nar1, nI_add, pw_sub, pw_mul, pw_and, pw_or, pw_andn, pw_shl1, pw_shl, pw_shr, pw_dv, nI_l, lN_i, Bool.false_eq_true, reduceCtorEq, if_false, if_true, ↓reduceIte, if_pos, if_neg, r_152_0, k5, e_has, h1, bI_0', foR, fo2, hb, oI]
      | some b =>
        have hbl := fo_some hb
        have v2 := hk b (by omega) hbl.2
        by_cases h2 : k i < k b
        · have h3 : ¬ k b ≤ k i := by rw [not_le32]; exact h2
          simp (disch := omega) only [pw_lt, pw_cb, pw_cbx, pw_cbxr, pw_lit, pw_litL, pw_oi, pw_oim, pw_oi8, pw_m, pw_ldI, pw_ldL, pw_ldR, pw_stI, pw_stL, pw_nz, pw_ltI, pw_leI, pw_eqI, pw_eqm, pw_eqm2, pw_ltm, pw_mlt, pw_lem, pw_mle, pw_mm, pw_dec, pw_nar0, pw_nar1, nI_add, pw_sub, pw_mul, pw_and, pw_or, pw_andn, pw_shl1, pw_shl, pw_shr, pw_dv, nI_l, lN_i, Bool.false_eq_true, reduceCtorEq, if_false, if_true, ↓reduceIte, if_pos, if_neg, r_152_0, r_152_24, k5, e_has, h1, bI_0', foR, fo2, hb, oI, v1, v2, h2, h3]
        · have h3 : k b ≤ k i := Int32.not_lt.mp h2
          simp (disch := omega) only [pw_lt, pw_cb, pw_cbx, pw_cbxr, pw_lit, pw_litL, pw_oi, pw_oim, pw_oi8, pw_m, pw_ldI, pw_ldL, pw_ldR, pw_stI, pw_stL, pw_nz, pw_ltI, pw_leI, pw_eqI, pw_eqm, pw_eqm2, pw_ltm, pw_mlt, pw_lem, pw_mle, pw_mm, pw_dec, pw_nar0, pw_nar1, nI_add, pw_sub, pw_mul, pw_and, pw_or, pw_andn, pw_shl1, pw_shl, pw_shr, pw_dv, nI_l, lN_i, Bool.false_eq_true, reduceCtorEq, if_false, if_true, ↓reduceIte, if_pos, if_neg, r_152_0, r_152_24, k5, e_has, h1, bI_0', foR, fo2, hb, oI, v1, v2, h2, h3]
  · intro rec
    unfold b_X12_serves_64
    simp (disch := omega) only [pw_lt, pw_cb, pw_cbx, pw_cbxr, pw_lit, pw_litL, pw_oi, pw_oim, pw_oi8, pw_m, pw_ldI, pw_ldL, pw_ldR, pw_stI, pw_stL, pw_nz, pw_ltI, pw_leI, pw_eqI, pw_eqm, pw_eqm2, pw_ltm, pw_mlt, pw_lem, pw_mle, pw_mm, pw_dec, pw_nar0, pw_nar1, nI_add, pw_sub, pw_mul, pw_and, pw_or, pw_andn, pw_shl1, pw_shl, pw_shr, pw_dv, nI_l, lN_i, Bool.false_eq_true, reduceCtorEq, if_false, if_true, ↓reduceIte, if_pos, if_neg, r_152_0, k5]
set_option maxRecDepth 16384 in
theorem e_serves {K T A W : Nat → Int32} {h : PH} {o rule : Nat} (R : RG K T h) (S : AR K A W h) (ho : o < 2 ^ gv K 5) (hr : rule < 4) : ok (f_X12_serves 152 (nI rule) (nI o) h) (fun r h' => r = nI (sv K T (kk K T A W o rule 99) 10 o 0) ∧ eqx [165] h h') := by
  obtain ⟨⟨H, r1, r2, r3, r4⟩, g1, g2⟩ := id R
  obtain ⟨b0, b1, b2, b3, b4, b5, b6, b7, b8, b9, b10⟩ := rk_b H
  have hp2 : 2 ^ gv K 5 ≤ 2 ^ 10 := Nat.pow_le_pow_right (by decide) b6
  have e1024 : 2 ^ 10 = 1024 := rfl
  have hpc : pc o ≤ gv K 5 := by
    have key : ∀ w, w < 11 → ∀ o, o < 2 ^ w → pc o ≤ w := by decide +kernel
    exact key (gv K 5) (by omega) o ho
  have hkey : ∀ h' i, eqx [165] h h' → i < gv K 5 → f_X12_key 152 (nI i) (nI rule) (nI o) h' = some (kk K T A W o rule 99 i, h') := fun h' i e hi => e_key (R.to e (by decide) (by decide) (by decide) (by decide) (by decide)) ⟨fun i hi => by rw [(e 166 (by decide)).1]; exact S.1 i hi, fun i hi => by rw [(e 167 (by decide)).1]; exact S.2 i hi⟩ hi (by omega) hr
  generalize kk K T A W o rule 99 = k at *
  unfold f_X12_serves
  refine ok_lt (ok_lt (ok_lt (ok_join (fun h1 => eqx [165] h h1 ∧ ∀ i, i < gv K 5 → o.testBit i = true → h1.1 165 i = k i) ?_ (fun j hj => ?_))))
  · rintro h1 ⟨e1, y1⟩
    have R1 := R.to e1 (by decide) (by decide) (by decide) (by decide) (by decide)
    rw [show (0 : Int32) = nI 0 from pw_lit 0]
    refine lp_ok (fun n x h2 => h2 = h1 ∧ ∃ left s m, x = (nI s, nI left) ∧ n = pc left ∧ pc left ≤ m ∧ left < 2 ^ gv K 5 ∧ s < 2 ^ gv K 5 ∧ (∀ i, left.testBit i = true → o.testBit i = true) ∧ sv K T k m left s = sv K T k 10 o 0) ?_ FU (pc o) _ h1 ⟨rfl, o, 0, 10, rfl, rfl, by omega, ho, Nat.two_pow_pos _, fun i hi => hi, rfl⟩ (fu_lt (by omega))
    rintro n x h2 h3 ⟨rfl, left, s, m, rfl, rfl, hm, hl, hs, hsub, hsv⟩ hrec
    unfold b_X12_serves_53
    by_cases h0 : left = 0
    · subst h0
      rw [sv_z] at hsv
      simp (disch := omega) only [pw_lt, pw_cb, pw_cbx, pw_cbxr, pw_lit, pw_litL, pw_oi, pw_oim, pw_oi8, pw_m, pw_ldI, pw_ldL, pw_ldR, pw_stI, pw_stL, pw_nz, pw_ltI, pw_leI, pw_eqI, pw_eqm, pw_eqm2, pw_ltm, pw_mlt, pw_lem, pw_mle, pw_mm, pw_dec, pw_nar0, pw_nar1, nI_add, pw_sub, pw_mul, pw_and, pw_or, pw_andn, pw_shl1, pw_shl, pw_shr, pw_dv, nI_l, lN_i, Bool.false_eq_true, reduceCtorEq, if_false, if_true, ↓reduceIte, if_pos, if_neg]
      exact ok_some ⟨by rw [hsv], e1⟩
    · have hpp := pc_pos (n := left) (by omega) h0
      obtain ⟨m, rfl⟩ : ∃ q, m = q + 1 := ⟨m - 1, by omega⟩
      obtain ⟨f, hfo, hfl, hft⟩ := fo_is (k := k) hl h0
      have hsd := sdf_le left (2 ^ f)
      have hrm := pc_rm (by omega) (by omega) hft
      have hor : s ||| 2 ^ f < 2 ^ gv K 5 := Nat.or_lt_two_pow hs (Nat.pow_lt_pow_right (by decide) hfl)
      have hat := R1.2.2 (s ||| 2 ^ f) (by omega)
      rw [sv, if_neg h0, hfo] at hsv
      simp only [Option.getD_some] at hsv
      simp (disch := omega) only [pw_lt, pw_cb, pw_cbx, pw_cbxr, pw_lit, pw_litL, pw_oi, pw_oim, pw_oi8, pw_m, pw_ldI, pw_ldL, pw_ldR, pw_stI, pw_stL, pw_nz, pw_ltI, pw_leI, pw_eqI, pw_eqm, pw_eqm2, pw_ltm, pw_mlt, pw_lem, pw_mle, pw_mm, pw_dec, pw_nar0, pw_nar1, nI_add, pw_sub, pw_mul, pw_and, pw_or, pw_andn, pw_shl1, pw_shl, pw_shr, pw_dv, nI_l, lN_i, Bool.false_eq_true, reduceCtorEq, if_false, if_true, ↓reduceIte, if_pos, if_neg]
      refine e_next (k := k) R1 (by omega) (fun i hi hb => y1 i hi (hsub i hb)) ?_
      rw [hfo]
      rcases tf (tg K T (s ||| 2 ^ f)) with ht | ht
      · rw [ht] at hat hsv
        simp (disch := omega) only [pw_lt, pw_cb, pw_cbx, pw_cbxr, pw_lit, pw_litL, pw_oi, pw_oim, pw_oi8, pw_m, pw_ldI, pw_ldL, pw_ldR, pw_stI, pw_stL, pw_nz, pw_ltI, pw_leI, pw_eqI, pw_eqm, pw_eqm2, pw_ltm, pw_mlt, pw_lem, pw_mle, pw_mm, pw_dec, pw_nar0, pw_nar1, nI_add, pw_sub, pw_mul, pw_and, pw_or, pw_andn, pw_shl1, pw_shr, pw_dv, nI_l, lN_i, Bool.false_eq_true, reduceCtorEq, if_false, if_true, ↓reduceIte, if_pos, if_neg, oI, r_152_22, hat, bI_0']
        exact hrec _ _ h3 (show pc (sdf left (2 ^ f)) < pc left by omega) ⟨rfl, _, _, m, rfl, rfl, by omega, by omega, hs, fun i hi => hsub i (by rw [sdf_tb, Bool.and_eq_true] at hi; exact hi.1), hsv⟩
      · rw [ht] at hat hsv
        simp (disch := omega) only [pw_lt, pw_cb, pw_cbx, pw_cbxr, pw_lit, pw_litL, pw_oi, pw_oim, pw_oi8, pw_m, pw_ldI, pw_ldL, pw_ldR, pw_stI, pw_stL, pw_nz, pw_ltI, pw_leI, pw_eqI, pw_eqm, pw_eqm2, pw_ltm, pw_mlt, pw_lem, pw_mle, pw_mm, pw_dec, pw_nar0, pw_nar1, nI_add, pw_sub, pw_mul, pw_and, pw_or, pw_andn, pw_shl1, pw_shr, pw_dv, nI_l, lN_i, Bool.false_eq_true, reduceCtorEq, if_false, if_true, ↓reduceIte, if_pos, if_neg, oI, r_152_22, hat, bI_0']
        exact hrec _ _ h3 (show pc (sdf left (2 ^ f)) < pc left by omega) ⟨rfl, _, _, m, rfl, rfl, by omega, by omega, hor, fun i hi => hsub i (by rw [sdf_tb, Bool.and_eq_true] at hi; exact hi.1), hsv⟩
  · rw [show (0 : Int32) = nI 0 from pw_lit 0]
    refine lp_ok (fun n x h1 => n ≤ gv K 5 ∧ x = nI (gv K 5 - n) ∧ eqx [165] h h1 ∧ ∀ i, i < gv K 5 - n → o.testBit i = true → h1.1 165 i = k i) ?_ FU (gv K 5) _ h ⟨Nat.le_refl _, by rw [Nat.sub_self], eqx_rfl _ _, fun i hi => absurd hi (by omega)⟩ (fu_lt (by omega))
    rintro n rec x h1 ⟨hn, rfl, e1, y1⟩ hrec
    have k5 : h1.1 153 5 = nI (gv K 5) := by rw [(e1 153 (by decide)).1, r1]; exact (rk_e H).2.2.2.2.2.1
    unfold b_X12_serves_8
    by_cases h0 : n = 0
    · subst h0
      simp (disch := omega) only [pw_lt, pw_cb, pw_cbx, pw_cbxr, pw_lit, pw_litL, pw_oi, pw_oim, pw_oi8, pw_m, pw_ldI, pw_ldL, pw_ldR, pw_stI, pw_stL, pw_nz, pw_ltI, pw_leI, pw_eqI, pw_eqm, pw_eqm2, pw_ltm, pw_mlt, pw_lem, pw_mle, pw_mm, pw_dec, pw_nar0, pw_nar1, nI_add, pw_sub, pw_mul, pw_and, pw_or, pw_andn, pw_shl1, pw_shl, pw_shr, pw_dv, nI_l, lN_i, Bool.false_eq_true, reduceCtorEq, if_false, if_true, ↓reduceIte, if_pos, if_neg, r_152_0, k5, Nat.sub_zero, Nat.le_refl]
      exact hj h1 ⟨e1, fun i hi => y1 i (by omega)⟩
    · generalize hi : gv K 5 - n = i at *
      have e3 : gv K 5 - (n - 1) = i + 1 := by omega
      have hky := hkey h1 i e1 (by omega)
      rcases tf (o.testBit i) with hb | hb
      · simp (disch := omega) only [pw_lt, pw_cb, pw_cbx, pw_cbxr, pw_lit, pw_litL, pw_oi, pw_oim, pw_oi8, pw_m, pw_ldI, pw_ldL, pw_ldR, pw_stI, pw_stL, pw_nz, pw_ltI, pw_leI, pw_eqI, pw_eqm, pw_eqm2, pw_ltm, pw_mlt, pw_lem, pw_mle, pw_mm, pw_dec, pw_nar0, pw_nar1, nI_add, pw_sub, pw_mul, pw_and, pw_or, pw_andn, pw_shl1, pw_shl, pw_shr, pw_dv, nI_l, lN_i, Bool.false_eq_true, reduceCtorEq, if_false, if_true, ↓reduceIte, if_pos, if_neg, r_152_0, r_152_24, k5, e_has, hb, bI_0']
        refine hrec (n - 1) _ _ (by omega) ⟨by omega, by rw [e3], eqx_trans e1 (eqx_pI (by decide)), fun q hq hqb => ?_⟩
        rw [e3] at hq
        have : q ≠ i := fun z => by rw [z, hb] at hqb; cases hqb
        rw [pw_pIo (by omega)]
        exact y1 q (by omega) hqb
      · simp (disch := omega) only [pw_lt, pw_cb, pw_cbx, pw_cbxr, pw_lit, pw_litL, pw_oi, pw_oim, pw_oi8, pw_m, pw_ldI, pw_ldL, pw_ldR, pw_stI, pw_stL, pw_nz, pw_ltI, pw_leI, pw_eqI, pw_eqm, pw_eqm2, pw_ltm, pw_mlt, pw_lem, pw_mle, pw_mm, pw_dec, pw_nar0, pw_nar1, nI_add, pw_sub, pw_mul, pw_and, pw_or, pw_andn, pw_shl1, pw_shl, pw_shr, pw_dv, nI_l, lN_i, Bool.false_eq_true, reduceCtorEq, if_false, if_true, ↓reduceIte, if_pos, if_neg, r_152_0, r_152_24, k5, e_has, hb, bI_0', hky]
        refine hrec (n - 1) _ _ (by omega) ⟨by omega, by rw [e3], eqx_trans e1 (eqx_pI (by decide)), fun q hq hqb => ?_⟩
        rw [e3] at hq
        by_cases ez : q = i
        · subst ez
          rw [pw_pIs]
        · rw [pw_pIo (by omega)]
          exact y1 q (by omega) hqb
set_option maxRecDepth 16384 in
theorem e_asks {h : PH} : ok (f_X12_asksAsItIs 152 h) (fun _ h' => eqx [166, 167] h h' ∧ (∀ i, i < 10 → h'.1 166 i = h.1 153 (8 + i)) ∧ ∀ i, i < 10 → h'.1 167 i = h.1 153 (34 + i)) := by
  unfold f_X12_asksAsItIs
  simp (disch := omega) only [pw_lt, pw_cb, pw_cbx, pw_cbxr, pw_lit, pw_litL, pw_oi, pw_oim, pw_oi8, pw_m, pw_ldI, pw_ldL, pw_ldR, pw_stI, pw_stL, pw_nz, pw_ltI, pw_leI, pw_eqI, pw_eqm, pw_eqm2, pw_ltm, pw_mlt, pw_lem, pw_mle, pw_mm, pw_dec, pw_nar0, pw_nar1, nI_add, pw_sub, pw_mul, pw_and, pw_or, pw_andn, pw_shl1, pw_shl, pw_shr, pw_dv, nI_l, lN_i, Bool.false_eq_true, reduceCtorEq, if_false, if_true, ↓reduceIte]
  refine lp_ok (fun n x h1 => n ≤ 10 ∧ x = nI (10 - n) ∧ eqx [166, 167] h h1 ∧ (∀ i, i < 10 - n → h1.1 166 i = h.1 153 (8 + i)) ∧ ∀ i, i < 10 - n → h1.1 167 i = h.1 153 (34 + i)) ?_ FU 10 _ h ⟨by omega, rfl, eqx_rfl _ _, fun i hi => absurd hi (by omega), fun i hi => absurd hi (by omega)⟩ (fu_lt (by omega))
  rintro n rec x h1 ⟨hn, rfl, e1, y1, y2⟩ hrec
  unfold b_X12_asksAsItIs_2
  by_cases h0 : n = 0
  · subst h0
    simp (disch := omega) only [pw_lt, pw_cb, pw_cbx, pw_cbxr, pw_lit, pw_litL, pw_oi, pw_oim, pw_oi8, pw_m, pw_ldI, pw_ldL, pw_ldR, pw_stI, pw_stL, pw_nz, pw_ltI, pw_leI, pw_eqI, pw_eqm, pw_eqm2, pw_ltm, pw_mlt, pw_lem, pw_mle, pw_mm, pw_dec, pw_nar0, pw_nar1, nI_add, pw_sub, pw_mul, pw_and, pw_or, pw_andn, pw_shl1, pw_shl, pw_shr, pw_dv, nI_l, lN_i, Bool.false_eq_true, reduceCtorEq, if_false, if_true, ↓reduceIte, if_pos, if_neg]
    exact ok_some ⟨e1, fun i hi => y1 i (by omega), fun i hi => y2 i (by omega)⟩
  · generalize hi : 10 - n = i at *
    have e3 : 10 - (n - 1) = i + 1 := by omega
    have q := (e1 153 (by decide)).1
    simp (disch := omega) only [pw_lt, pw_cb, pw_cbx, pw_cbxr, pw_lit, pw_litL, pw_oi, pw_oim, pw_oi8, pw_m, pw_ldI, pw_ldL, pw_ldR, pw_stI, pw_stL, pw_nz, pw_ltI, pw_leI, pw_eqI, pw_eqm, pw_eqm2, pw_ltm, pw_mlt, pw_lem, pw_mle, pw_mm, pw_dec, pw_nar0, pw_nar1, nI_add, pw_sub, pw_mul, pw_and, pw_or, pw_andn, pw_shl1, pw_shl, pw_shr, pw_dv, nI_l, lN_i, Bool.false_eq_true, reduceCtorEq, if_false, if_true, ↓reduceIte, if_pos, if_neg, r_152_0, r_152_25, r_152_26, pw_pIo, q]
    refine hrec (n - 1) _ _ (by omega) ⟨by omega, by rw [e3], eqx_trans e1 (eqx_trans (eqx_pI (by decide)) (eqx_pI (by decide))), fun k hk => ?_, fun k hk => ?_⟩
    · rw [e3] at hk
      rw [pw_pIo (by omega)]
      by_cases ek : k = i
      · subst ek
        rw [pw_pIs]
      · rw [pw_pIo (by omega)]
        exact y1 k (by omega)
    · rw [e3] at hk
      by_cases ek : k = i
      · subst ek
        rw [pw_pIs]
      · rw [pw_pIo (by omega), pw_pIo (by omega)]
        exact y2 k (by omega)
/-! the weight of a person's part -/
def shf (K : Nat → Int32) (pr s i : Nat) : Nat := if s.testBit i = true ∧ gv K (24 + i) = pr then gv K (34 + i) else 0
def shw (K : Nat → Int32) (pr s : Nat) : Nat := sumTo (gv K 5) (shf K pr s)
set_option maxRecDepth 16384 in
theorem shf_le {K : Nat → Int32} (H : RK K) {pr s i : Nat} (hi : i < gv K 5) : shf K pr s i ≤ 9 := by
  have hW := H.2.2.2.2.2.2.2.2.2.2.2
  obtain ⟨-, ⟨-, -, w3⟩, -⟩ := hW i hi
  unfold shf
  by_cases h : s.testBit i = true ∧ gv K (24 + i) = pr
  · rw [if_pos h]; exact w3
  · rw [if_neg h]; omega
set_option maxRecDepth 16384 in
theorem sh_le {K : Nat → Int32} (H : RK K) {pr s : Nat} : ∀ n, n ≤ gv K 5 → sumTo n (shf K pr s) ≤ 9 * n
  | 0, _ => Nat.zero_le _
  | n + 1, hn => by
    have ih := sh_le H (pr := pr) (s := s) n (by omega)
    have := shf_le H (pr := pr) (s := s) (i := n) (by omega)
    unfold sumTo
    omega
set_option maxRecDepth 16384 in
theorem shw_le {K : Nat → Int32} (H : RK K) (pr s : Nat) : shw K pr s ≤ 90 := by
  obtain ⟨b0, b1, b2, b3, b4, b5, b6, b7, b8, b9, b10⟩ := rk_b H
  have := sh_le H (pr := pr) (s := s) (gv K 5) (Nat.le_refl _)
  unfold shw
  omega
set_option maxRecDepth 16384 in
theorem e_shareOf {K : Nat → Int32} {h : PH} {pr s : Nat} (H : RK K) (r1 : h.1 153 = K) (hs : s < 1024) (hp : pr < 6) : f_X12_shareOf 152 (nI pr) (nI s) h = some (nI (shw K pr s), h) := by
  obtain ⟨b0, b1, b2, b3, b4, b5, b6, b7, b8, b9, b10⟩ := rk_b H
  have hW := H.2.2.2.2.2.2.2.2.2.2.2
  have k5 : h.1 153 5 = nI (gv K 5) := by rw [r1]; exact (rk_e H).2.2.2.2.2.1
  unfold f_X12_shareOf
  simp only [pw_lt, pw_lit]
  refine lp_run (fun n => (nI (sumTo n (shf K pr s)), nI n)) (fun _ => h) (gv K 5) _ ?_ ?_ FU (fu_lt (by omega))
  · intro j hj rec
    obtain ⟨⟨w1, w2⟩, ⟨w3, w4, w5⟩, -⟩ := hW j hj
    unfold b_X12_shareOf_5
    rcases tf (s.testBit j) with h2 | h2
    · have e : shf K pr s j = 0 := if_neg (by rw [h2]; simp)
      simp (disch := omega) only [pw_lt, pw_cb, pw_cbx, pw_cbxr, pw_lit, pw_litL, pw_oi, pw_oim, pw_oi8, pw_m, pw_ldI, pw_ldL, pw_ldR, pw_stI, pw_stL, pw_nz, pw_ltI, pw_leI, pw_eqI, pw_eqm, pw_eqm2, pw_ltm, pw_mlt, pw_lem, pw_mle, pw_mm, pw_dec, pw_nar0, pw_nar1, nI_add, pw_sub, pw_mul, pw_and, pw_or, pw_andn, pw_shl1, pw_shl, pw_shr, pw_dv, nI_l, lN_i, Bool.false_eq_true, reduceCtorEq, if_false, if_true, ↓reduceIte, if_pos, if_neg, r_152_0, k5, e_has, h2, bI_0', sumTo, e, Nat.add_zero]
    · by_cases h1 : gv K (24 + j) = pr
      · have e : shf K pr s j = gv K (34 + j) := if_pos ⟨h2, h1⟩
        simp (disch := omega) only [pw_lt, pw_cb, pw_cbx, pw_cbxr, pw_lit, pw_litL, pw_oi, pw_oim, pw_oi8, pw_m, pw_ldI, pw_ldL, pw_ldR, pw_stI, pw_stL, pw_nz, pw_ltI, pw_leI, pw_eqI, pw_eqm, pw_eqm2, pw_ltm, pw_mlt, pw_lem, pw_mle, pw_mm, pw_dec, pw_nar0, pw_nar1, nI_add, pw_sub, pw_mul, pw_and, pw_or, pw_andn, pw_shl1, pw_shl, pw_shr, pw_dv, nI_l, lN_i, Bool.false_eq_true, reduceCtorEq, if_false, if_true, ↓reduceIte, if_pos, if_neg, r_152_0, k5, e_has, h2, bI_0', r1, w1, w3, h1, sumTo, e]
      · have e : shf K pr s j = 0 := if_neg (fun q => h1 q.2)
        simp (disch := omega) only [pw_lt, pw_cb, pw_cbx, pw_cbxr, pw_lit, pw_litL, pw_oi, pw_oim, pw_oi8, pw_m, pw_ldI, pw_ldL, pw_ldR, pw_stI, pw_stL, pw_nz, pw_ltI, pw_leI, pw_eqI, pw_eqm, pw_eqm2, pw_ltm, pw_mlt, pw_lem, pw_mle, pw_mm, pw_dec, pw_nar0, pw_nar1, nI_add, pw_sub, pw_mul, pw_and, pw_or, pw_andn, pw_shl1, pw_shl, pw_shr, pw_dv, nI_l, lN_i, Bool.false_eq_true, reduceCtorEq, if_false, if_true, ↓reduceIte, if_pos, if_neg, r_152_0, k5, e_has, h2, bI_0', r1, w1, h1, sumTo, e, Nat.add_zero]
  · intro rec
    unfold b_X12_shareOf_5
    simp (disch := omega) only [pw_lt, pw_cb, pw_cbx, pw_cbxr, pw_lit, pw_litL, pw_oi, pw_oim, pw_oi8, pw_m, pw_ldI, pw_ldL, pw_ldR, pw_stI, pw_stL, pw_nz, pw_ltI, pw_leI, pw_eqI, pw_eqm, pw_eqm2, pw_ltm, pw_mlt, pw_lem, pw_mle, pw_mm, pw_dec, pw_nar0, pw_nar1, nI_add, pw_sub, pw_mul, pw_and, pw_or, pw_andn, pw_shl1, pw_shl, pw_shr, pw_dv, nI_l, lN_i, Bool.false_eq_true, reduceCtorEq, if_false, if_true, ↓reduceIte, if_pos, if_neg, r_152_0, k5]
    rfl
set_option maxRecDepth 16384 in
theorem c_weightFor {K T : Nat → Int32} {h : PH} {pr s : Nat} (R : RC K T h) (hs : s < 1024) (hp : pr < 6) : f_X7_weightFor 37 (nI pr) (nI s) h = some (nI (shw K pr s), h) := by
  have H := R.1.1
  obtain ⟨b0, b1, b2, b3, b4, b5, b6, b7, b8, b9, b10⟩ := rk_b H
  have hW := H.2.2.2.2.2.2.2.2.2.2.2
  have s5 : h.1 3 5 = nI (gv K 5) := by rw [R.1.2.1.2.2.2.2.2.1]; exact (rk_e H).2.2.2.2.2.1
  have hby := R.2.2.2.2.2
  have hwe := R.2.2.2.2.1
  unfold f_X7_weightFor
  simp only [pw_lt, pw_lit]
  refine lp_run (fun n => (nI (sumTo n (shf K pr s)), nI n)) (fun _ => h) (gv K 5) _ ?_ ?_ FU (fu_lt (by omega))
  · intro j hj rec
    obtain ⟨⟨w1, w2⟩, ⟨w3, w4, w5⟩, -⟩ := hW j hj
    have hb2 := hby j hj
    have hw2 := hwe j hj
    unfold b_X7_weightFor_5
    by_cases h1 : gv K (24 + j) = pr
    · rcases tf (s.testBit j) with h2 | h2
      · have e : shf K pr s j = 0 := if_neg (by rw [h2]; simp)
        simp (disch := omega) only [pw_lt, pw_cb, pw_cbx, pw_cbxr, pw_lit, pw_litL, pw_oi, pw_oim, pw_oi8, pw_m, pw_ldI, pw_ldL, pw_ldR, pw_stI, pw_stL, pw_nz, pw_ltI, pw_leI, pw_eqI, pw_eqm, pw_eqm2, pw_ltm, pw_mlt, pw_lem, pw_mle, pw_mm, pw_dec, pw_nar0, pw_nar1, nI_add, pw_sub, pw_mul, pw_and, pw_or, pw_andn, pw_shl1, pw_shl, pw_shr, pw_dv, nI_l, lN_i, Bool.false_eq_true, reduceCtorEq, if_false, if_true, ↓reduceIte, if_pos, if_neg, r_37_0, r_3_12, s5, hb2, w1, h1, pw_tb, h2, sumTo, e, Nat.add_zero]
      · have e : shf K pr s j = gv K (34 + j) := if_pos ⟨h2, h1⟩
        simp (disch := omega) only [pw_lt, pw_cb, pw_cbx, pw_cbxr, pw_lit, pw_litL, pw_oi, pw_oim, pw_oi8, pw_m, pw_ldI, pw_ldL, pw_ldR, pw_stI, pw_stL, pw_nz, pw_ltI, pw_leI, pw_eqI, pw_eqm, pw_eqm2, pw_ltm, pw_mlt, pw_lem, pw_mle, pw_mm, pw_dec, pw_nar0, pw_nar1, nI_add, pw_sub, pw_mul, pw_and, pw_or, pw_andn, pw_shl1, pw_shl, pw_shr, pw_dv, nI_l, lN_i, Bool.false_eq_true, reduceCtorEq, if_false, if_true, ↓reduceIte, if_pos, if_neg, r_37_0, r_3_12, r_3_13, s5, hb2, hw2, w1, w3, h1, pw_tb, h2, sumTo, e]
    · have e : shf K pr s j = 0 := if_neg (fun q => h1 q.2)
      simp (disch := omega) only [pw_lt, pw_cb, pw_cbx, pw_cbxr, pw_lit, pw_litL, pw_oi, pw_oim, pw_oi8, pw_m, pw_ldI, pw_ldL, pw_ldR, pw_stI, pw_stL, pw_nz, pw_ltI, pw_leI, pw_eqI, pw_eqm, pw_eqm2, pw_ltm, pw_mlt, pw_lem, pw_mle, pw_mm, pw_dec, pw_nar0, pw_nar1, nI_add, pw_sub, pw_mul, pw_and, pw_or, pw_andn, pw_shl1, pw_shl, pw_shr, pw_dv, nI_l, lN_i, Bool.false_eq_true, reduceCtorEq, if_false, if_true, ↓reduceIte, if_pos, if_neg, r_37_0, r_3_12, s5, hb2, w1, h1, sumTo, e, Nat.add_zero]
  · intro rec
    unfold b_X7_weightFor_5
    simp (disch := omega) only [pw_lt, pw_cb, pw_cbx, pw_cbxr, pw_lit, pw_litL, pw_oi, pw_oim, pw_oi8, pw_m, pw_ldI, pw_ldL, pw_ldR, pw_stI, pw_stL, pw_nz, pw_ltI, pw_leI, pw_eqI, pw_eqm, pw_eqm2, pw_ltm, pw_mlt, pw_lem, pw_mle, pw_mm, pw_dec, pw_nar0, pw_nar1, nI_add, pw_sub, pw_mul, pw_and, pw_or, pw_andn, pw_shl1, pw_shl, pw_shr, pw_dv, nI_l, lN_i, Bool.false_eq_true, reduceCtorEq, if_false, if_true, ↓reduceIte, if_pos, if_neg, r_37_0, s5]
    rfl

/-! ===== nights for all ===== -/
def nin (K T : Nat → Int32) (G : Nat → Int32) (set : Nat) : Nat → Nat → Int32 → Int32
  | 0, _, b => b
  | m + 1, part, b => if part = 0 then b else nin K T G set m ((part - 1) &&& set) (if tg K T part = true ∧ ¬ G (sdf set part) = mI ∧ (b = mI ∨ ¬ b ≤ G (sdf set part) + nI 1) then G (sdf set part) + nI 1 else b)
/- the table behind the sets to n -/
def nT (K T : Nat → Int32) : Nat → Nat → Int32
  | 0 => fun _ => nI 0
  | n + 1 => fun x => if x = n + 1 then (if sdf (n + 1) (gv K 7) = 0 then nin K T (nT K T n) (n + 1) (n + 2) (n + 1) mI else mI) else nT K T n x
set_option maxRecDepth 16384 in
theorem nT_st {K T : Nat → Int32} {x : Nat} : ∀ {n}, x ≤ n → nT K T n x = nT K T x x
  | 0, h => by
    have : x = 0 := by omega
    rw [this]
  | n + 1, h => by
    by_cases e : x = n + 1
    · rw [e]
    · have : nT K T (n + 1) x = nT K T n x := by
        rw [nT]
        exact if_neg e
      rw [this]
      exact nT_st (by omega)
set_option maxRecDepth 16384 in
theorem nin_congr {K T G G' : Nat → Int32} {set : Nat} (h : ∀ x, x < set → G x = G' x) : ∀ m part b, sdf part set = 0 → nin K T G set m part b = nin K T G' set m part b
  | 0, _, _, _ => rfl
  | m + 1, part, b, hp => by
    rw [nin, nin]
    by_cases h0 : part = 0
    · rw [if_pos h0, if_pos h0]
    · rw [if_neg h0, if_neg h0]
      have hlt : sdf set part < set := by
        have h1 := sdf_le set part
        rcases Nat.lt_or_ge (sdf set part) set with q | q
        · exact q
        · exfalso
          have e : sdf set part = set := by omega
          obtain ⟨i, hi⟩ := Nat.exists_testBit_of_ne_zero h0
          have h2 := sdf_iff.mp hp i hi
          have h3 := sdf_tb set part i
          rw [e, h2, hi] at h3
          cases h3
      rw [h _ hlt]
      refine nin_congr h m _ _ ?_
      rw [sdf_0, Nat.and_assoc, Nat.and_self]
set_option maxRecDepth 16384 in
theorem sub_sub {p s : Nat} : sdf ((p - 1) &&& s) s = 0 := by rw [sdf_0, Nat.and_assoc, Nat.and_self]
set_option maxRecDepth 16384 in
theorem sub_lt {p s : Nat} (hp : sdf p s = 0) (h0 : p ≠ 0) : sdf s p < s := by
  have h1 := sdf_le s p
  rcases Nat.lt_or_ge (sdf s p) s with q | q
  · exact q
  · exfalso
    have e : sdf s p = s := by omega
    obtain ⟨i, hi⟩ := Nat.exists_testBit_of_ne_zero h0
    have h2 := sdf_iff.mp hp i hi
    have h3 := sdf_tb s p i
    rw [e, h2, hi] at h3
    cases h3
set_option maxRecDepth 16384 in
theorem c_nightsFor {K T G : Nat → Int32} {h : PH} {set : Nat} (H : RK K) (c : CT2 K T (gv K 7) h) (hs : set < 2 ^ gv K 5) (hG : ∀ x, x < set → h.1 36 x = G x) : f_X2_nightsFor 33 (nI set) h = some (nin K T G set (set + 1) set mI, h) := by
  obtain ⟨b0, b1, b2, b3, b4, b5, b6, b7, b8, b9, b10⟩ := rk_b H
  have hp2 : 2 ^ gv K 5 ≤ 2 ^ 10 := Nat.pow_le_pow_right (by decide) b6
  have e1024 : 2 ^ 10 = 1024 := rfl
  unfold f_X2_nightsFor
  simp only [pw_lt, pw_lit, pw_m]
  have key : ∀ m part b N, part < m → sdf part set = 0 → m < N → lp (b_X2_nightsFor_4 33 (nI set)) N (b, nI part) h = some (nin K T G set m part b, h) := by
    intro m
    induction m with
    | zero => intro part b N hp; omega
    | succ m ih =>
      intro part b N hp hsub hN
      obtain ⟨M, rfl⟩ : ∃ M, N = M + 1 := ⟨N - 1, by omega⟩
      show b_X2_nightsFor_4 33 (nI set) (lp (b_X2_nightsFor_4 33 (nI set)) M) (b, nI part) h = _
      have hps := sub_le hsub
      rw [nin]
      by_cases h0 : part = 0
      · rw [if_pos h0]
        subst h0
        unfold b_X2_nightsFor_4
        simp (disch := omega) only [pw_lt, pw_cb, pw_cbx, pw_cbxr, pw_lit, pw_litL, pw_oi, pw_oim, pw_oi8, pw_m, pw_ldI, pw_ldL, pw_ldR, pw_stI, pw_stL, pw_nz, pw_ltI, pw_leI, pw_eqI, pw_eqm, pw_eqm2, pw_ltm, pw_mlt, pw_lem, pw_mle, pw_mm, pw_dec, pw_nar0, pw_nar1, nI_add, pw_sub, pw_mul, pw_and, pw_or, pw_andn, pw_shl1, pw_shl, pw_shr, pw_dv, nI_l, lN_i, Bool.false_eq_true, reduceCtorEq, if_false, if_true, ↓reduceIte, if_pos, if_neg, Nat.le_refl]
      · rw [if_neg h0]
        have hlt := sub_lt hsub h0
        have hg := hG _ hlt
        have hat := c_areTogether (T := T) H c (s := part) (by omega)
        have hnx : (part - 1) &&& set ≤ part - 1 := Nat.and_le_left
        have ih2 := fun b => ih ((part - 1) &&& set) b M (by omega) sub_sub (by omega)
        generalize hr : lp (b_X2_nightsFor_4 33 (nI set)) M = rec at *
        unfold b_X2_nightsFor_4
        rcases tf (tg K T part) with h1 | h1
        · simp (disch := omega) only [pw_lt, pw_cb, pw_cbx, pw_cbxr, pw_lit, pw_litL, pw_oi, pw_oim, pw_oi8, pw_m, pw_ldI, pw_ldL, pw_ldR, pw_stI, pw_stL, pw_nz, pw_ltI, pw_leI, pw_eqI, pw_eqm, pw_eqm2, pw_ltm, pw_mlt, pw_lem, pw_mle, pw_mm, pw_dec, pw_nar0, pw_nar1, nI_add, pw_sub, pw_mul, pw_and, pw_or, pw_andn, pw_shl1, pw_shl, pw_shr, pw_dv, nI_l, lN_i, Bool.false_eq_true, reduceCtorEq, if_false, if_true, ↓reduceIte, if_pos, if_neg, r_33_6, hat, h1, bI_0', ih2, false_and]
        · by_cases h2 : G (sdf set part) = mI
          · simp (disch := omega) only [pw_lt, pw_cb, pw_cbx, pw_cbxr, pw_lit, pw_litL, pw_oi, pw_oim, pw_oi8, pw_m, pw_ldI, pw_ldL, pw_ldR, pw_stI, pw_stL, pw_nz, pw_ltI, pw_leI, pw_eqI, pw_eqm, pw_eqm2, pw_ltm, pw_mlt, pw_lem, pw_mle, pw_mm, pw_dec, pw_nar0, pw_nar1, nI_add, pw_sub, pw_mul, pw_and, pw_or, pw_andn, pw_shl1, pw_shl, pw_shr, pw_dv, nI_l, lN_i, Bool.false_eq_true, reduceCtorEq, if_false, if_true, ↓reduceIte, if_pos, if_neg, r_33_6, hg, hat, h1, h2, bI_0', ih2, not_true_eq_false, false_and, and_false]
          · by_cases h3 : b = mI
            · simp (disch := omega) only [pw_lt, pw_cb, pw_cbx, pw_cbxr, pw_lit, pw_litL, pw_oi, pw_oim, pw_oi8, pw_m, pw_ldI, pw_ldL, pw_ldR, pw_stI, pw_stL, pw_nz, pw_ltI, pw_leI, pw_eqI, pw_eqm, pw_eqm2, pw_ltm, pw_mlt, pw_lem, pw_mle, pw_mm, pw_dec, pw_nar0, pw_nar1, nI_add, pw_sub, pw_mul, pw_and, pw_or, pw_andn, pw_shl1, pw_shl, pw_shr, pw_dv, nI_l, lN_i, Bool.false_eq_true, reduceCtorEq, if_false, if_true, ↓reduceIte, if_pos, if_neg, r_33_6, hg, hat, h1, h2, h3, bI_0', ih2, not_false_eq_true, true_and, true_or]
            · by_cases h4 : b ≤ G (sdf set part) + nI 1
              · simp (disch := omega) only [pw_lt, pw_cb, pw_cbx, pw_cbxr, pw_lit, pw_litL, pw_oi, pw_oim, pw_oi8, pw_m, pw_ldI, pw_ldL, pw_ldR, pw_stI, pw_stL, pw_nz, pw_ltI, pw_leI, pw_eqI, pw_eqm, pw_eqm2, pw_ltm, pw_mlt, pw_lem, pw_mle, pw_mm, pw_dec, pw_nar0, pw_nar1, nI_add, pw_sub, pw_mul, pw_and, pw_or, pw_andn, pw_shl1, pw_shl, pw_shr, pw_dv, nI_l, lN_i, Bool.false_eq_true, reduceCtorEq, if_false, if_true, ↓reduceIte, if_pos, if_neg, r_33_6, hg, hat, h1, h2, h3, h4, bI_0', ih2, not_true_eq_false, or_self, and_false]
              · simp (disch := omega) only [pw_lt, pw_cb, pw_cbx, pw_cbxr, pw_lit, pw_litL, pw_oi, pw_oim, pw_oi8, pw_m, pw_ldI, pw_ldL, pw_ldR, pw_stI, pw_stL, pw_nz, pw_ltI, pw_leI, pw_eqI, pw_eqm, pw_eqm2, pw_ltm, pw_mlt, pw_lem, pw_mle, pw_mm, pw_dec, pw_nar0, pw_nar1, nI_add, pw_sub, pw_mul, pw_and, pw_or, pw_andn, pw_shl1, pw_shl, pw_shr, pw_dv, nI_l, lN_i, Bool.false_eq_true, reduceCtorEq, if_false, if_true, ↓reduceIte, if_pos, if_neg, r_33_6, hg, hat, h1, h2, h3, h4, bI_0', ih2, not_false_eq_true, true_and, or_true]
  exact key (set + 1) set mI FU (by omega) (by rw [sdf_0, Nat.and_self]) (fu_lt (by omega))
set_option maxRecDepth 16384 in
theorem c_nightsForAll {K T : Nat → Int32} {h : PH} (R : RC K T h) : ok (f_X2_nightsForAll 33 h) (fun r h' => r = nT K T (gv K 7) (gv K 7) ∧ eqx [36] h h') := by
  obtain ⟨F, c, o7, -, -, -⟩ := R
  have H := F.1
  obtain ⟨b0, b1, b2, b3, b4, b5, b6, b7, b8, b9, b10⟩ := rk_b H
  have hol := open_lt H
  unfold f_X2_nightsForAll
  simp (disch := omega) only [pw_lt, pw_cb, pw_cbx, pw_cbxr, pw_lit, pw_litL, pw_oi, pw_oim, pw_oi8, pw_m, pw_ldI, pw_ldL, pw_ldR, pw_stI, pw_stL, pw_nz, pw_ltI, pw_leI, pw_eqI, pw_eqm, pw_eqm2, pw_ltm, pw_mlt, pw_lem, pw_mle, pw_mm, pw_dec, pw_nar0, pw_nar1, nI_add, pw_sub, pw_mul, pw_and, pw_or, pw_andn, pw_shl1, pw_shl, pw_shr, pw_dv, nI_l, lN_i, Bool.false_eq_true, reduceCtorEq, if_false, if_true, ↓reduceIte, if_pos, if_neg, r_33_6]
  refine lp_ok (fun n s h1 => n ≤ gv K 7 ∧ s = nI (gv K 7 - n + 1) ∧ eqx [36] h h1 ∧ ∀ x, x ≤ gv K 7 - n → h1.1 36 x = nT K T x x) ?_ FU (gv K 7) _ _ ⟨Nat.le_refl _, by rw [Nat.sub_self], eqx_pI (by decide), fun x hx => ?_⟩ (fu_lt (by omega))
  · rintro n rec s h1 ⟨hn, rfl, e1, y1⟩ hrec
    have o7' : h1.1 33 7 = nI (gv K 7) := by rw [(e1 33 (by decide)).1, o7]
    unfold b_X2_nightsForAll_9
    by_cases h0 : n = 0
    · subst h0
      simp (disch := omega) only [pw_lt, pw_cb, pw_cbx, pw_cbxr, pw_lit, pw_litL, pw_oi, pw_oim, pw_oi8, pw_m, pw_ldI, pw_ldL, pw_ldR, pw_stI, pw_stL, pw_nz, pw_ltI, pw_leI, pw_eqI, pw_eqm, pw_eqm2, pw_ltm, pw_mlt, pw_lem, pw_mle, pw_mm, pw_dec, pw_nar0, pw_nar1, nI_add, pw_sub, pw_mul, pw_and, pw_or, pw_andn, pw_shl1, pw_shl, pw_shr, pw_dv, nI_l, lN_i, Bool.false_eq_true, reduceCtorEq, if_false, if_true, ↓reduceIte, if_pos, if_neg, o7', r_33_6]
      exact ok_some ⟨y1 _ (by omega), e1⟩
    · generalize hm : gv K 7 - n = m at *
      have e9 : gv K 7 - (n - 1) = m + 1 := by omega
      have hsd := sdf_le (m + 1) (gv K 7)
      have hst : ∀ v, v = nT K T (m + 1) (m + 1) → ∀ x, x ≤ gv K 7 - (n - 1) → (pI h1 36 (m + 1) v).1 36 x = nT K T x x := by
        intro v hv x hx
        by_cases ex : x = m + 1
        · subst ex
          rw [pw_pIs, hv]
        · rw [pw_pIo (by omega)]
          exact y1 x (by omega)
      have hfin : ∀ v, v = nT K T (m + 1) (m + 1) → ok (rec (nI (m + 1 + 1)) (pI h1 36 (m + 1) v)) (fun r h' => r = nT K T (gv K 7) (gv K 7) ∧ eqx [36] h h') := fun v hv => hrec (n - 1) _ _ (by omega) ⟨by omega, by rw [e9], eqx_trans e1 (eqx_pI (by decide)), hst v hv⟩
      by_cases h2 : sdf (m + 1) (gv K 7) = 0
      · have c1 : CT2 K T (gv K 7) h1 := by
          unfold CT2
          rw [(e1 33 (by decide)).1, (e1 34 (by decide)).1, (e1 35 (by decide)).1]
          exact c
        have hnf := c_nightsFor (G := nT K T m) (set := m + 1) H c1 (by omega) (fun x hx => by rw [y1 x (by omega)]; exact (nT_st (by omega)).symm)
        simp (disch := omega) only [pw_lt, pw_cb, pw_cbx, pw_cbxr, pw_lit, pw_litL, pw_oi, pw_oim, pw_oi8, pw_m, pw_ldI, pw_ldL, pw_ldR, pw_stI, pw_stL, pw_nz, pw_ltI, pw_leI, pw_eqI, pw_eqm, pw_eqm2, pw_ltm, pw_mlt, pw_lem, pw_mle, pw_mm, pw_dec, pw_nar0, pw_nar1, nI_add, pw_sub, pw_mul, pw_and, pw_or, pw_andn, pw_shl1, pw_shl, pw_shr, pw_dv, nI_l, lN_i, Bool.false_eq_true, reduceCtorEq, if_false, if_true, ↓reduceIte, if_pos, if_neg, o7', r_33_6, h2, hnf]
        refine hfin _ ?_
        rw [nT]
        exact ((if_pos rfl).trans (if_pos h2)).symm
      · simp (disch := omega) only [pw_lt, pw_cb, pw_cbx, pw_cbxr, pw_lit, pw_litL, pw_oi, pw_oim, pw_oi8, pw_m, pw_ldI, pw_ldL, pw_ldR, pw_stI, pw_stL, pw_nz, pw_ltI, pw_leI, pw_eqI, pw_eqm, pw_eqm2, pw_ltm, pw_mlt, pw_lem, pw_mle, pw_mm, pw_dec, pw_nar0, pw_nar1, nI_add, pw_sub, pw_mul, pw_and, pw_or, pw_andn, pw_shl1, pw_shl, pw_shr, pw_dv, nI_l, lN_i, Bool.false_eq_true, reduceCtorEq, if_false, if_true, ↓reduceIte, if_pos, if_neg, o7', r_33_6, h2]
        refine hfin _ ?_
        rw [nT]
        exact ((if_pos rfl).trans (if_neg h2)).symm
  · have : x = 0 := by omega
    subst this
    rw [pw_pIs]
    rfl
set_option maxRecDepth 16384 in
theorem e_nights_in {K T G : Nat → Int32} {h h0 : PH} {set : Nat} {Q : Int32 → PH → Prop} {j : PH → Option (Int32 × PH)} (hset : set < 1024) (g2 : ∀ s, s < 1024 → h0.1 163 s = bI (tg K T s)) (he0 : eqx [164] h0 h) (hG : ∀ x, x < set → h.1 164 x = G x) (hb : h.1 164 set = mI) (hj : ∀ h', eqx [164] h h' → (∀ x, ¬ x = set → h'.1 164 x = h.1 164 x) → h'.1 164 set = nin K T G set (set + 1) set mI → ok (j h') Q) : ok (lp (b_X12_nights_51 152 (nI set) j) FU (nI set) h) Q := by
  have hFU := fu_eq
  refine lp_ok (fun n s h' => ∃ part b, s = nI part ∧ n = part ∧ part ≤ set ∧ sdf part set = 0 ∧ eqx [164] h h' ∧ (∀ x, ¬ x = set → h'.1 164 x = h.1 164 x) ∧ h'.1 164 set = b ∧ ∃ m, part < m ∧ nin K T G set m part b = nin K T G set (set + 1) set mI) ?_ FU set _ h ⟨set, mI, rfl, rfl, by omega, by rw [sdf_0, Nat.and_self], eqx_rfl _ _, fun _ _ => rfl, hb, set + 1, by omega, rfl⟩ (by omega)
  rintro n rec s h' ⟨part, b, rfl, rfl, hps, hsub, e1, ho, hv, m, hm, hnin⟩ hrec
  unfold b_X12_nights_51
  obtain ⟨m, rfl⟩ : ∃ q, m = q + 1 := ⟨m - 1, by omega⟩
  rw [nin] at hnin
  by_cases h0' : n = 0
  · subst h0'
    rw [if_pos rfl] at hnin
    simp (disch := omega) only [pw_lt, pw_cb, pw_cbx, pw_cbxr, pw_lit, pw_litL, pw_oi, pw_oim, pw_oi8, pw_m, pw_ldI, pw_ldL, pw_ldR, pw_stI, pw_stL, pw_nz, pw_ltI, pw_leI, pw_eqI, pw_eqm, pw_eqm2, pw_ltm, pw_mlt, pw_lem, pw_mle, pw_mm, pw_dec, pw_nar0, pw_nar1, nI_add, pw_sub, pw_mul, pw_and, pw_or, pw_andn, pw_shl1, pw_shl, pw_shr, pw_dv, nI_l, lN_i, Bool.false_eq_true, reduceCtorEq, if_false, if_true, ↓reduceIte, if_pos, if_neg]
    exact hj h' e1 ho (by rw [hv, hnin])
  · rw [if_neg h0'] at hnin
    have hlt := sub_lt hsub h0'
    have hg : h'.1 164 (sdf set n) = G (sdf set n) := by rw [ho _ (by omega), hG _ hlt]
    have hat : h'.1 163 n = bI (tg K T n) := by rw [(e1 163 (by decide)).1, (he0 163 (by decide)).1]; exact g2 n (by omega)
    have hnx : (n - 1) &&& set ≤ n - 1 := Nat.and_le_left
    have hgo : ∀ h'' b', eqx [164] h h'' → (∀ x, ¬ x = set → h''.1 164 x = h.1 164 x) → h''.1 164 set = b' → nin K T G set m ((n - 1) &&& set) b' = nin K T G set (set + 1) set mI → ok (rec (nI ((n - 1) &&& set)) h'') Q := fun h'' b' q1 q2 q3 q4 => hrec _ _ _ (by omega) ⟨_, b', rfl, rfl, by omega, sub_sub, q1, q2, q3, m, by omega, q4⟩
    rcases tf (tg K T n) with h1 | h1
    · rw [if_neg (by rw [h1]; simp)] at hnin
      simp (disch := omega) only [pw_lt, pw_cb, pw_cbx, pw_cbxr, pw_lit, pw_litL, pw_oi, pw_oim, pw_oi8, pw_m, pw_ldI, pw_ldL, pw_ldR, pw_stI, pw_stL, pw_nz, pw_ltI, pw_leI, pw_eqI, pw_eqm, pw_eqm2, pw_ltm, pw_mlt, pw_lem, pw_mle, pw_mm, pw_dec, pw_nar0, pw_nar1, nI_add, pw_sub, pw_mul, pw_and, pw_or, pw_andn, pw_shl1, pw_shl, pw_shr, pw_dv, nI_l, lN_i, Bool.false_eq_true, reduceCtorEq, if_false, if_true, ↓reduceIte, if_pos, if_neg, r_152_22, r_152_23, hat, h1, bI_0']
      exact hgo h' b e1 ho hv hnin
    · by_cases h2 : G (sdf set n) = mI
      · rw [if_neg (fun q => q.2.1 h2)] at hnin
        simp (disch := omega) only [pw_lt, pw_cb, pw_cbx, pw_cbxr, pw_lit, pw_litL, pw_oi, pw_oim, pw_oi8, pw_m, pw_ldI, pw_ldL, pw_ldR, pw_stI, pw_stL, pw_nz, pw_ltI, pw_leI, pw_eqI, pw_eqm, pw_eqm2, pw_ltm, pw_mlt, pw_lem, pw_mle, pw_mm, pw_dec, pw_nar0, pw_nar1, nI_add, pw_sub, pw_mul, pw_and, pw_or, pw_andn, pw_shl1, pw_shl, pw_shr, pw_dv, nI_l, lN_i, Bool.false_eq_true, reduceCtorEq, if_false, if_true, ↓reduceIte, if_pos, if_neg, r_152_22, r_152_23, hat, hg, h1, h2, bI_0']
        exact hgo h' b e1 ho hv hnin
      · have hst : nin K T G set m ((n - 1) &&& set) (G (sdf set n) + nI 1) = nin K T G set (set + 1) set mI → ok (rec (nI ((n - 1) &&& set)) (pI h' 164 set (G (sdf set n) + nI 1))) Q := fun q => hgo _ _ (eqx_trans e1 (eqx_pI (by decide))) (fun x hx => by rw [pw_pIo (by omega)]; exact ho x hx) pw_pIs q
        by_cases h3 : b = mI
        · rw [if_pos ⟨h1, h2, Or.inl h3⟩] at hnin
          simp (disch := omega) only [pw_lt, pw_cb, pw_cbx, pw_cbxr, pw_lit, pw_litL, pw_oi, pw_oim, pw_oi8, pw_m, pw_ldI, pw_ldL, pw_ldR, pw_stI, pw_stL, pw_nz, pw_ltI, pw_leI, pw_eqI, pw_eqm, pw_eqm2, pw_ltm, pw_mlt, pw_lem, pw_mle, pw_mm, pw_dec, pw_nar0, pw_nar1, nI_add, pw_sub, pw_mul, pw_and, pw_or, pw_andn, pw_shl1, pw_shl, pw_shr, pw_dv, nI_l, lN_i, Bool.false_eq_true, reduceCtorEq, if_false, if_true, ↓reduceIte, if_pos, if_neg, r_152_22, r_152_23, hat, hg, hv, h1, h2, h3, bI_0']
          exact hst hnin
        · by_cases h4 : b ≤ G (sdf set n) + nI 1
          · rw [if_neg (fun q => q.2.2.elim h3 (fun z => z h4))] at hnin
            simp (disch := omega) only [pw_lt, pw_cb, pw_cbx, pw_cbxr, pw_lit, pw_litL, pw_oi, pw_oim, pw_oi8, pw_m, pw_ldI, pw_ldL, pw_ldR, pw_stI, pw_stL, pw_nz, pw_ltI, pw_leI, pw_eqI, pw_eqm, pw_eqm2, pw_ltm, pw_mlt, pw_lem, pw_mle, pw_mm, pw_dec, pw_nar0, pw_nar1, nI_add, pw_sub, pw_mul, pw_and, pw_or, pw_andn, pw_shl1, pw_shl, pw_shr, pw_dv, nI_l, lN_i, Bool.false_eq_true, reduceCtorEq, if_false, if_true, ↓reduceIte, if_pos, if_neg, r_152_22, r_152_23, hat, hg, hv, h1, h2, h3, h4, bI_0']
            exact hgo h' b e1 ho hv hnin
          · rw [if_pos ⟨h1, h2, Or.inr h4⟩] at hnin
            simp (disch := omega) only [pw_lt, pw_cb, pw_cbx, pw_cbxr, pw_lit, pw_litL, pw_oi, pw_oim, pw_oi8, pw_m, pw_ldI, pw_ldL, pw_ldR, pw_stI, pw_stL, pw_nz, pw_ltI, pw_leI, pw_eqI, pw_eqm, pw_eqm2, pw_ltm, pw_mlt, pw_lem, pw_mle, pw_mm, pw_dec, pw_nar0, pw_nar1, nI_add, pw_sub, pw_mul, pw_and, pw_or, pw_andn, pw_shl1, pw_shl, pw_shr, pw_dv, nI_l, lN_i, Bool.false_eq_true, reduceCtorEq, if_false, if_true, ↓reduceIte, if_pos, if_neg, r_152_22, r_152_23, hat, hg, hv, h1, h2, h3, h4, bI_0']
            exact hst hnin
set_option maxRecDepth 16384 in
theorem e_nights_lp {K T : Nat → Int32} {h : PH} (R : RG K T h) (h0 : h.1 164 0 = nI 0) : ok (lp (b_X12_nights_26 152 (nI (gv K 7))) FU (nI 1) h) (fun r h' => r = nT K T (gv K 7) (gv K 7) ∧ eqx [164] h h') := by
  obtain ⟨⟨H, r1, r2, r3, r4⟩, g1, g2⟩ := R
  obtain ⟨b0, b1, b2, b3, b4, b5, b6, b7, b8, b9, b10⟩ := rk_b H
  refine lp_ok (fun n s h1 => n ≤ gv K 7 ∧ s = nI (gv K 7 - n + 1) ∧ eqx [164] h h1 ∧ ∀ x, x ≤ gv K 7 - n → h1.1 164 x = nT K T x x) ?_ FU (gv K 7) _ _ ⟨Nat.le_refl _, by rw [Nat.sub_self], eqx_rfl _ _, fun x hx => ?_⟩ (fu_lt (by omega))
  · rintro n rec s h1 ⟨hn, rfl, e1, y1⟩ hrec
    unfold b_X12_nights_26
    by_cases hn0 : n = 0
    · subst hn0
      simp (disch := omega) only [pw_lt, pw_cb, pw_cbx, pw_cbxr, pw_lit, pw_litL, pw_oi, pw_oim, pw_oi8, pw_m, pw_ldI, pw_ldL, pw_ldR, pw_stI, pw_stL, pw_nz, pw_ltI, pw_leI, pw_eqI, pw_eqm, pw_eqm2, pw_ltm, pw_mlt, pw_lem, pw_mle, pw_mm, pw_dec, pw_nar0, pw_nar1, nI_add, pw_sub, pw_mul, pw_and, pw_or, pw_andn, pw_shl1, pw_shl, pw_shr, pw_dv, nI_l, lN_i, Bool.false_eq_true, reduceCtorEq, if_false, if_true, ↓reduceIte, if_pos, if_neg, r_152_23]
      exact ok_some ⟨y1 _ (by omega), e1⟩
    · generalize hm : gv K 7 - n = m at *
      have e9 : gv K 7 - (n - 1) = m + 1 := by omega
      have hsd := sdf_le (m + 1) (gv K 7)
      have hfin : ∀ h2, eqx [164] h h2 → (∀ x, ¬ x = m + 1 → h2.1 164 x = h1.1 164 x) → h2.1 164 (m + 1) = nT K T (m + 1) (m + 1) → ok (rec (nI (m + 1 + 1)) h2) (fun r h' => r = nT K T (gv K 7) (gv K 7) ∧ eqx [164] h h') := fun h2 q1 q2 q3 => hrec (n - 1) _ _ (by omega) ⟨by omega, by rw [e9], q1, fun x hx => by
        by_cases ex : x = m + 1
        · subst ex
          exact q3
        · rw [q2 x ex]
          exact y1 x (by omega)⟩
      by_cases h2 : sdf (m + 1) (gv K 7) = 0
      · simp (disch := omega) only [pw_lt, pw_cb, pw_cbx, pw_cbxr, pw_lit, pw_litL, pw_oi, pw_oim, pw_oi8, pw_m, pw_ldI, pw_ldL, pw_ldR, pw_stI, pw_stL, pw_nz, pw_ltI, pw_leI, pw_eqI, pw_eqm, pw_eqm2, pw_ltm, pw_mlt, pw_lem, pw_mle, pw_mm, pw_dec, pw_nar0, pw_nar1, nI_add, pw_sub, pw_mul, pw_and, pw_or, pw_andn, pw_shl1, pw_shl, pw_shr, pw_dv, nI_l, lN_i, Bool.false_eq_true, reduceCtorEq, if_false, if_true, ↓reduceIte, if_pos, if_neg, r_152_23, h2]
        refine e_nights_in (h0 := h) (G := nT K T m) (by omega) g2 (eqx_trans e1 (eqx_pI (by decide))) (fun x hx => by rw [pw_pIo (by omega), y1 x (by omega)]; exact (nT_st (by omega)).symm) pw_pIs (fun h3 q1 q2 q3 => ?_)
        refine hfin h3 (eqx_trans (eqx_trans e1 (eqx_pI (by decide))) q1) (fun x hx => by rw [q2 x hx, pw_pIo (by omega)]) ?_
        rw [q3, nT]
        exact ((if_pos rfl).trans (if_pos h2)).symm
      · simp (disch := omega) only [pw_lt, pw_cb, pw_cbx, pw_cbxr, pw_lit, pw_litL, pw_oi, pw_oim, pw_oi8, pw_m, pw_ldI, pw_ldL, pw_ldR, pw_stI, pw_stL, pw_nz, pw_ltI, pw_leI, pw_eqI, pw_eqm, pw_eqm2, pw_ltm, pw_mlt, pw_lem, pw_mle, pw_mm, pw_dec, pw_nar0, pw_nar1, nI_add, pw_sub, pw_mul, pw_and, pw_or, pw_andn, pw_shl1, pw_shl, pw_shr, pw_dv, nI_l, lN_i, Bool.false_eq_true, reduceCtorEq, if_false, if_true, ↓reduceIte, if_pos, if_neg, r_152_23, h2]
        refine hfin _ (eqx_trans e1 (eqx_pI (by decide))) (fun x hx => by rw [pw_pIo (by omega)]) ?_
        rw [pw_pIs, nT]
        exact ((if_pos rfl).trans (if_neg h2)).symm
  · have : x = 0 := by omega
    subst this
    exact h0

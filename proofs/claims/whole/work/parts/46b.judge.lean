/-! ===== judge: the reference ===== -/
def jK (K T : Nat → Int32) (f : Nat → Int64) : Nat → Nat → Int32
  | 0 => K
  | k + 1 => goK (jK K T f k) (gG (jK K T f k) T (pn (f k)))
set_option maxRecDepth 16384 in
theorem jK_ok {K T : Nat → Int32} {f : Nat → Int64} (G : GK K) : ∀ k, GK (jK K T f k) ∧ sameK K (jK K T f k) ∧ gv (jK K T f k) 7 = joO K T f k ∧ ∀ j, (j < 7 ∨ 24 ≤ j) → jK K T f k j = K j
  | 0 => ⟨G, sameK_rfl K, rfl, fun _ _ => rfl⟩
  | k + 1 => by
    obtain ⟨g, s, o, lo⟩ := jK_ok (T := T) (f := f) G k
    obtain ⟨g2, s2⟩ := goK_GK g (gG (jK K T f k) T (pn (f k)))
    have hgr : gG (jK K T f k) T (pn (f k)) = grO K T (joO K T f k) (pn (f k)) := by
      unfold grO gG
      rw [← gr_hw, o, hw_same s, wx_same s]
    refine ⟨g2, sameK_trans s s2, ?_, fun j hj => ?_⟩
    · have := (goN_RK g.1 (gG (jK K T f k) T (pn (f k))) (gv (jK K T f k) 5)).2.2
      rw [joO, ← hgr]
      rw [o] at this
      exact this
    · rw [jK]
      exact (goN_hi (by omega)).trans (lo j hj)
set_option maxRecDepth 16384 in
theorem jK_wy {K T : Nat → Int32} {f : Nat → Int64} (G : GK K) (k p : Nat) : wy (jK K T f k) T p = wyo K T (joO K T f k) p := by
  obtain ⟨g, s, o, lo⟩ := jK_ok (T := T) (f := f) G k
  rw [← wyo_wy g.1, o, wyo_same G.1 s]
set_option maxRecDepth 16384 in
theorem jK_wG {K T : Nat → Int32} {f : Nat → Int64} (G : GK K) (k p : Nat) : wG (jK K T f k) T p = wt K (grO K T (joO K T f k) p) := by
  obtain ⟨g, s, o, lo⟩ := jK_ok (T := T) (f := f) G k
  have hgr : gG (jK K T f k) T p = grO K T (joO K T f k) p := by
    unfold grO gG
    rw [← gr_hw, o, hw_same s, wx_same s]
  unfold wG
  rw [hgr, wt_same G.1 s]
set_option maxRecDepth 16384 in
theorem jre_u {K T : Nat → Int32} {f : Nat → Int64} {k r p : Nat} (hb : ga K < 4096) (hp : p ≤ ga K) (hf : f k = lN p) (h : jre K T f k r) : r = wyo K T (joO K T f k) p := by
  rcases h with ⟨p2, hp2, hf2, hr⟩ | ⟨hn, -⟩
  · rw [hf] at hf2
    have := congrArg pn hf2
    rw [pn_lN (by omega), pn_lN (by omega)] at this
    rw [this]
    exact hr
  · exact absurd ⟨p, hp, hf⟩ hn
set_option maxRecDepth 16384 in
theorem e_judge_lp {K T : Nat → Int32} {h : PH} {t m k r : Nat} {f : Nat → Int64} {Q : Int32 → PH → Prop} {j : Int32 → Int32 → Int32 → PH → Option (Int32 × PH)} (G : GK K) (R : RX K T h) (ht : t < 4) (hm : m ≤ 30) (hmany : h.1 175 t = nI m) (hrow : ∀ k, k < 30 → h.2 176 (30 * t + k) = f k) (hend : jend K T f m k r) (hj : ∀ h', eqx [153] h h' → RX (jK K T f k) T h' → ok (j (if r = 0 then mI else nI k) (nI r) (nI (joS K T f k)) h') Q) : ok (lp (b_X12_judge_82 152 (nI t) j) FU (mI, nI 0, nI 0, nI 0) h) Q := by
  have hb := rk_b G.1
  obtain ⟨hg, he⟩ := hend
  have hkm : k ≤ m := by omega
  refine lp_ok (fun n s h1 => eqx [153] h h1 ∧ ((∃ i, i ≤ k ∧ n = k - i + 1 ∧ s = (mI, nI 0, nI (joS K T f i), nI i) ∧ RX (jK K T f i) T h1) ∨ (n = 0 ∧ r ≠ 0 ∧ k < m ∧ s = (nI k, nI r, nI (joS K T f k), nI (k + 1)) ∧ RX (jK K T f k) T h1))) ?_ FU (k + 1) _ h ⟨eqx_rfl _ _, Or.inl ⟨0, Nat.zero_le _, by omega, rfl, R⟩⟩ (fu_lt (by omega))
  rintro n rec s h1 ⟨e1, hs⟩ hrec
  have v1 : h1.1 175 t = nI m := by rw [(e1 175 (by decide)).1]; exact hmany
  have v2 : ∀ i, i < 30 → h1.2 176 (30 * t + i) = f i := fun i hi => by rw [(e1 176 (by decide)).2]; exact hrow i hi
  unfold b_X12_judge_82
  rcases hs with ⟨i, hi, hn, rfl, R1⟩ | ⟨rfl, hr, hkm2, rfl, R1⟩
  · have hsl := joS_le (T := T) (f := f) G.1 i
    obtain ⟨g, s, o, lo⟩ := jK_ok (T := T) (f := f) G i
    have hga : ga (jK K T f i) = ga K := ga_same s
    simp (disch := omega) only [pw_lit, r_152_37, pw_ldI, v1, pw_leI]
    by_cases him : i = m
    · have hik : i = k := by omega
      have hr0 : r = 0 := by omega
      rw [hr0, if_pos rfl] at hj
      rw [if_pos (by omega)]
      rw [← hik] at hj
      exact hj h1 e1 R1
    · rw [if_neg (by omega)]
      have v3 := v2 i (by omega)
      simp (disch := omega) only [pw_m, if_true, r_152_38, pw_mul, nI_add, pw_ldL, v3]
      by_cases hik : i = k
      · subst hik
        have hr : r ≠ 0 := by omega
        have hje : jre K T f i r := by
          rcases he with q | q
          · omega
          · exact q.2.2.2
        have hr3 : r ≤ 3 := by omega
        have hres : f_X12_whyNot 152 (f i) h1 = some (nI r, h1) := by
          by_cases hq : ∃ p, p ≤ ga K ∧ f i = lN p
          · obtain ⟨p, hp, hf⟩ := hq
            rw [hf, e_wy R1 (by rw [hga]; exact hp), jK_wy G, ← jre_u hb.2.2.2.2.2.2.2.2.2.1 hp hf hje]
          · rw [e_wy1 R1 (by rw [hga]; exact hq)]
            rcases hje with ⟨p, hp, hf, -⟩ | ⟨-, h1'⟩
            · exact absurd ⟨p, hp, hf⟩ hq
            · rw [h1']
        rw [hres]
        simp only [pw_cb]
        refine ok_lt ?_
        simp (disch := omega) only [pw_eqI, hr, if_false]
        simp (disch := omega) only [pw_lt, pw_cb, pw_cbx, pw_cbxr, pw_lit, pw_litL, pw_oi, pw_oim, pw_oi8, pw_m, pw_ldI, pw_ldL, pw_ldR, pw_stI, pw_stL, pw_nz, pw_ltI, pw_leI, pw_eqI, pw_eqm, pw_eqm2, pw_ltm, pw_mlt, pw_lem, pw_mle, pw_mm, pw_dec, pw_nar0, pw_nar1, nI_add, pw_sub, pw_mul, pw_and, pw_or, pw_andn, pw_shl1, pw_shl, pw_shr, pw_dv, nI_l, lN_i, Bool.false_eq_true, reduceCtorEq, if_false, if_true, ↓reduceIte, if_pos, if_neg]
        exact hrec 0 _ h1 (by omega) ⟨e1, Or.inr ⟨rfl, hr, by omega, rfl, R1⟩⟩
      · obtain ⟨p, hp, hf, hz⟩ := hg i (by omega)
        have hpn : pn (f i) = p := by rw [hf, pn_lN (by omega)]
        rw [hf] at v3 ⊢
        rw [e_wy R1 (by rw [hga]; exact hp), jK_wy G, hz]
        simp only [pw_cb]
        refine ok_lt ?_
        simp (disch := omega) only [pw_lt, if_true, pw_ldL, v3, lN_i]
        refine ok_cb (e_goesR ⟨g, R1⟩ (by rw [hga]; exact hp)) ?_
        rintro r3 h3 ⟨rfl, e3, S3⟩
        rw [jK_wG G]
        have hwl3 := wt_le G.1 (grO K T (joO K T f i) p)
        have hr2 := hrec (k - (i + 1) + 1) (mI, nI 0, nI (joS K T f (i + 1)), nI (i + 1)) h3 (by omega) ⟨eqx_trans e1 e3, Or.inl ⟨i + 1, by omega, rfl, rfl, by rw [jK, hpn]; exact S3.2⟩⟩
        rw [joS, hpn] at hr2
        simp (disch := omega) only [pw_lt, pw_cb, pw_cbx, pw_cbxr, pw_lit, pw_litL, pw_oi, pw_oim, pw_oi8, pw_m, pw_ldI, pw_ldL, pw_ldR, pw_stI, pw_stL, pw_nz, pw_ltI, pw_leI, pw_eqI, pw_eqm, pw_eqm2, pw_ltm, pw_mlt, pw_lem, pw_mle, pw_mm, pw_dec, pw_nar0, pw_nar1, nI_add, pw_sub, pw_mul, pw_and, pw_or, pw_andn, pw_shl1, pw_shl, pw_shr, pw_dv, nI_l, lN_i, Bool.false_eq_true, reduceCtorEq, if_false, if_true, ↓reduceIte, if_pos, if_neg]
        exact hr2
  · have hsl := joS_le (T := T) (f := f) G.1 k
    rw [if_neg hr] at hj
    simp (disch := omega) only [pw_lit, r_152_37, pw_ldI, v1, pw_leI]
    by_cases hkm3 : m ≤ k + 1
    · rw [if_pos hkm3]
      exact hj h1 e1 R1
    · rw [if_neg hkm3]
      simp (disch := omega) only [pw_m, pw_eqm, if_false]
      exact hj h1 e1 R1
set_option maxRecDepth 16384 in
theorem e_keep44 {h : PH} {K : Nat → Int32} {Q : Int32 → PH → Prop} {j : PH → Option (Int32 × PH)} (k : h.1 153 = K) (hj : ∀ h', eqx [156] h h' → (∀ i, i < 17 → h'.1 156 i = K (7 + i)) → ok (j h') Q) : ok (lp (b_X12_judge_44 152 j) FU (nI 0) h) Q := by
  refine lp_ok (fun n s h1 => n ≤ 17 ∧ s = nI (17 - n) ∧ eqx [156] h h1 ∧ ∀ i, i < 17 - n → h1.1 156 i = K (7 + i)) ?_ FU 17 _ h ⟨by omega, rfl, eqx_rfl _ _, fun i hi => absurd hi (by omega)⟩ (fu_lt (by omega))
  rintro n rec s h1 ⟨hn, rfl, e1, y1⟩ hrec
  have q153 : h1.1 153 = K := by rw [(e1 153 (by decide)).1, k]
  unfold b_X12_judge_44
  by_cases h0 : n = 0
  · subst h0
    simp (disch := omega) only [pw_lt, pw_cb, pw_cbx, pw_cbxr, pw_lit, pw_litL, pw_oi, pw_oim, pw_oi8, pw_m, pw_ldI, pw_ldL, pw_ldR, pw_stI, pw_stL, pw_nz, pw_ltI, pw_leI, pw_eqI, pw_eqm, pw_eqm2, pw_ltm, pw_mlt, pw_lem, pw_mle, pw_mm, pw_dec, pw_nar0, pw_nar1, nI_add, pw_sub, pw_mul, pw_and, pw_or, pw_andn, pw_shl1, pw_shl, pw_shr, pw_dv, nI_l, lN_i, Bool.false_eq_true, reduceCtorEq, if_false, if_true, ↓reduceIte, if_pos, if_neg]
    exact hj h1 e1 y1
  · generalize hi : 17 - n = i at *
    have e9 : 17 - (n - 1) = i + 1 := by omega
    simp (disch := omega) only [pw_lt, pw_cb, pw_cbx, pw_cbxr, pw_lit, pw_litL, pw_oi, pw_oim, pw_oi8, pw_m, pw_ldI, pw_ldL, pw_ldR, pw_stI, pw_stL, pw_nz, pw_ltI, pw_leI, pw_eqI, pw_eqm, pw_eqm2, pw_ltm, pw_mlt, pw_lem, pw_mle, pw_mm, pw_dec, pw_nar0, pw_nar1, nI_add, pw_sub, pw_mul, pw_and, pw_or, pw_andn, pw_shl1, pw_shl, pw_shr, pw_dv, nI_l, lN_i, Bool.false_eq_true, reduceCtorEq, if_false, if_true, ↓reduceIte, if_pos, if_neg, r_152_0, r_152_3, q153]
    refine hrec (n - 1) _ _ (by omega) ⟨by omega, by rw [e9], eqx_trans e1 (eqx_pI (by decide)), fun x hx => ?_⟩
    rw [e9] at hx
    by_cases ex : x = i
    · subst ex
      rw [pw_pIs]
    · rw [pw_pIo (by omega)]
      exact y1 x (by omega)
set_option maxRecDepth 16384 in
theorem e_back170 {h : PH} {K K' : Nat → Int32} {Q : Int32 → PH → Prop} {j : PH → Option (Int32 × PH)} (k : h.1 153 = K') (hk : ∀ i, i < 17 → h.1 156 i = K (7 + i)) (lo : ∀ i, (i < 7 ∨ 24 ≤ i) → K' i = K i) (hj : ∀ h', eqx [153] h h' → h'.1 153 = K → ok (j h') Q) : ok (lp (b_X12_judge_170 152 j) FU (nI 0) h) Q := by
  refine lp_ok (fun n s h1 => n ≤ 17 ∧ s = nI (17 - n) ∧ eqx [153] h h1 ∧ ∀ i, h1.1 153 i = if i < 7 + (17 - n) then K i else K' i) ?_ FU 17 _ h ⟨by omega, rfl, eqx_rfl _ _, fun i => ?_⟩ (fu_lt (by omega))
  · rintro n rec s h1 ⟨hn, rfl, e1, y1⟩ hrec
    have q156 : ∀ i, i < 17 → h1.1 156 i = K (7 + i) := by rw [(e1 156 (by decide)).1]; exact hk
    unfold b_X12_judge_170
    by_cases h0 : n = 0
    · subst h0
      simp (disch := omega) only [pw_lt, pw_cb, pw_cbx, pw_cbxr, pw_lit, pw_litL, pw_oi, pw_oim, pw_oi8, pw_m, pw_ldI, pw_ldL, pw_ldR, pw_stI, pw_stL, pw_nz, pw_ltI, pw_leI, pw_eqI, pw_eqm, pw_eqm2, pw_ltm, pw_mlt, pw_lem, pw_mle, pw_mm, pw_dec, pw_nar0, pw_nar1, nI_add, pw_sub, pw_mul, pw_and, pw_or, pw_andn, pw_shl1, pw_shl, pw_shr, pw_dv, nI_l, lN_i, Bool.false_eq_true, reduceCtorEq, if_false, if_true, ↓reduceIte, if_pos, if_neg]
      refine hj h1 e1 ?_
      funext i
      rw [y1 i]
      by_cases hi : i < 7 + (17 - 0)
      · rw [if_pos hi]
      · rw [if_neg hi]
        exact lo i (by omega)
    · generalize hi : 17 - n = i at *
      have e9 : 17 - (n - 1) = i + 1 := by omega
      have v := q156 i (by omega)
      simp (disch := omega) only [pw_lt, pw_cb, pw_cbx, pw_cbxr, pw_lit, pw_litL, pw_oi, pw_oim, pw_oi8, pw_m, pw_ldI, pw_ldL, pw_ldR, pw_stI, pw_stL, pw_nz, pw_ltI, pw_leI, pw_eqI, pw_eqm, pw_eqm2, pw_ltm, pw_mlt, pw_lem, pw_mle, pw_mm, pw_dec, pw_nar0, pw_nar1, nI_add, pw_sub, pw_mul, pw_and, pw_or, pw_andn, pw_shl1, pw_shl, pw_shr, pw_dv, nI_l, lN_i, Bool.false_eq_true, reduceCtorEq, if_false, if_true, ↓reduceIte, if_pos, if_neg, r_152_0, r_152_3, v]
      refine hrec (n - 1) _ _ (by omega) ⟨by omega, by rw [e9], eqx_trans e1 (eqx_pI (by decide)), fun x => ?_⟩
      rw [e9]
      by_cases ex : x = 7 + i
      · subst ex
        rw [pw_pIs, if_pos (by omega)]
      · rw [pw_pIo (by omega), y1 x]
        by_cases hx : x < 7 + i
        · rw [if_pos hx, if_pos (by omega)]
        · rw [if_neg hx, if_neg (by omega)]
  · rw [k]
    by_cases hi : i < 7 + (17 - 17)
    · rw [if_pos hi]
      exact lo i (by omega)
    · rw [if_neg hi]

/-! ===== the reference lays its plans ===== -/
set_option maxRecDepth 16384 in
theorem or2_tb (t i j : Nat) : (t ||| 2 ^ i).testBit j = (t.testBit j || decide (i = j)) := by
  rw [Nat.testBit_or, Nat.testBit_two_pow]
set_option maxRecDepth 16384 in
theorem or2_lt {t i : Nat} (h : t.testBit i = false) : t < t ||| 2 ^ i := by
  have h1 : t ≤ t ||| 2 ^ i := Nat.left_le_or
  rcases Nat.lt_or_ge t (t ||| 2 ^ i) with q | q
  · exact q
  · have e : t ||| 2 ^ i = t := Nat.le_antisymm q h1
    have e2 := or2_tb t i i
    rw [e, h] at e2
    simp at e2
set_option maxRecDepth 16384 in
theorem lt_1024 {t : Nat} (h : ∀ i, 10 ≤ i → t.testBit i = false) : t < 1024 := Nat.lt_pow_two_of_testBit (n := 10) t h
set_option maxRecDepth 16384 in
theorem tb_1024 {t i : Nat} (h : t < 1024) (hi : 10 ≤ i) : t.testBit i = false := Nat.testBit_lt_two_pow (Nat.lt_of_lt_of_le (show t < 2 ^ 10 from h) (Nat.pow_le_pow_right (by decide) hi))
set_option maxRecDepth 16384 in
theorem or2_1024 {t i : Nat} (h : t < 1024) (hi : i < 10) : t ||| 2 ^ i < 1024 := lt_1024 (fun j hj => by
  rw [or2_tb, tb_1024 h hj, decide_eq_false (by omega)]
  rfl)
set_option maxRecDepth 16384 in
theorem sdf_iff {a b : Nat} : sdf a b = 0 ↔ ∀ i, a.testBit i = true → b.testBit i = true := by
  rw [sdf_0]
  constructor
  · intro h i hi
    have e := congrArg (fun z => Nat.testBit z i) h
    simp only [Nat.testBit_and, hi, Bool.true_and] at e
    exact e
  · intro h
    apply Nat.eq_of_testBit_eq
    intro i
    rw [Nat.testBit_and]
    cases ha : a.testBit i
    · rfl
    · rw [h i ha]; rfl
set_option maxRecDepth 16384 in
theorem sdf_trans {a b c : Nat} (h1 : sdf a b = 0) (h2 : sdf b c = 0) : sdf a c = 0 := sdf_iff.mpr (fun i hi => sdf_iff.mp h2 i (sdf_iff.mp h1 i hi))
set_option maxRecDepth 16384 in
theorem sdf_or2 {t i g : Nat} : sdf (t ||| 2 ^ i) g = 0 ↔ sdf t g = 0 ∧ g.testBit i = true := by
  constructor
  · intro h
    refine ⟨sdf_iff.mpr (fun j hj => sdf_iff.mp h j (by rw [or2_tb, hj]; rfl)), sdf_iff.mp h i (by rw [or2_tb]; simp)⟩
  · rintro ⟨h1, h2⟩
    refine sdf_iff.mpr (fun j hj => ?_)
    rw [or2_tb, Bool.or_eq_true, decide_eq_true_eq] at hj
    rcases hj with q | rfl
    · exact sdf_iff.mp h1 j q
    · exact h2
set_option maxRecDepth 16384 in
theorem tg_mono {K T : Nat → Int32} (H : RK K) {t u : Nat} (h : sdf t u = 0) (hu : tg K T u = true) : tg K T t = true := by
  obtain ⟨p, h1, h2, h3⟩ := (tg_iff H).mp hu
  exact (tg_iff H).mpr ⟨p, h1, h2, sdf_trans h h3⟩
/- exactly what a plan grants -/
def A0 (K T : Nat → Int32) (t : Nat) : Bool := anyTo (ga K + 1) (fun p => abl K T p && decide (gG K T p = t))
set_option maxRecDepth 16384 in
theorem A0_iff {K T : Nat → Int32} {t : Nat} : A0 K T t = true ↔ ∃ p, p ≤ ga K ∧ abl K T p = true ∧ gG K T p = t := by
  unfold A0
  rw [anyTo_iff]
  constructor
  · rintro ⟨p, h1, h2⟩
    simp only [Bool.and_eq_true, decide_eq_true_eq] at h2
    exact ⟨p, by omega, h2.1, h2.2⟩
  · rintro ⟨p, h1, h2, h3⟩
    exact ⟨p, by omega, by rw [h2, decide_eq_true h3]; rfl⟩
def Vn (K T : Nat → Int32) (n t : Nat) : Bool := A0 K T t || anyTo 10 (fun i => !t.testBit i && decide (n < t ||| 2 ^ i) && tg K T (t ||| 2 ^ i))
set_option maxRecDepth 16384 in
theorem Vn_iff {K T : Nat → Int32} {n t : Nat} : Vn K T n t = true ↔ A0 K T t = true ∨ ∃ i, i < 10 ∧ t.testBit i = false ∧ n < t ||| 2 ^ i ∧ tg K T (t ||| 2 ^ i) = true := by
  unfold Vn
  rw [Bool.or_eq_true, anyTo_iff]
  constructor
  · rintro (h | ⟨i, h1, h2⟩)
    · exact Or.inl h
    · simp only [Bool.and_eq_true, decide_eq_true_eq, Bool.not_eq_true'] at h2
      exact Or.inr ⟨i, h1, h2.1.1, h2.1.2, h2.2⟩
  · rintro (h | ⟨i, h1, h2, h3, h4⟩)
    · exact Or.inl h
    · exact Or.inr ⟨i, h1, by rw [h2, decide_eq_true h3, h4]; rfl⟩
set_option maxRecDepth 16384 in
theorem gG_lt {K T : Nat → Int32} (H : RK K) (p : Nat) : gG K T p < 1024 := gr_lt H _
set_option maxRecDepth 16384 in
theorem Vn_tg {K T : Nat → Int32} (H : RK K) {n t : Nat} (hn : n ≤ t) : Vn K T n t = tg K T t := by
  rw [Bool.eq_iff_iff, Vn_iff]
  constructor
  · rintro (h | ⟨i, h1, h2, h3, h4⟩)
    · obtain ⟨p, h1, h2, h3⟩ := A0_iff.mp h
      exact (tg_iff H).mpr ⟨p, h1, h2, sdf_iff.mpr (fun i hi => by rw [h3]; exact hi)⟩
    · exact tg_mono H (sdf_iff.mpr (fun j hj => by rw [or2_tb, hj]; rfl)) h4
  · intro h
    obtain ⟨p, h1, h2, h3⟩ := (tg_iff H).mp h
    by_cases e : gG K T p = t
    · exact Or.inl (A0_iff.mpr ⟨p, h1, h2, e⟩)
    · have : ∃ i, (gG K T p).testBit i = true ∧ t.testBit i = false := by
        apply Classical.byContradiction
        intro hc
        apply e
        apply Nat.eq_of_testBit_eq
        intro i
        have q1 := sdf_iff.mp h3 i
        cases z1 : (gG K T p).testBit i <;> cases z2 : t.testBit i
        · rfl
        · rw [q1 z2] at z1; cases z1
        · exact absurd ⟨i, z1, z2⟩ hc
        · rfl
      obtain ⟨i, z1, z2⟩ := this
      have hi : i < 10 := by
        rcases Nat.lt_or_ge i 10 with q | q
        · exact q
        · rw [tb_1024 (gG_lt H p) q] at z1
          cases z1
      have := or2_lt z2
      exact Or.inr ⟨i, hi, z2, by omega, (tg_iff H).mpr ⟨p, h1, h2, sdf_or2.mpr ⟨h3, z1⟩⟩⟩
set_option maxRecDepth 16384 in
theorem Vn_top {K T : Nat → Int32} {t : Nat} (ht : t < 1024) : Vn K T 1023 t = A0 K T t := by
  rw [Bool.eq_iff_iff, Vn_iff]
  constructor
  · rintro (h | ⟨i, h1, h2, h3, h4⟩)
    · exact h
    · have := or2_1024 ht h1
      omega
  · exact Or.inl
/- what one set adds -/
def Vj (K T : Nat → Int32) (n j t : Nat) : Bool := Vn K T n t || (tg K T n && anyTo j (fun i => decide (t = sdf n (2 ^ i))))
set_option maxRecDepth 16384 in
theorem sdf2_tb (n i j : Nat) : (sdf n (2 ^ i)).testBit j = (n.testBit j && !decide (i = j)) := by
  rw [sdf_tb, Nat.testBit_two_pow]
set_option maxRecDepth 16384 in
theorem sdf2_same {n i : Nat} (h : n.testBit i = false) : sdf n (2 ^ i) = n := by
  apply Nat.eq_of_testBit_eq
  intro j
  rw [sdf2_tb]
  by_cases e : i = j
  · subst e
    rw [h]; rfl
  · simp [e]
set_option maxRecDepth 16384 in
theorem or2_eq {t n i : Nat} (h : t.testBit i = false) : t ||| 2 ^ i = n ↔ t = sdf n (2 ^ i) ∧ n.testBit i = true := by
  constructor
  · rintro rfl
    refine ⟨?_, by rw [or2_tb]; simp⟩
    apply Nat.eq_of_testBit_eq
    intro j
    rw [sdf2_tb, or2_tb]
    by_cases e : i = j
    · subst e
      rw [h]; simp
    · simp [e]
  · rintro ⟨h1, h2⟩
    apply Nat.eq_of_testBit_eq
    intro j
    rw [or2_tb, h1, sdf2_tb]
    by_cases e : i = j
    · subst e
      rw [h2]; simp
    · simp [e]
set_option maxRecDepth 16384 in
theorem Vj_all {K T : Nat → Int32} (H : RK K) {n t : Nat} (hn : 1 ≤ n) (hn2 : n < 1024) : Vj K T n 10 t = Vn K T (n - 1) t := by
  rw [Bool.eq_iff_iff, Vn_iff]
  unfold Vj
  rw [Bool.or_eq_true, Vn_iff, Bool.and_eq_true, anyTo_iff]
  constructor
  · rintro ((h | ⟨i, h1, h2, h3, h4⟩) | ⟨h1, i, h2, h3⟩)
    · exact Or.inl h
    · exact Or.inr ⟨i, h1, h2, by omega, h4⟩
    · have h3 : t = sdf n (2 ^ i) := of_decide_eq_true h3
      cases hb : n.testBit i
      · rw [sdf2_same hb] at h3
        subst h3
        have := Vn_tg (T := T) H (n := t - 1) (t := t) (by omega)
        rw [h1] at this
        exact Vn_iff.mp this
      · have ht : t.testBit i = false := by rw [h3, sdf2_tb]; simp
        have e := (or2_eq ht).mpr ⟨h3, hb⟩
        exact Or.inr ⟨i, h2, ht, by omega, by rw [e]; exact h1⟩
  · rintro (h | ⟨i, h1, h2, h3, h4⟩)
    · exact Or.inl (Or.inl h)
    · by_cases e : t ||| 2 ^ i = n
      · obtain ⟨e1, e2⟩ := (or2_eq h2).mp e
        exact Or.inr ⟨by rw [← e]; exact h4, i, h1, decide_eq_true e1⟩
      · exact Or.inl (Or.inr ⟨i, h1, h2, by omega, h4⟩)
set_option maxRecDepth 16384 in
theorem e_laysPlans {h : PH} (H : RK (h.1 153)) (hT : TT (h.1 153) (h.1 159)) (hW : WW (h.1 153) (h.1 160)) : ok (f_X12_laysPlans 152 h) (fun _ h' => eqx [162, 163] h h' ∧ (∀ p, p ≤ ga (h.1 153) → h'.1 162 p = GB (h.1 153) (h.1 159) p) ∧ ∀ s, s < 1024 → h'.1 163 s = bI (tg (h.1 153) (h.1 159) s)) := by
  obtain ⟨b0, b1, b2, b3, b4, b5, b6, b7, b8, b9, b10⟩ := rk_b H
  generalize hK : h.1 153 = K at *
  generalize hTT : h.1 159 = T at *
  unfold f_X12_laysPlans
  refine ok_lt (ok_join (fun h1 => eqx [162, 163] h h1 ∧ ∀ s, s < 1024 → h1.1 163 s = nI 0) ?_ (fun j22 hj22 => ?_))
  · rintro h1 ⟨e1, z1⟩
    refine ok_lt (ok_join (fun h2 => eqx [162, 163] h h2 ∧ (∀ p, p ≤ ga K → h2.1 162 p = GB K T p) ∧ ∀ s, s < 1024 → h2.1 163 s = bI (A0 K T s)) ?_ (fun j89 hj89 => ?_))
    · rintro h2 ⟨e2, z2, z3⟩
      refine ok_lt (lp_ok (fun n s h3 => s = nI n ∧ n < 1024 ∧ eqx [162, 163] h h3 ∧ (∀ p, p ≤ ga K → h3.1 162 p = GB K T p) ∧ ∀ s, s < 1024 → h3.1 163 s = bI (Vn K T n s)) ?_ FU 1023 _ h2 ⟨by rw [pw_lit], by omega, e2, z2, fun s hs => by rw [z3 s hs, Vn_top hs]⟩ (fu_lt (by omega)))
      rintro n rec s h3 ⟨rfl, hn, e3, y1, y2⟩ hrec
      unfold b_X12_laysPlans_93
      by_cases h0 : n = 0
      · subst h0
        simp (disch := omega) only [pw_lt, pw_cb, pw_cbx, pw_cbxr, pw_lit, pw_litL, pw_oi, pw_oim, pw_oi8, pw_m, pw_ldI, pw_ldL, pw_ldR, pw_stI, pw_stL, pw_nz, pw_ltI, pw_leI, pw_eqI, pw_eqm, pw_eqm2, pw_ltm, pw_mlt, pw_lem, pw_mle, pw_mm, pw_dec, pw_nar0, pw_nar1, nI_add, pw_sub, pw_mul, pw_and, pw_or, pw_andn, pw_shl1, pw_shl, pw_shr, pw_dv, nI_l, lN_i, Bool.false_eq_true, reduceCtorEq, if_false, if_true, ↓reduceIte, if_pos, if_neg, Nat.le_refl]
        exact ok_some ⟨e3, y1, fun s hs => by rw [y2 s hs, Vn_tg H (Nat.zero_le _)]⟩
      · simp (disch := omega) only [pw_lt, pw_cb, pw_cbx, pw_cbxr, pw_lit, pw_litL, pw_oi, pw_oim, pw_oi8, pw_m, pw_ldI, pw_ldL, pw_ldR, pw_stI, pw_stL, pw_nz, pw_ltI, pw_leI, pw_eqI, pw_eqm, pw_eqm2, pw_ltm, pw_mlt, pw_lem, pw_mle, pw_mm, pw_dec, pw_nar0, pw_nar1, nI_add, pw_sub, pw_mul, pw_and, pw_or, pw_andn, pw_shl1, pw_shl, pw_shr, pw_dv, nI_l, lN_i, Bool.false_eq_true, reduceCtorEq, if_false, if_true, ↓reduceIte]
        rw [if_neg (by omega)]
        have hj : ∀ h4, (eqx [162, 163] h h4 ∧ (∀ p, p ≤ ga K → h4.1 162 p = GB K T p) ∧ ∀ s, s < 1024 → h4.1 163 s = bI (Vj K T n 10 s)) → ok (rec (nI (n - 1)) h4) (fun _ h' => eqx [162, 163] h h' ∧ (∀ p, p ≤ ga K → h'.1 162 p = GB K T p) ∧ ∀ s, s < 1024 → h'.1 163 s = bI (tg K T s)) := fun h4 q => hrec (n - 1) _ h4 (by omega) ⟨rfl, by omega, q.1, q.2.1, fun s hs => by rw [q.2.2 s hs, Vj_all H (by omega) (by omega)]⟩
        refine lp_ok (fun m s h4 => m ≤ 10 ∧ s = nI (10 - m) ∧ eqx [162, 163] h h4 ∧ (∀ p, p ≤ ga K → h4.1 162 p = GB K T p) ∧ ∀ s, s < 1024 → h4.1 163 s = bI (Vj K T n (10 - m) s)) ?_ FU 10 _ h3 ⟨by omega, rfl, e3, y1, fun s hs => by rw [y2 s hs]; simp [Vj, anyTo]⟩ (fu_lt (by omega))
        rintro m rec2 s h4 ⟨hm, rfl, e4, x1, x2⟩ hrec2
        unfold b_X12_laysPlans_99
        have v1 := x2 n (by omega)
        have v2 : Vj K T n (10 - m) n = tg K T n := by
          unfold Vj
          rw [Vn_tg H (Nat.le_refl _)]
          cases tg K T n <;> rfl
        rw [v2] at v1
        by_cases hm0 : m = 0
        · subst hm0
          simp (disch := omega) only [pw_lt, pw_cb, pw_cbx, pw_cbxr, pw_lit, pw_litL, pw_oi, pw_oim, pw_oi8, pw_m, pw_ldI, pw_ldL, pw_ldR, pw_stI, pw_stL, pw_nz, pw_ltI, pw_leI, pw_eqI, pw_eqm, pw_eqm2, pw_ltm, pw_mlt, pw_lem, pw_mle, pw_mm, pw_dec, pw_nar0, pw_nar1, nI_add, pw_sub, pw_mul, pw_and, pw_or, pw_andn, pw_shl1, pw_shl, pw_shr, pw_dv, nI_l, lN_i, Bool.false_eq_true, reduceCtorEq, if_false, if_true, ↓reduceIte, if_pos, if_neg]
          exact hj h4 ⟨e4, x1, x2⟩
        · rcases tf (tg K T n) with ht | ht
          · rw [ht] at v1
            simp (disch := omega) only [pw_lt, pw_cb, pw_cbx, pw_cbxr, pw_lit, pw_litL, pw_oi, pw_oim, pw_oi8, pw_m, pw_ldI, pw_ldL, pw_ldR, pw_stI, pw_stL, pw_nz, pw_ltI, pw_leI, pw_eqI, pw_eqm, pw_eqm2, pw_ltm, pw_mlt, pw_lem, pw_mle, pw_mm, pw_dec, pw_nar0, pw_nar1, nI_add, pw_sub, pw_mul, pw_and, pw_or, pw_andn, pw_shl1, pw_shl, pw_shr, pw_dv, nI_l, lN_i, Bool.false_eq_true, reduceCtorEq, if_false, if_true, ↓reduceIte, if_pos, if_neg, r_152_22, v1, bI_0']
            refine hj h4 ⟨e4, x1, fun s hs => ?_⟩
            rw [x2 s hs]
            unfold Vj
            rw [ht]
            rfl
          · rw [ht] at v1
            have q1 := sdf_le n (2 ^ (10 - m))
            simp (disch := omega) only [pw_lt, pw_cb, pw_cbx, pw_cbxr, pw_lit, pw_litL, pw_oi, pw_oim, pw_oi8, pw_m, pw_ldI, pw_ldL, pw_ldR, pw_stI, pw_stL, pw_nz, pw_ltI, pw_leI, pw_eqI, pw_eqm, pw_eqm2, pw_ltm, pw_mlt, pw_lem, pw_mle, pw_mm, pw_dec, pw_nar0, pw_nar1, nI_add, pw_sub, pw_mul, pw_and, pw_or, pw_andn, pw_shl1, pw_shr, pw_dv, nI_l, lN_i, Bool.false_eq_true, reduceCtorEq, if_false, if_true, ↓reduceIte, if_pos, if_neg, r_152_22, v1, bI_0']
            refine hrec2 (m - 1) _ _ (by omega) ⟨by omega, by rw [show 10 - (m - 1) = 10 - m + 1 by omega], eqx_trans e4 (eqx_pI (by decide)), fun p hp => by rw [pw_pIo (by omega)]; exact x1 p hp, fun s hs => ?_⟩
            rw [show 10 - (m - 1) = 10 - m + 1 by omega]
            by_cases es : s = sdf n (2 ^ (10 - m))
            · subst es
              rw [pw_pIs]
              unfold Vj anyTo
              rw [ht]
              simp
              rfl
            · rw [pw_pIo (by omega), x2 s hs]
              unfold Vj
              rw [anyTo, decide_eq_false es, Bool.or_false]
    · refine lp_ok (fun n s h2 => n ≤ ga K + 1 ∧ s = nI (ga K + 1 - n) ∧ eqx [162, 163] h h2 ∧ (∀ p, p < ga K + 1 - n → h2.1 162 p = GB K T p) ∧ ∀ s, s < 1024 → h2.1 163 s = bI (anyTo (ga K + 1 - n) (fun p => abl K T p && decide (gG K T p = s)))) ?_ FU (ga K + 1) _ h1 ⟨by omega, by rw [Nat.sub_self, pw_lit], e1, fun p hp => absurd hp (by omega), fun s hs => by rw [z1 s hs, Nat.sub_self]; rfl⟩ (fu_lt (by omega))
      rintro n rec s h2 ⟨hn, rfl, e2, y1, y2⟩ hrec
      have k153 : h2.1 153 = K := by rw [(e2 153 (by decide)).1, hK]
      have k159 : h2.1 159 = T := by rw [(e2 159 (by decide)).1, hTT]
      have k160 : h2.1 160 = h.1 160 := (e2 160 (by decide)).1
      have H2 : RK (h2.1 153) := by rw [k153]; exact H
      unfold b_X12_laysPlans_24
      rw [e_everywhere H2, k153]
      by_cases h0 : n = 0
      · subst h0
        simp (disch := omega) only [pw_lt, pw_cb, pw_cbx, pw_cbxr, pw_lit, pw_litL, pw_oi, pw_oim, pw_oi8, pw_m, pw_ldI, pw_ldL, pw_ldR, pw_stI, pw_stL, pw_nz, pw_ltI, pw_leI, pw_eqI, pw_eqm, pw_eqm2, pw_ltm, pw_mlt, pw_lem, pw_mle, pw_mm, pw_dec, pw_nar0, pw_nar1, nI_add, pw_sub, pw_mul, pw_and, pw_or, pw_andn, pw_shl1, pw_shl, pw_shr, pw_dv, nI_l, lN_i, Bool.false_eq_true, reduceCtorEq, if_false, if_true, ↓reduceIte, if_pos, if_neg]
        exact hj89 h2 ⟨e2, fun p hp => y1 p (by omega), fun s hs => y2 s hs⟩
      · generalize hp : ga K + 1 - n = p at *
        have hpa : p ≤ ga K := by omega
        have hW2 : WW (h2.1 153) (h2.1 160) := by rw [k153, k160]; exact hW
        have hT2 : TT (h2.1 153) (h2.1 159) := by rw [k153, k159]; exact hT
        have hwy := e_whyNot (p := p) H2 hT2 hW2 (by rw [k153]; exact hpa)
        have hwl := wy_le K T p
        have hgl := gG_lt (T := T) H p
        have hwp := hW p hpa
        rw [← k160] at hwp
        have hgi := e_grantedIn (w := wx K p) H2 hT2 (by rw [k153]; exact wx_le K p)
        rw [k153, k159] at hwy hgi
        simp (disch := omega) only [pw_lt, pw_cb, pw_cbx, pw_cbxr, pw_lit, pw_litL, pw_oi, pw_oim, pw_oi8, pw_m, pw_ldI, pw_ldL, pw_ldR, pw_stI, pw_stL, pw_nz, pw_ltI, pw_leI, pw_eqI, pw_eqm, pw_eqm2, pw_ltm, pw_mlt, pw_lem, pw_mle, pw_mm, pw_dec, pw_nar0, pw_nar1, nI_add, pw_sub, pw_mul, pw_and, pw_or, pw_andn, pw_shl1, pw_shl, pw_shr, pw_dv, nI_l, lN_i, Bool.false_eq_true, reduceCtorEq, if_false, if_true, ↓reduceIte, hwy]
        rw [if_neg (by omega)]
        have e3 : ga K + 1 - (n - 1) = p + 1 := by omega
        by_cases hwz : wy K T p = 0
        · have ha : abl K T p = true := decide_eq_true hwz
          have hgG : gr K T (wx K p) = gG K T p := rfl
          simp (disch := omega) only [pw_lt, pw_cb, pw_cbx, pw_cbxr, pw_lit, pw_litL, pw_oi, pw_oim, pw_oi8, pw_m, pw_ldI, pw_ldL, pw_ldR, pw_stI, pw_stL, pw_nz, pw_ltI, pw_leI, pw_eqI, pw_eqm, pw_eqm2, pw_ltm, pw_mlt, pw_lem, pw_mle, pw_mm, pw_dec, pw_nar0, pw_nar1, nI_add, pw_sub, pw_mul, pw_and, pw_or, pw_andn, pw_shl1, pw_shl, pw_shr, pw_dv, nI_l, lN_i, Bool.false_eq_true, reduceCtorEq, if_false, if_true, ↓reduceIte, if_pos, if_neg, hwz, r_152_19, hwp, hgi, hgG, r_152_21, r_152_22, pw_pIs]
          refine hrec (n - 1) _ _ (by omega) ⟨by omega, by rw [e3], eqx_trans e2 (eqx_trans (eqx_pI (by decide)) (eqx_pI (by decide))), fun q hq => ?_, fun s hs => ?_⟩
          · rw [pw_pIo (by omega)]
            by_cases eq : q = p
            · subst eq
              rw [pw_pIs]
              unfold GB
              rw [if_pos hwz]
            · rw [pw_pIo (by omega)]
              exact y1 q (by omega)
          · have ea : anyTo (p + 1) (fun p => abl K T p && decide (gG K T p = s)) = (anyTo p (fun p => abl K T p && decide (gG K T p = s)) || (abl K T p && decide (gG K T p = s))) := rfl
            rw [e3, ea, ha]
            by_cases es : s = gG K T p
            · subst es
              rw [pw_pIs]
              simp
              rfl
            · rw [pw_pIo (by omega), pw_pIo (by omega), y2 s hs, decide_eq_false (fun q => es q.symm)]
              simp
        · have ha : abl K T p = false := decide_eq_false hwz
          simp (disch := omega) only [pw_lt, pw_cb, pw_cbx, pw_cbxr, pw_lit, pw_litL, pw_oi, pw_oim, pw_oi8, pw_m, pw_ldI, pw_ldL, pw_ldR, pw_stI, pw_stL, pw_nz, pw_ltI, pw_leI, pw_eqI, pw_eqm, pw_eqm2, pw_ltm, pw_mlt, pw_lem, pw_mle, pw_mm, pw_dec, pw_nar0, pw_nar1, nI_add, pw_sub, pw_mul, pw_and, pw_or, pw_andn, pw_shl1, pw_shl, pw_shr, pw_dv, nI_l, lN_i, Bool.false_eq_true, reduceCtorEq, if_false, if_true, ↓reduceIte, if_pos, if_neg, hwz, r_152_21, pw_pIs]
          refine hrec (n - 1) _ _ (by omega) ⟨by omega, by rw [e3], eqx_trans e2 (eqx_pI (by decide)), fun q hq => ?_, fun s hs => ?_⟩
          · by_cases eq : q = p
            · subst eq
              rw [pw_pIs]
              unfold GB
              rw [if_neg hwz]
            · rw [pw_pIo (by omega)]
              exact y1 q (by omega)
          · have ea : anyTo (p + 1) (fun p => abl K T p && decide (gG K T p = s)) = (anyTo p (fun p => abl K T p && decide (gG K T p = s)) || (abl K T p && decide (gG K T p = s))) := rfl
            rw [e3, ea, ha, pw_pIo (by omega), y2 s hs]
            simp
  · refine lp_ok (fun n s h1 => n ≤ 1024 ∧ s = nI (1024 - n) ∧ eqx [162, 163] h h1 ∧ ∀ s, s < 1024 - n → h1.1 163 s = nI 0) ?_ FU 1024 _ h ⟨by omega, by rw [Nat.sub_self, pw_lit], eqx_rfl _ _, fun s hs => absurd hs (by omega)⟩ (fu_lt (by omega))
    rintro n rec s h1 ⟨hn, rfl, e1, y1⟩ hrec
    unfold b_X12_laysPlans_2
    by_cases h0 : n = 0
    · subst h0
      simp (disch := omega) only [pw_lt, pw_cb, pw_cbx, pw_cbxr, pw_lit, pw_litL, pw_oi, pw_oim, pw_oi8, pw_m, pw_ldI, pw_ldL, pw_ldR, pw_stI, pw_stL, pw_nz, pw_ltI, pw_leI, pw_eqI, pw_eqm, pw_eqm2, pw_ltm, pw_mlt, pw_lem, pw_mle, pw_mm, pw_dec, pw_nar0, pw_nar1, nI_add, pw_sub, pw_mul, pw_and, pw_or, pw_andn, pw_shl1, pw_shl, pw_shr, pw_dv, nI_l, lN_i, Bool.false_eq_true, reduceCtorEq, if_false, if_true, ↓reduceIte, if_pos, if_neg]
      exact hj22 h1 ⟨e1, fun s hs => y1 s (by omega)⟩
    · simp (disch := omega) only [pw_lt, pw_cb, pw_cbx, pw_cbxr, pw_lit, pw_litL, pw_oi, pw_oim, pw_oi8, pw_m, pw_ldI, pw_ldL, pw_ldR, pw_stI, pw_stL, pw_nz, pw_ltI, pw_leI, pw_eqI, pw_eqm, pw_eqm2, pw_ltm, pw_mlt, pw_lem, pw_mle, pw_mm, pw_dec, pw_nar0, pw_nar1, nI_add, pw_sub, pw_mul, pw_and, pw_or, pw_andn, pw_shl1, pw_shl, pw_shr, pw_dv, nI_l, lN_i, Bool.false_eq_true, reduceCtorEq, if_false, if_true, ↓reduceIte, if_pos, if_neg, r_152_22]
      refine hrec (n - 1) _ _ (by omega) ⟨by omega, by rw [show 1024 - (n - 1) = 1024 - n + 1 by omega], eqx_trans e1 (eqx_pI (by decide)), fun s hs => ?_⟩
      by_cases es : s = 1024 - n
      · subst es
        rw [pw_pIs]
      · rw [pw_pIo (by omega)]
        exact y1 s (by omega)

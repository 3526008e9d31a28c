/-! ===== the class's small functions, by what the reference knows ===== -/
def blm (K : Nat → Int32) : Nat := orTo (gc K) (fun c => decide (0 < gv K 4 ∧ c / gv K 2 + gv K 4 < gv K 1 ∧ c % gv K 2 + 1 < gv K 2))
def mm (K : Nat → Int32) : Nat := orTo (gv K 5) (fun i => decide (gv K (44 + i) = 1))
/- a Sky's fields are what is known -/
def SK (L K : Nat → Int32) : Prop := L 0 = K 0 ∧ L 1 = K 1 ∧ L 2 = K 2 ∧ L 3 = K 3 ∧ L 4 = K 4 ∧ L 5 = K 5 ∧ L 6 = nI (mm K) ∧ L 7 = nI (gc K) ∧ L 8 = nI (ga K) ∧ L 10 = nI (blm K) ∧ (0 < gc K → L 11 = nI (gv K 2 * gv K 4 + 1))
set_option maxRecDepth 16384 in
theorem blm_lt (K : Nat → Int32) : blm K < 2 ^ gc K := orTo_lt _ _
set_option maxRecDepth 16384 in
theorem mm_lt {K : Nat → Int32} (H : RK K) : mm K < 1024 := by
  have h1 := H.2.2.2.2.2.2.2.1
  have h2 := orTo_lt (fun i => decide (gv K (44 + i) = 1)) (gv K 5)
  have h3 : 2 ^ gv K 5 ≤ 2 ^ 10 := Nat.pow_le_pow_right (by decide) h1
  exact Nat.lt_of_lt_of_le h2 h3
set_option maxRecDepth 16384 in
theorem mu_mm {K : Nat → Int32} (H : RK K) : mm K &&& gv K 7 = mu K := by
  apply Nat.eq_of_testBit_eq
  intro i
  unfold mm mu
  rw [Nat.testBit_and, orTo_tb, orTo_tb]
  by_cases h : i < gv K 5
  · simp [h, Bool.and_comm]
  · simp [h]
/- what is blown on, by the mask -/
set_option maxRecDepth 16384 in
theorem wx_mask {K : Nat → Int32} (H : RK K) {p : Nat} (hp : p ≤ ga K) : p ||| ((p &&& blm K) <<< (gv K 2 * gv K 4 + 1)) = wx K p := by
  obtain ⟨b0, b1, b2, b3, b4, b5, b6, b7, b8, b9, b10⟩ := rk_b H
  have hp2 : p < 2 ^ gc K := by omega
  have hgc : gc K = gv K 1 * gv K 2 := rfl
  apply Nat.eq_of_testBit_eq
  intro c
  unfold wx wxn
  rw [Nat.testBit_or, Nat.testBit_shiftLeft, Nat.testBit_and, orTo_tb]
  unfold blm
  rw [orTo_tb]
  by_cases hc : c < gc K
  · have hnd : 0 < gv K 2 := by
      rcases Nat.eq_zero_or_pos (gv K 2) with z | z
      · rw [hgc, z] at hc
        omega
      · exact z
    by_cases hw : wc (gv K 2) (gv K 4) c = true
    · have ho := wc_off hnd hw
      have hw2 := hw
      unfold wc at hw2
      simp only [decide_eq_true_eq] at hw2
      obtain ⟨q1, q2, q3⟩ := hw2
      have h4 := Nat.div_add_mod c (gv K 2)
      have h5 := Nat.mod_lt c hnd
      have hmul : gv K 2 * gv K 4 ≤ gv K 2 * (c / gv K 2) := Nat.mul_le_mul_left _ q2
      have hmul2 : gv K 2 * (c / gv K 2 - gv K 4) = gv K 2 * (c / gv K 2) - gv K 2 * gv K 4 := Nat.mul_sub _ _ _
      have hc1 : c - (gv K 2 * gv K 4 + 1) = gv K 2 * (c / gv K 2 - gv K 4) + (c % gv K 2 - 1) := by omega
      have d1 : (c - (gv K 2 * gv K 4 + 1)) / gv K 2 = c / gv K 2 - gv K 4 := by rw [hc1, Nat.mul_add_div hnd, Nat.div_eq_of_lt (show c % gv K 2 - 1 < gv K 2 by omega), Nat.add_zero]
      have d2 : (c - (gv K 2 * gv K 4 + 1)) % gv K 2 = c % gv K 2 - 1 := by rw [hc1, Nat.mul_add_mod, Nat.mod_eq_of_lt (by omega)]
      have d3 : c / gv K 2 < gv K 1 := by
        rw [hgc, Nat.mul_comm] at hc
        exact Nat.div_lt_of_lt_mul hc
      have e1 : (gv K 2 * gv K 4 + 1 ≤ c) = True := by simp [ho]
      have e2 : c - (gv K 2 * gv K 4 + 1) < gc K := by omega
      rw [d1, d2]
      have e3 : (0 < gv K 4 ∧ c / gv K 2 - gv K 4 + gv K 4 < gv K 1 ∧ c % gv K 2 - 1 + 1 < gv K 2) = True := by
        refine eq_true ⟨q1, by omega, by omega⟩
      simp [hc, hw, ho, e2, e3]
    · have hw : wc (gv K 2) (gv K 4) c = false := by simpa using hw
      have e4 : ¬ (gv K 2 * gv K 4 + 1 ≤ c ∧ (0 < gv K 4 ∧ (c - (gv K 2 * gv K 4 + 1)) / gv K 2 + gv K 4 < gv K 1 ∧ (c - (gv K 2 * gv K 4 + 1)) % gv K 2 + 1 < gv K 2)) := by
        rintro ⟨q0, q1, q2, q3⟩
        have h4 := Nat.div_add_mod (c - (gv K 2 * gv K 4 + 1)) (gv K 2)
        have hm : gv K 2 * ((c - (gv K 2 * gv K 4 + 1)) / gv K 2 + gv K 4) = gv K 2 * ((c - (gv K 2 * gv K 4 + 1)) / gv K 2) + gv K 2 * gv K 4 := Nat.mul_add _ _ _
        have hc1 : c = gv K 2 * ((c - (gv K 2 * gv K 4 + 1)) / gv K 2 + gv K 4) + ((c - (gv K 2 * gv K 4 + 1)) % gv K 2 + 1) := by omega
        have d1 : c / gv K 2 = (c - (gv K 2 * gv K 4 + 1)) / gv K 2 + gv K 4 := by
          conv => lhs; rw [hc1]
          rw [Nat.mul_add_div hnd, Nat.div_eq_of_lt q3, Nat.add_zero]
        have d2 : c % gv K 2 = (c - (gv K 2 * gv K 4 + 1)) % gv K 2 + 1 := by
          conv => lhs; rw [hc1]
          rw [Nat.mul_add_mod, Nat.mod_eq_of_lt q3]
        unfold wc at hw
        simp only [decide_eq_false_iff_not] at hw
        exact hw ⟨q1, by rw [d1]; exact Nat.le_add_left _ _, by rw [d2]; exact Nat.succ_pos _⟩
      have e5 : (decide (gv K 2 * gv K 4 + 1 ≤ c) && decide (0 < gv K 4 ∧ (c - (gv K 2 * gv K 4 + 1)) / gv K 2 + gv K 4 < gv K 1 ∧ (c - (gv K 2 * gv K 4 + 1)) % gv K 2 + 1 < gv K 2)) = false := by
        rw [← Bool.decide_and]
        exact decide_eq_false e4
      have e6 : (decide (c ≥ gv K 2 * gv K 4 + 1) && (p.testBit (c - (gv K 2 * gv K 4 + 1)) && (decide (c - (gv K 2 * gv K 4 + 1) < gc K) && decide (0 < gv K 4 ∧ (c - (gv K 2 * gv K 4 + 1)) / gv K 2 + gv K 4 < gv K 1 ∧ (c - (gv K 2 * gv K 4 + 1)) % gv K 2 + 1 < gv K 2)))) = false := by
        revert e5
        cases decide (gv K 2 * gv K 4 + 1 ≤ c) <;> cases decide (0 < gv K 4 ∧ (c - (gv K 2 * gv K 4 + 1)) / gv K 2 + gv K 4 < gv K 1 ∧ (c - (gv K 2 * gv K 4 + 1)) % gv K 2 + 1 < gv K 2) <;> simp
      rw [e6, hw]
      simp [hc]
  · have hpc : p.testBit c = false := Nat.testBit_lt_two_pow (Nat.lt_of_lt_of_le hp2 (Nat.pow_le_pow_right (by decide) (by omega)))
    have e4 : ¬ (gv K 2 * gv K 4 + 1 ≤ c ∧ c - (gv K 2 * gv K 4 + 1) < gc K ∧ (0 < gv K 4 ∧ (c - (gv K 2 * gv K 4 + 1)) / gv K 2 + gv K 4 < gv K 1 ∧ (c - (gv K 2 * gv K 4 + 1)) % gv K 2 + 1 < gv K 2)) := by
      rintro ⟨q0, q9, q1, q2, q3⟩
      have hnd : 0 < gv K 2 := by omega
      have h4 := Nat.div_add_mod (c - (gv K 2 * gv K 4 + 1)) (gv K 2)
      have hm : gv K 2 * ((c - (gv K 2 * gv K 4 + 1)) / gv K 2 + gv K 4 + 1) = gv K 2 * ((c - (gv K 2 * gv K 4 + 1)) / gv K 2) + gv K 2 * gv K 4 + gv K 2 := by rw [Nat.mul_add, Nat.mul_add, Nat.mul_one]
      have hle : gv K 2 * ((c - (gv K 2 * gv K 4 + 1)) / gv K 2 + gv K 4 + 1) ≤ gv K 2 * gv K 1 := Nat.mul_le_mul_left _ q2
      rw [Nat.mul_comm (gv K 2) (gv K 1)] at hle
      omega
    rw [hpc]
    have e6 : (decide (c ≥ gv K 2 * gv K 4 + 1) && (p.testBit (c - (gv K 2 * gv K 4 + 1)) && (decide (c - (gv K 2 * gv K 4 + 1) < gc K) && decide (0 < gv K 4 ∧ (c - (gv K 2 * gv K 4 + 1)) / gv K 2 + gv K 4 < gv K 1 ∧ (c - (gv K 2 * gv K 4 + 1)) % gv K 2 + 1 < gv K 2)))) = false := by
      by_cases z1 : gv K 2 * gv K 4 + 1 ≤ c
      · by_cases z2 : c - (gv K 2 * gv K 4 + 1) < gc K
        · rw [decide_eq_false (fun z3 => e4 ⟨z1, z2, z3⟩)]
          simp
        · simp [z2]
      · simp [z1]
    rw [e6]
    simp [hc]
set_option maxRecDepth 16384 in
theorem c_weatherOf {h : PH} {a p : Nat} {K : Nat → Int32} (H : RK K) (S : SK (h.1 a) K) (hp : p ≤ ga K) : f_X8_weatherOf a (nI p) h = some (nI (wx K p), h) := by
  obtain ⟨b0, b1, b2, b3, b4, b5, b6, b7, b8, b9, b10⟩ := rk_b H
  have s10 := S.2.2.2.2.2.2.2.2.2.1
  have hm : gv K 2 * gv K 4 ≤ 6 * 3 := Nat.mul_le_mul b2 b5
  by_cases hg : 0 < gc K
  · have s11 := S.2.2.2.2.2.2.2.2.2.2 hg
    unfold f_X8_weatherOf
    simp (disch := omega) only [pw_lt, pw_cb, pw_cbx, pw_cbxr, pw_lit, pw_litL, pw_oi, pw_oim, pw_oi8, pw_m, pw_ldI, pw_ldL, pw_ldR, pw_stI, pw_stL, pw_nz, pw_ltI, pw_leI, pw_eqI, pw_eqm, pw_eqm2, pw_ltm, pw_mlt, pw_lem, pw_mle, pw_mm, pw_dec, pw_nar0, pw_nar1, nI_add, pw_sub, pw_mul, pw_and, pw_or, pw_andn, pw_shl1, pw_shl, pw_shr, pw_dv, nI_l, lN_i, Bool.false_eq_true, reduceCtorEq, if_false, if_true, ↓reduceIte, if_pos, if_neg, s10, s11, wx_mask H hp]
  · have hg0 : gc K = 0 := by omega
    have hga : ga K = 0 := by unfold ga; rw [hg0]
    have hp0 : p = 0 := by omega
    subst hp0
    have hb0 : blm K = 0 := by
      have := blm_lt K
      rw [hg0] at this
      omega
    have hx := wx_mask H hp
    rw [hb0, Nat.and_zero, Nat.zero_shiftLeft, Nat.or_zero] at hx
    unfold f_X8_weatherOf
    rw [s10, hb0, ← hx]
    have z1 : (nI 0 &&& nI 0 : Int32) = 0 := by decide
    have z2 : ∀ y : Int32, (0 : Int32) <<< y = 0 := fun y => by
      apply Int32.toBitVec_inj.mp
      simp
    have z3 : (nI 0 ||| 0 : Int32) = nI 0 := by decide
    rw [z1, z2, z3]
set_option maxRecDepth 16384 in
theorem c_weightOf {h : PH} {s : Nat} {K : Nat → Int32} (H : RK K) (S : SK (h.1 3) K) (hW : ∀ i, i < gv K 5 → h.1 5 i = K (34 + i)) (hs : s < 2147483648) : f_X8_weightOf 3 (nI s) h = some (nI (wt K s), h) := by
  obtain ⟨k0, k1, k2, k3, k4, k5, k6, k7⟩ := rk_e H
  obtain ⟨b0, b1, b2, b3, b4, b5, b6, b7, b8, b9, b10⟩ := rk_b H
  have hK := H.2.2.2.2.2.2.2.2.2.2.2
  have s5 := S.2.2.2.2.2.1
  unfold f_X8_weightOf
  simp only [pw_lt, pw_lit]
  refine lp_run (fun i => (nI (sumTo i (fun i => if s.testBit i then gv K (34 + i) else 0)), nI i)) (fun _ => h) (gv K 5) _ ?_ ?_ FU (fu_lt (by omega))
  · intro i hi rec
    obtain ⟨-, ⟨w1, w2, w3⟩, -⟩ := hK i hi
    have w4 := hW i hi
    unfold b_X8_weightOf_4
    simp (disch := omega) only [pw_lt, pw_cb, pw_cbx, pw_cbxr, pw_lit, pw_litL, pw_oi, pw_oim, pw_oi8, pw_m, pw_ldI, pw_ldL, pw_ldR, pw_stI, pw_stL, pw_nz, pw_ltI, pw_leI, pw_eqI, pw_eqm, pw_eqm2, pw_ltm, pw_mlt, pw_lem, pw_mle, pw_mm, pw_dec, pw_nar0, pw_nar1, nI_add, pw_sub, pw_mul, pw_and, pw_or, pw_andn, pw_shl1, pw_shl, pw_shr, pw_dv, nI_l, lN_i, Bool.false_eq_true, reduceCtorEq, if_false, if_true, ↓reduceIte, if_pos, if_neg, r_3_13, s5, k5, pw_tb, w4, w1, sumTo]
    rcases tf (s.testBit i) with hb | hb <;> simp (disch := omega) only [pw_lt, pw_cb, pw_cbx, pw_cbxr, pw_lit, pw_litL, pw_oi, pw_oim, pw_oi8, pw_m, pw_ldI, pw_ldL, pw_ldR, pw_stI, pw_stL, pw_nz, pw_ltI, pw_leI, pw_eqI, pw_eqm, pw_eqm2, pw_ltm, pw_mlt, pw_lem, pw_mle, pw_mm, pw_dec, pw_nar0, pw_nar1, nI_add, pw_sub, pw_mul, pw_and, pw_or, pw_andn, pw_shl1, pw_shl, pw_shr, pw_dv, nI_l, lN_i, Bool.false_eq_true, reduceCtorEq, if_false, if_true, ↓reduceIte, if_pos, if_neg, hb, Nat.add_zero]
  · intro rec
    unfold b_X8_weightOf_4
    simp (disch := omega) only [pw_lt, pw_cb, pw_cbx, pw_cbxr, pw_lit, pw_litL, pw_oi, pw_oim, pw_oi8, pw_m, pw_ldI, pw_ldL, pw_ldR, pw_stI, pw_stL, pw_nz, pw_ltI, pw_leI, pw_eqI, pw_eqm, pw_eqm2, pw_ltm, pw_mlt, pw_lem, pw_mle, pw_mm, pw_dec, pw_nar0, pw_nar1, nI_add, pw_sub, pw_mul, pw_and, pw_or, pw_andn, pw_shl1, pw_shl, pw_shr, pw_dv, nI_l, lN_i, Bool.false_eq_true, reduceCtorEq, if_false, if_true, ↓reduceIte, if_pos, if_neg, s5, k5]
    rfl
/- the heaps are alike outside of the cells S -/
def eqx (S : List Nat) (h h' : PH) : Prop := ∀ c, c ∉ S → h'.1 c = h.1 c ∧ h'.2 c = h.2 c
set_option maxRecDepth 16384 in
theorem eqx_rfl (S : List Nat) (h : PH) : eqx S h h := fun _ _ => ⟨rfl, rfl⟩
set_option maxRecDepth 16384 in
theorem eqx_trans {S : List Nat} {h1 h2 h3 : PH} (a : eqx S h1 h2) (b : eqx S h2 h3) : eqx S h1 h3 := fun c hc => ⟨(b c hc).1.trans (a c hc).1, (b c hc).2.trans (a c hc).2⟩
set_option maxRecDepth 16384 in
theorem eqx_mono {S S' : List Nat} {h h' : PH} (a : eqx S h h') (hs : ∀ c, c ∈ S → c ∈ S') : eqx S' h h' := fun c hc => a c (fun q => hc (hs c q))
set_option maxRecDepth 16384 in
theorem eqx_pI {S : List Nat} {h : PH} {a j : Nat} {v : Int32} (ha : a ∈ S) : eqx S h (pI h a j v) := fun c hc => by
  have e : c ≠ a := fun q => hc (q ▸ ha)
  exact ⟨funext fun b => by simp [pI, e], rfl⟩
set_option maxRecDepth 16384 in
theorem eqx_pL {S : List Nat} {h : PH} {a j : Nat} {v : Int64} (ha : a ∈ S) : eqx S h (pL h a j v) := fun c hc => by
  have e : c ≠ a := fun q => hc (q ▸ ha)
  exact ⟨rfl, funext fun b => by simp [pL, e]⟩
/- which wishes hold in a weather -/
def hw (K T : Nat → Int32) (w : Nat) : Nat := orTo (gv K 5) (fun i => decide (T (4096 * i + w) = 1))
set_option maxRecDepth 16384 in
theorem hw_lt {K T : Nat → Int32} (H : RK K) (w : Nat) : hw K T w < 1024 := by
  have h1 := H.2.2.2.2.2.2.2.1
  have h2 := orTo_lt (fun i => decide (T (4096 * i + w) = 1)) (gv K 5)
  have h3 : 2 ^ gv K 5 ≤ 2 ^ 10 := Nat.pow_le_pow_right (by decide) h1
  exact Nat.lt_of_lt_of_le h2 h3
set_option maxRecDepth 16384 in
theorem gr_hw (K T : Nat → Int32) (w : Nat) : hw K T w &&& gv K 7 = gr K T w := by
  apply Nat.eq_of_testBit_eq
  intro i
  unfold hw gr
  rw [Nat.testBit_and, orTo_tb, orTo_tb]
  by_cases h : i < gv K 5
  · simp [h, Bool.and_comm]
  · simp [h]
/- the code of the wishes says what the table of truths says -/
def CdOk (L F C K T : Nat → Int32) : Prop := ∀ h : PH, h.1 3 = L → h.1 6 = F → h.1 7 = C → ∀ i, i < gv K 5 → ∀ w, w ≤ ga K → ok (f_X3_truthOf 30 (nI i) (nI w) h) (fun r h' => r = bI (decide (T (4096 * i + w) = 1)) ∧ eqx [32] h h')
def HD (K T D : Nat → Int32) : Prop := ∀ w, w ≤ ga K → D w = -1 ∨ D w = nI (hw K T w)
def FC (K T : Nat → Int32) (h : PH) : Prop := RK K ∧ SK (h.1 3) K ∧ CdOk (h.1 3) (h.1 6) (h.1 7) K T ∧ HD K T (h.1 31)
set_option maxRecDepth 16384 in
theorem FC.to {K T : Nat → Int32} {h h' : PH} {S : List Nat} (F : FC K T h) (e : eqx S h h') (h3 : 3 ∉ S) (h6 : 6 ∉ S) (h7 : 7 ∉ S) (hd : HD K T (h'.1 31)) : FC K T h' := by
  obtain ⟨a, b, c, d⟩ := F
  refine ⟨a, ?_, ?_, hd⟩
  · rw [(e 3 h3).1]; exact b
  · rw [(e 3 h3).1, (e 6 h6).1, (e 7 h7).1]; exact c
set_option maxRecDepth 16384 in
theorem c_at {h : PH} {K T : Nat → Int32} {w : Nat} (F : FC K T h) (hw' : w ≤ ga K) : ok (f_X3_at 30 (nI w) h) (fun r h' => r = nI (hw K T w) ∧ eqx [31, 32] h h' ∧ FC K T h') := by
  obtain ⟨H, S, C, D⟩ := id F
  obtain ⟨k0, k1, k2, k3, k4, k5, k6, k7⟩ := rk_e H
  obtain ⟨b0, b1, b2, b3, b4, b5, b6, b7, b8, b9, b10⟩ := rk_b H
  have s5 := S.2.2.2.2.2.1
  have hl := hw_lt (T := T) H w
  unfold f_X3_at
  simp (disch := omega) only [pw_lt, pw_cb, pw_cbx, pw_cbxr, pw_lit, pw_litL, pw_oi, pw_oim, pw_oi8, pw_m, pw_ldI, pw_ldL, pw_ldR, pw_stI, pw_stL, pw_nz, pw_ltI, pw_leI, pw_eqI, pw_eqm, pw_eqm2, pw_ltm, pw_mlt, pw_lem, pw_mle, pw_mm, pw_dec, pw_nar0, pw_nar1, nI_add, pw_sub, pw_mul, pw_and, pw_or, pw_andn, pw_shl1, pw_shl, pw_shr, pw_dv, nI_l, lN_i, Bool.false_eq_true, reduceCtorEq, if_false, if_true, ↓reduceIte, if_pos, if_neg, r_30_1]
  rcases D w hw' with d | d
  · simp (disch := omega) only [pw_lt, pw_cb, pw_cbx, pw_cbxr, pw_lit, pw_litL, pw_oi, pw_oim, pw_oi8, pw_m, pw_ldI, pw_ldL, pw_ldR, pw_stI, pw_stL, pw_nz, pw_ltI, pw_leI, pw_eqI, pw_eqm, pw_eqm2, pw_ltm, pw_mlt, pw_lem, pw_mle, pw_mm, pw_dec, pw_nar0, pw_nar1, nI_add, pw_sub, pw_mul, pw_and, pw_or, pw_andn, pw_shl1, pw_shl, pw_shr, pw_dv, nI_l, lN_i, Bool.false_eq_true, reduceCtorEq, if_false, if_true, ↓reduceIte, if_pos, if_neg, d]
    refine ok_mono (lp_ok (Q := fun r h' => r = nI (hw K T w) ∧ eqx [31, 32] h h' ∧ FC K T h') (fun n s h' => n ≤ gv K 5 ∧ s = (nI (orTo (gv K 5 - n) (fun i => decide (T (4096 * i + w) = 1))), nI (gv K 5 - n)) ∧ eqx [32] h h') ?_ FU (gv K 5) _ h ⟨Nat.le_refl _, by rw [Nat.sub_self]; rfl, eqx_rfl _ _⟩ (fu_lt (by omega))) (fun r h' q => q)
    intro n rec s h1 hI hrec
    obtain ⟨hn, rfl, he⟩ := hI
    unfold b_X3_at_14
    rcases Nat.eq_zero_or_pos n with h0 | h0
    · subst h0
      simp (disch := omega) only [pw_lt, pw_cb, pw_cbx, pw_cbxr, pw_lit, pw_litL, pw_oi, pw_oim, pw_oi8, pw_m, pw_ldI, pw_ldL, pw_ldR, pw_stI, pw_stL, pw_nz, pw_ltI, pw_leI, pw_eqI, pw_eqm, pw_eqm2, pw_ltm, pw_mlt, pw_lem, pw_mle, pw_mm, pw_dec, pw_nar0, pw_nar1, nI_add, pw_sub, pw_mul, pw_and, pw_or, pw_andn, pw_shl1, pw_shl, pw_shr, pw_dv, nI_l, lN_i, Bool.false_eq_true, reduceCtorEq, if_false, if_true, ↓reduceIte, if_pos, if_neg, r_30_0, r_30_1, (he 3 (by decide)).1, s5, k5, pw_pIs]
      have e3 : eqx [31, 32] h (pI h1 31 w (nI (orTo (gv K 5 - 0) (fun i => decide (T (4096 * i + w) = 1))))) := eqx_trans (eqx_mono he (fun c hc => by simp at hc; simp [hc])) (eqx_pI (by decide))
      refine ok_some ⟨rfl, e3, F.to e3 (by decide) (by decide) (by decide) ?_⟩
      intro v hv
      by_cases hvw : v = w
      · subst hvw
        rw [pw_pIs]
        exact Or.inr rfl
      · rw [pw_pIo (by omega), (he 31 (by decide)).1]
        exact D v hv
    · simp (disch := omega) only [pw_lt, pw_cb, pw_cbx, pw_cbxr, pw_lit, pw_litL, pw_oi, pw_oim, pw_oi8, pw_m, pw_ldI, pw_ldL, pw_ldR, pw_stI, pw_stL, pw_nz, pw_ltI, pw_leI, pw_eqI, pw_eqm, pw_eqm2, pw_ltm, pw_mlt, pw_lem, pw_mle, pw_mm, pw_dec, pw_nar0, pw_nar1, nI_add, pw_sub, pw_mul, pw_and, pw_or, pw_andn, pw_shl1, pw_shl, pw_shr, pw_dv, nI_l, lN_i, Bool.false_eq_true, reduceCtorEq, if_false, if_true, ↓reduceIte, if_pos, if_neg, r_30_0, (he 3 (by decide)).1, s5, k5]
      refine ok_cb (C h1 (he 3 (by decide)).1 (he 6 (by decide)).1 (he 7 (by decide)).1 (gv K 5 - n) (by omega) w hw') ?_
      rintro r h2 ⟨rfl, e2⟩
      have e3 : gv K 5 - n + 1 = gv K 5 - (n - 1) := by omega
      have e4 : orTo (gv K 5 - n) (fun i => decide (T (4096 * i + w) = 1)) ||| (if decide (T (4096 * (gv K 5 - n) + w) = 1) then 2 ^ (gv K 5 - n) else 0) = orTo (gv K 5 - (n - 1)) (fun i => decide (T (4096 * i + w) = 1)) := by
        rw [← e3]
        rfl
      rcases tf (decide (T (4096 * (gv K 5 - n) + w) = 1)) with hb | hb
      · rw [hb] at e4 ⊢
        have e5 : 0 <<< (gv K 5 - n) = 0 := Nat.zero_shiftLeft _
        rw [bI_f]
        simp (disch := omega) only [pw_lt, pw_cb, pw_cbx, pw_cbxr, pw_lit, pw_litL, pw_oi, pw_oim, pw_oi8, pw_m, pw_ldI, pw_ldL, pw_ldR, pw_stI, pw_stL, pw_nz, pw_ltI, pw_leI, pw_eqI, pw_eqm, pw_eqm2, pw_ltm, pw_mlt, pw_lem, pw_mle, pw_mm, pw_dec, pw_nar0, pw_nar1, nI_add, pw_sub, pw_mul, pw_and, pw_or, pw_andn, pw_shl1, pw_shl, pw_shr, pw_dv, nI_l, lN_i, Bool.false_eq_true, reduceCtorEq, if_false, if_true, ↓reduceIte, if_pos, if_neg, e5, e3]
        refine hrec (n - 1) _ h2 (by omega) ⟨by omega, ?_, eqx_trans he e2⟩
        rw [← e4]
        rfl
      · rw [hb] at e4 ⊢
        rw [bI_t]
        simp (disch := omega) only [pw_lt, pw_cb, pw_cbx, pw_cbxr, pw_lit, pw_litL, pw_oi, pw_oim, pw_oi8, pw_m, pw_ldI, pw_ldL, pw_ldR, pw_stI, pw_stL, pw_nz, pw_ltI, pw_leI, pw_eqI, pw_eqm, pw_eqm2, pw_ltm, pw_mlt, pw_lem, pw_mle, pw_mm, pw_dec, pw_nar0, pw_nar1, nI_add, pw_sub, pw_mul, pw_and, pw_or, pw_andn, pw_shl1, pw_shr, pw_dv, nI_l, lN_i, Bool.false_eq_true, reduceCtorEq, if_false, if_true, ↓reduceIte, if_pos, if_neg, e3]
        refine hrec (n - 1) _ h2 (by omega) ⟨by omega, ?_, eqx_trans he e2⟩
        rw [← e4]
        rfl
  · simp (disch := omega) only [pw_lt, pw_cb, pw_cbx, pw_cbxr, pw_lit, pw_litL, pw_oi, pw_oim, pw_oi8, pw_m, pw_ldI, pw_ldL, pw_ldR, pw_stI, pw_stL, pw_nz, pw_ltI, pw_leI, pw_eqI, pw_eqm, pw_eqm2, pw_ltm, pw_mlt, pw_lem, pw_mle, pw_mm, pw_dec, pw_nar0, pw_nar1, nI_add, pw_sub, pw_mul, pw_and, pw_or, pw_andn, pw_shl1, pw_shl, pw_shr, pw_dv, nI_l, lN_i, Bool.false_eq_true, reduceCtorEq, if_false, if_true, ↓reduceIte, if_pos, if_neg, d, r_30_1]
    exact ok_some ⟨rfl, eqx_rfl _ _, F⟩
set_option maxRecDepth 16384 in
theorem c_grantedBy {h : PH} {K T : Nat → Int32} {p o : Nat} (F : FC K T h) (hp : p ≤ ga K) : ok (f_X3_grantedBy 30 (nI p) (nI o) h) (fun r h' => r = nI (hw K T (wx K p) &&& o) ∧ eqx [31, 32] h h' ∧ FC K T h') := by
  unfold f_X3_grantedBy
  rw [r_30_0, c_weatherOf F.1 F.2.1 hp]
  simp (disch := omega) only [pw_lt, pw_cb, pw_cbx, pw_cbxr, pw_lit, pw_litL, pw_oi, pw_oim, pw_oi8, pw_m, pw_ldI, pw_ldL, pw_ldR, pw_stI, pw_stL, pw_nz, pw_ltI, pw_leI, pw_eqI, pw_eqm, pw_eqm2, pw_ltm, pw_mlt, pw_lem, pw_mle, pw_mm, pw_dec, pw_nar0, pw_nar1, nI_add, pw_sub, pw_mul, pw_and, pw_or, pw_andn, pw_shl1, pw_shl, pw_shr, pw_dv, nI_l, lN_i, Bool.false_eq_true, reduceCtorEq, if_false, if_true, ↓reduceIte, if_pos, if_neg]
  refine ok_cb (c_at F (wx_le K p)) ?_
  rintro r h2 ⟨rfl, e2, F2⟩
  simp (disch := omega) only [pw_lt, pw_cb, pw_cbx, pw_cbxr, pw_lit, pw_litL, pw_oi, pw_oim, pw_oi8, pw_m, pw_ldI, pw_ldL, pw_ldR, pw_stI, pw_stL, pw_nz, pw_ltI, pw_leI, pw_eqI, pw_eqm, pw_eqm2, pw_ltm, pw_mlt, pw_lem, pw_mle, pw_mm, pw_dec, pw_nar0, pw_nar1, nI_add, pw_sub, pw_mul, pw_and, pw_or, pw_andn, pw_shl1, pw_shl, pw_shr, pw_dv, nI_l, lN_i, Bool.false_eq_true, reduceCtorEq, if_false, if_true, ↓reduceIte, if_pos, if_neg]
  exact ok_some ⟨rfl, e2, F2⟩
/- why a plan of cells can't be, with these open -/
def wyo (K T : Nat → Int32) (o p : Nat) : Nat := if gv K 3 < pc p then 2 else if sdf (mm K &&& o) (hw K T (wx K p)) = 0 then 0 else 3
set_option maxRecDepth 16384 in
theorem wyo_wy {K T : Nat → Int32} (H : RK K) (p : Nat) : wyo K T (gv K 7) p = wy K T p := by
  unfold wyo wy
  rw [mu_mm H]
  have e : sdf (mu K) (hw K T (wx K p)) = sdf (mu K) (gr K T (wx K p)) := by
    apply Nat.eq_of_testBit_eq
    intro i
    rw [sdf_tb, sdf_tb, ← gr_hw, Nat.testBit_and, ← mu_mm H, Nat.testBit_and]
    cases (mm K).testBit i <;> cases (gv K 7).testBit i <;> cases (hw K T (wx K p)).testBit i <;> rfl
  rw [e]
set_option maxRecDepth 16384 in
theorem c_whyNot {h : PH} {K T : Nat → Int32} {p o : Nat} (F : FC K T h) (hp : p ≤ ga K) (ho : o < 1024) : ok (f_X3_whyNot 30 (lN p) (nI o) h) (fun r h' => r = nI (wyo K T o p) ∧ eqx [31, 32] h h' ∧ FC K T h') := by
  obtain ⟨H, S, C, D⟩ := id F
  obtain ⟨k0, k1, k2, k3, k4, k5, k6, k7⟩ := rk_e H
  obtain ⟨b0, b1, b2, b3, b4, b5, b6, b7, b8, b9, b10⟩ := rk_b H
  have m3 := pc_le (show p < 4096 by omega)
  have m1 := mm_lt H
  have m2 : mm K &&& o ≤ mm K := Nat.and_le_left
  have s3 := S.2.2.2.1
  have s6 := S.2.2.2.2.2.2.1
  have s8 := S.2.2.2.2.2.2.2.2.1
  have z0 : ¬ (lg_cmp (lN p) 0 < 0) := fun q => by
    have := (lg_cmp_lt _ _).mp q
    rw [show (0 : Int64) = lN 0 from rfl, lN_lt (by omega) (by decide)] at this
    omega
  have z1 : lg_cmp (lN p) ((h.1 3 8).toInt64) ≤ 0 := by
    rw [lg_cmp_le, s8, nI_l (by omega), lN_le (by omega) (by omega)]
    exact hp
  unfold f_X3_whyNot
  rw [r_30_0]
  simp only [pw_lt]
  rw [if_neg z0, if_pos z1]
  simp (disch := omega) only [pw_lt, pw_cb, pw_cbx, pw_cbxr, pw_lit, pw_litL, pw_oi, pw_oim, pw_oi8, pw_m, pw_ldI, pw_ldL, pw_ldR, pw_stI, pw_stL, pw_nz, pw_ltI, pw_leI, pw_eqI, pw_eqm, pw_eqm2, pw_ltm, pw_mlt, pw_lem, pw_mle, pw_mm, pw_dec, pw_nar0, pw_nar1, nI_add, pw_sub, pw_mul, pw_and, pw_or, pw_andn, pw_shl1, pw_shl, pw_shr, pw_dv, nI_l, lN_i, Bool.false_eq_true, reduceCtorEq, if_false, if_true, ↓reduceIte, e_bitCount, s3, k3, s6]
  unfold wyo
  by_cases h1 : gv K 3 < pc p
  · simp (disch := omega) only [pw_lt, pw_cb, pw_cbx, pw_cbxr, pw_lit, pw_litL, pw_oi, pw_oim, pw_oi8, pw_m, pw_ldI, pw_ldL, pw_ldR, pw_stI, pw_stL, pw_nz, pw_ltI, pw_leI, pw_eqI, pw_eqm, pw_eqm2, pw_ltm, pw_mlt, pw_lem, pw_mle, pw_mm, pw_dec, pw_nar0, pw_nar1, nI_add, pw_sub, pw_mul, pw_and, pw_or, pw_andn, pw_shl1, pw_shl, pw_shr, pw_dv, nI_l, lN_i, Bool.false_eq_true, reduceCtorEq, if_false, if_true, ↓reduceIte, if_pos, if_neg, h1]
    exact ok_some ⟨rfl, eqx_rfl _ _, F⟩
  · by_cases h2 : mm K &&& o = 0
    · have e9 : sdf (mm K &&& o) (hw K T (wx K p)) = 0 := by rw [h2]; unfold sdf; simp
      simp (disch := omega) only [pw_lt, pw_cb, pw_cbx, pw_cbxr, pw_lit, pw_litL, pw_oi, pw_oim, pw_oi8, pw_m, pw_ldI, pw_ldL, pw_ldR, pw_stI, pw_stL, pw_nz, pw_ltI, pw_leI, pw_eqI, pw_eqm, pw_eqm2, pw_ltm, pw_mlt, pw_lem, pw_mle, pw_mm, pw_dec, pw_nar0, pw_nar1, nI_add, pw_sub, pw_mul, pw_and, pw_or, pw_andn, pw_shl1, pw_shl, pw_shr, pw_dv, nI_l, lN_i, Bool.false_eq_true, reduceCtorEq, if_false, if_true, ↓reduceIte, if_pos, if_neg, h1, h2, e9]
      rw [← h2, e9]
      simp (disch := omega) only [pw_lt, pw_cb, pw_cbx, pw_cbxr, pw_lit, pw_litL, pw_oi, pw_oim, pw_oi8, pw_m, pw_ldI, pw_ldL, pw_ldR, pw_stI, pw_stL, pw_nz, pw_ltI, pw_leI, pw_eqI, pw_eqm, pw_eqm2, pw_ltm, pw_mlt, pw_lem, pw_mle, pw_mm, pw_dec, pw_nar0, pw_nar1, nI_add, pw_sub, pw_mul, pw_and, pw_or, pw_andn, pw_shl1, pw_shl, pw_shr, pw_dv, nI_l, lN_i, Bool.false_eq_true, reduceCtorEq, if_false, if_true, ↓reduceIte, if_pos, if_neg]
      exact ok_some ⟨rfl, eqx_rfl _ _, F⟩
    · rw [c_weatherOf H S hp]
      simp (disch := omega) only [pw_lt, pw_cb, pw_cbx, pw_cbxr, pw_lit, pw_litL, pw_oi, pw_oim, pw_oi8, pw_m, pw_ldI, pw_ldL, pw_ldR, pw_stI, pw_stL, pw_nz, pw_ltI, pw_leI, pw_eqI, pw_eqm, pw_eqm2, pw_ltm, pw_mlt, pw_lem, pw_mle, pw_mm, pw_dec, pw_nar0, pw_nar1, nI_add, pw_sub, pw_mul, pw_and, pw_or, pw_andn, pw_shl1, pw_shl, pw_shr, pw_dv, nI_l, lN_i, Bool.false_eq_true, reduceCtorEq, if_false, if_true, ↓reduceIte, if_pos, if_neg, h1, h2]
      refine ok_cb (c_at F (wx_le K p)) ?_
      rintro r h3 ⟨rfl, e3, F3⟩
      have m4 := sdf_le (mm K &&& o) (hw K T (wx K p))
      by_cases h4 : sdf (mm K &&& o) (hw K T (wx K p)) = 0
      · simp (disch := omega) only [pw_lt, pw_cb, pw_cbx, pw_cbxr, pw_lit, pw_litL, pw_oi, pw_oim, pw_oi8, pw_m, pw_ldI, pw_ldL, pw_ldR, pw_stI, pw_stL, pw_nz, pw_ltI, pw_leI, pw_eqI, pw_eqm, pw_eqm2, pw_ltm, pw_mlt, pw_lem, pw_mle, pw_mm, pw_dec, pw_nar0, pw_nar1, nI_add, pw_sub, pw_mul, pw_and, pw_or, pw_andn, pw_shl1, pw_shl, pw_shr, pw_dv, nI_l, lN_i, Bool.false_eq_true, reduceCtorEq, if_false, if_true, ↓reduceIte, if_pos, if_neg, h4]
        exact ok_some ⟨rfl, e3, F3⟩
      · simp (disch := omega) only [pw_lt, pw_cb, pw_cbx, pw_cbxr, pw_lit, pw_litL, pw_oi, pw_oim, pw_oi8, pw_m, pw_ldI, pw_ldL, pw_ldR, pw_stI, pw_stL, pw_nz, pw_ltI, pw_leI, pw_eqI, pw_eqm, pw_eqm2, pw_ltm, pw_mlt, pw_lem, pw_mle, pw_mm, pw_dec, pw_nar0, pw_nar1, nI_add, pw_sub, pw_mul, pw_and, pw_or, pw_andn, pw_shl1, pw_shl, pw_shr, pw_dv, nI_l, lN_i, Bool.false_eq_true, reduceCtorEq, if_false, if_true, ↓reduceIte, if_pos, if_neg, h4]
        exact ok_some ⟨rfl, e3, F3⟩

/-! ===== the reference's small functions ===== -/
def bI (p : Bool) : Int32 := if p then 1 else 0
set_option maxRecDepth 16384 in
theorem tf (b : Bool) : b = false ∨ b = true := by cases b <;> simp
set_option maxRecDepth 16384 in
theorem bI_t : bI true = 1 := rfl
set_option maxRecDepth 16384 in
theorem bI_f : bI false = 0 := rfl
set_option maxRecDepth 16384 in
theorem bI_0 (p : Bool) : (bI p = 0) = (p = false) := by cases p <;> simp [bI]
set_option maxRecDepth 16384 in
theorem bI_0' (p : Bool) : (bI p = nI 0) = (p = false) := bI_0 p
set_option maxRecDepth 16384 in
theorem bI_1 (p : Bool) : (bI p = 1) = (p = true) := by cases p <;> simp [bI]
set_option maxRecDepth 16384 in
theorem bI_1' (p : Bool) : (bI p = nI 1) = (p = true) := bI_1 p
set_option maxRecDepth 16384 in
theorem zr_b (p : Bool) (h : PH) : zr (bI p) h = some (bI p, h) := by cases p <;> rfl
set_option maxRecDepth 16384 in
theorem zr_0 (h : PH) : zr (nI 0) h = some (bI false, h) := rfl
set_option maxRecDepth 16384 in
theorem zr_1 (h : PH) : zr (nI 1) h = some (bI true, h) := rfl
set_option maxRecDepth 16384 in
theorem nar_b (p : Bool) : vp_nar .boolean (bI p) = bI p := by cases p <;> rfl
/- the first n numbers with f, as bits -/
def orTo : Nat → (Nat → Bool) → Nat
  | 0, _ => 0
  | n + 1, f => orTo n f ||| (if f n then 2 ^ n else 0)
set_option maxRecDepth 16384 in
theorem orTo_tb (f : Nat → Bool) : ∀ (n i : Nat), (orTo n f).testBit i = (decide (i < n) && f i)
  | 0, i => by simp [orTo]
  | n + 1, i => by
    unfold orTo
    rw [Nat.testBit_or, orTo_tb f n i]
    by_cases h : i = n
    · subst h
      cases hf : f i <;> simp
    · by_cases h2 : i < n
      · have e : ¬ n = i := fun q => h q.symm
        cases hf : f n <;> simp [h2, Nat.testBit_two_pow, e, Nat.lt_succ_of_lt h2]
      · have e : ¬ n = i := fun q => h q.symm
        have e2 : ¬ i < n + 1 := by omega
        cases hf : f n <;> simp [h2, Nat.testBit_two_pow, e, e2]
set_option maxRecDepth 16384 in
theorem orTo_lt (f : Nat → Bool) (n : Nat) : orTo n f < 2 ^ n := Nat.lt_pow_two_of_testBit _ (fun i hi => by
  rw [orTo_tb, decide_eq_false (by omega)]
  rfl)
def sumTo : Nat → (Nat → Nat) → Nat
  | 0, _ => 0
  | n + 1, f => sumTo n f + f n
set_option maxRecDepth 16384 in
theorem sumTo_le {f : Nat → Nat} {b : Nat} (hf : ∀ i, f i ≤ b) : ∀ n, sumTo n f ≤ n * b
  | 0 => Nat.zero_le _
  | n + 1 => by
    unfold sumTo
    have := sumTo_le hf n
    have := hf n
    rw [Nat.succ_mul]
    omega
set_option maxRecDepth 16384 in
theorem sumTo_congr {f g : Nat → Nat} : ∀ (n : Nat), (∀ i, i < n → f i = g i) → sumTo n f = sumTo n g
  | 0, _ => rfl
  | n + 1, h => by
    unfold sumTo
    rw [sumTo_congr n (fun i hi => h i (by omega)), h n (by omega)]
set_option maxRecDepth 16384 in
theorem orTo_congr {f g : Nat → Bool} : ∀ (n : Nat), (∀ i, i < n → f i = g i) → orTo n f = orTo n g
  | 0, _ => rfl
  | n + 1, h => by
    unfold orTo
    rw [orTo_congr n (fun i hi => h i (by omega)), h n (by omega)]
/- the numbers of what is known -/
def gv (K : Nat → Int32) (j : Nat) : Nat := (K j).toNatClampNeg
def gc (K : Nat → Int32) : Nat := gv K 1 * gv K 2
def ga (K : Nat → Int32) : Nat := 2 ^ gc K - 1
def RK (K : Nat → Int32) : Prop :=
  (∀ j, j < 8 → K j = nI (gv K j)) ∧ gv K 0 ≤ 900 ∧ gv K 1 ≤ 4 ∧ gv K 2 ≤ 6 ∧ gc K ≤ 12 ∧ gv K 3 ≤ 6 ∧ gv K 4 ≤ 3 ∧ gv K 5 ≤ 10 ∧ gv K 6 ≤ 10 ∧ gv K 7 < 2 ^ gv K 5 ∧ (gv K 1 = 0 ↔ gv K 2 = 0) ∧
  ∀ i, i < gv K 5 → (K (24 + i) = nI (gv K (24 + i)) ∧ gv K (24 + i) < 6) ∧ (K (34 + i) = nI (gv K (34 + i)) ∧ 1 ≤ gv K (34 + i) ∧ gv K (34 + i) ≤ 9) ∧ (K (44 + i) = nI (gv K (44 + i)) ∧ gv K (44 + i) ≤ 1)
set_option maxRecDepth 16384 in
theorem rk_e {K : Nat → Int32} (H : RK K) : K 0 = nI (gv K 0) ∧ K 1 = nI (gv K 1) ∧ K 2 = nI (gv K 2) ∧ K 3 = nI (gv K 3) ∧ K 4 = nI (gv K 4) ∧ K 5 = nI (gv K 5) ∧ K 6 = nI (gv K 6) ∧ K 7 = nI (gv K 7) :=
  ⟨H.1 0 (by decide), H.1 1 (by decide), H.1 2 (by decide), H.1 3 (by decide), H.1 4 (by decide), H.1 5 (by decide), H.1 6 (by decide), H.1 7 (by decide)⟩
set_option maxRecDepth 16384 in
theorem rk_b {K : Nat → Int32} (H : RK K) : gv K 0 ≤ 900 ∧ gv K 1 ≤ 4 ∧ gv K 2 ≤ 6 ∧ gc K ≤ 12 ∧ gv K 3 ≤ 6 ∧ gv K 4 ≤ 3 ∧ gv K 5 ≤ 10 ∧ gv K 6 ≤ 10 ∧ gv K 7 < 1024 ∧ ga K < 4096 ∧ ga K + 1 = 2 ^ gc K := by
  obtain ⟨-, h0, h1, h2, h3, h4, h5, h6, h7, h8, -⟩ := H
  have a1 : 2 ^ gv K 5 ≤ 2 ^ 10 := Nat.pow_le_pow_right (by decide) h6
  have a2 : 2 ^ gc K ≤ 2 ^ 12 := Nat.pow_le_pow_right (by decide) h3
  have a3 : 0 < 2 ^ gc K := Nat.two_pow_pos _
  have a4 : ga K = 2 ^ gc K - 1 := rfl
  have e1 : (2 : Nat) ^ 10 = 1024 := rfl
  have e2 : (2 : Nat) ^ 12 = 4096 := rfl
  exact ⟨h0, h1, h2, h3, h4, h5, h6, h7, by omega, by omega, by omega⟩
set_option maxRecDepth 16384 in
theorem e_thrown {h : PH} : f_X12_thrown 152 h = some (h.1 152 5, h) := rfl
set_option maxRecDepth 16384 in
theorem e_fails {h : PH} {k : Int32} : f_X12_fails 152 k h = some (0, pI h 152 5 k) := rfl
set_option maxRecDepth 16384 in
theorem e_within {a b c : Int64} {h : PH} : f_X12_within a b c h = some (bI (decide (b ≤ a) && decide (a ≤ c)), h) := by
  unfold f_X12_within
  simp only [pw_lt]
  by_cases h1 : a < b
  · rw [if_pos ((lg_cmp_lt a b).mpr h1), decide_eq_false (Int64.not_le.mpr h1)]
    rfl
  · rw [if_neg (fun q => h1 ((lg_cmp_lt a b).mp q)), decide_eq_true (Int64.not_lt.mp h1)]
    by_cases h2 : c < a
    · rw [if_pos ((lg_cmp_gt a c).mpr h2), decide_eq_false (Int64.not_le.mpr h2)]
      rfl
    · rw [if_neg (fun q => h2 ((lg_cmp_gt a c).mp q)), decide_eq_true (Int64.not_lt.mp h2)]
      rfl
set_option maxRecDepth 16384 in
theorem e_has {s k : Nat} {h : PH} (hs : s < 2147483648) (hk : k < 32) : f_X12_has (nI s) (nI k) h = some (bI (s.testBit k), h) := by
  unfold f_X12_has
  simp (disch := omega) only [pw_lt, pw_cb, pw_cbx, pw_cbxr, pw_lit, pw_litL, pw_oi, pw_oim, pw_oi8, pw_m, pw_ldI, pw_ldL, pw_ldR, pw_stI, pw_stL, pw_nz, pw_ltI, pw_leI, pw_eqI, pw_eqm, pw_eqm2, pw_ltm, pw_mlt, pw_lem, pw_mle, pw_mm, pw_dec, pw_nar0, pw_nar1, nI_add, pw_sub, pw_mul, pw_and, pw_or, pw_andn, pw_shl1, pw_shl, pw_shr, pw_dv, nI_l, lN_i, Bool.false_eq_true, reduceCtorEq, if_false, if_true, ↓reduceIte, pw_tb]
  cases s.testBit k <;> rfl
set_option maxRecDepth 16384 in
theorem e_size {n : Nat} {h : PH} (hn : n < 4096) : f_X12_size (nI n) h = some (nI (pc n), h) := by
  unfold f_X12_size
  have key : ∀ m, m < 4096 → ∀ c N, m < N → c + pc m < 2147483648 → lp b_X12_size_4 N (nI c, nI m) h = some (nI (c + pc m), h) := by
    intro m
    induction m using Nat.strongRecOn with
    | ind m ih =>
      intro hm c N hN hc
      obtain ⟨M, rfl⟩ : ∃ M, N = M + 1 := ⟨N - 1, by omega⟩
      show b_X12_size_4 (lp b_X12_size_4 M) (nI c, nI m) h = _
      generalize hr : lp b_X12_size_4 M = rec
      unfold b_X12_size_4
      by_cases h0 : m = 0
      · subst h0
        simp (disch := omega) only [pw_lt, pw_cb, pw_cbx, pw_cbxr, pw_lit, pw_litL, pw_oi, pw_oim, pw_oi8, pw_m, pw_ldI, pw_ldL, pw_ldR, pw_stI, pw_stL, pw_nz, pw_ltI, pw_leI, pw_eqI, pw_eqm, pw_eqm2, pw_ltm, pw_mlt, pw_lem, pw_mle, pw_mm, pw_dec, pw_nar0, pw_nar1, nI_add, pw_sub, pw_mul, pw_and, pw_or, pw_andn, pw_shl1, pw_shl, pw_shr, pw_dv, nI_l, lN_i, Bool.false_eq_true, reduceCtorEq, if_false, if_true, ↓reduceIte, if_pos, if_neg]
        rfl
      · simp (disch := omega) only [pw_lt, pw_cb, pw_cbx, pw_cbxr, pw_lit, pw_litL, pw_oi, pw_oim, pw_oi8, pw_m, pw_ldI, pw_ldL, pw_ldR, pw_stI, pw_stL, pw_nz, pw_ltI, pw_leI, pw_eqI, pw_eqm, pw_eqm2, pw_ltm, pw_mlt, pw_lem, pw_mle, pw_mm, pw_dec, pw_nar0, pw_nar1, nI_add, pw_sub, pw_mul, pw_and, pw_or, pw_andn, pw_shl1, pw_shl, pw_shr, pw_dv, nI_l, lN_i, Bool.false_eq_true, reduceCtorEq, if_false, if_true, ↓reduceIte, if_pos, if_neg]
        have e := pc_low hm (by omega)
        have l1 : m &&& (m - 1) ≤ m - 1 := Nat.and_le_right
        rw [← hr, ih (m &&& (m - 1)) (by omega) (by omega) (c + 1) M (by omega) (by omega), e]
        rw [show c + 1 + pc (m &&& (m - 1)) = c + (pc (m &&& (m - 1)) + 1) by omega]
  have hp := pc_le hn
  have := key n hn 0 FU (fu_lt (by omega)) (by omega)
  rw [Nat.zero_add] at this
  exact this
set_option maxRecDepth 16384 in
theorem e_bitCount {n : Nat} {h : PH} (hn : n < 4096) : f_J6_bitCount_0f7a4 (nI n) h = some (nI (pc n), h) := by
  have e : f_J6_bitCount_0f7a4 (nI n) h = some (bcx (nI n), h) := rfl
  rw [e, bcx_pc hn]
set_option maxRecDepth 16384 in
theorem e_cells {h : PH} (H : RK (h.1 153)) : f_X12_cells 152 h = some (nI (gc (h.1 153)), h) := by
  obtain ⟨k0, k1, k2, k3, k4, k5, k6, k7⟩ := rk_e H
  unfold f_X12_cells
  simp (disch := omega) only [pw_lt, pw_cb, pw_cbx, pw_cbxr, pw_lit, pw_litL, pw_oi, pw_oim, pw_oi8, pw_m, pw_ldI, pw_ldL, pw_ldR, pw_stI, pw_stL, pw_nz, pw_ltI, pw_leI, pw_eqI, pw_eqm, pw_eqm2, pw_ltm, pw_mlt, pw_lem, pw_mle, pw_mm, pw_dec, pw_nar0, pw_nar1, nI_add, pw_sub, pw_mul, pw_and, pw_or, pw_andn, pw_shl1, pw_shl, pw_shr, pw_dv, nI_l, lN_i, Bool.false_eq_true, reduceCtorEq, if_false, if_true, ↓reduceIte, if_pos, if_neg, r_152_0, k1, k2]
  rfl
set_option maxRecDepth 16384 in
theorem e_everywhere {h : PH} (H : RK (h.1 153)) : f_X12_everywhere 152 h = some (nI (ga (h.1 153)), h) := by
  obtain ⟨b0, b1, b2, b3, b4, b5, b6, b7, b8, b9, b10⟩ := rk_b H
  unfold f_X12_everywhere
  rw [e_cells H]
  simp (disch := omega) only [pw_lt, pw_cb, pw_cbx, pw_cbxr, pw_lit, pw_litL, pw_oi, pw_oim, pw_oi8, pw_m, pw_ldI, pw_ldL, pw_ldR, pw_stI, pw_stL, pw_nz, pw_ltI, pw_leI, pw_eqI, pw_eqm, pw_eqm2, pw_ltm, pw_mlt, pw_lem, pw_mle, pw_mm, pw_dec, pw_nar0, pw_nar1, nI_add, pw_sub, pw_mul, pw_and, pw_or, pw_andn, pw_shl1, pw_shr, pw_dv, nI_l, lN_i, Bool.false_eq_true, reduceCtorEq, if_false, if_true, ↓reduceIte, if_pos, if_neg]
  rfl
set_option maxRecDepth 16384 in
theorem e_isSky {h : PH} {v : Int64} (H : RK (h.1 153)) : f_X12_isSky 152 v h = some (bI (decide (0 ≤ v) && decide (v ≤ lN (ga (h.1 153)))), h) := by
  obtain ⟨b0, b1, b2, b3, b4, b5, b6, b7, b8, b9, b10⟩ := rk_b H
  unfold f_X12_isSky
  rw [e_everywhere H]
  simp (disch := omega) only [pw_lt, pw_cb, pw_cbx, pw_cbxr, pw_lit, pw_oi, pw_oim, pw_oi8, pw_m, pw_ldI, pw_ldL, pw_ldR, pw_stI, pw_stL, pw_nz, pw_ltI, pw_leI, pw_eqI, pw_eqm, pw_eqm2, pw_ltm, pw_mlt, pw_lem, pw_mle, pw_mm, pw_dec, pw_nar0, pw_nar1, nI_add, pw_sub, pw_mul, pw_and, pw_or, pw_andn, pw_shl1, pw_shl, pw_shr, pw_dv, nI_l, lN_i, Bool.false_eq_true, reduceCtorEq, if_false, if_true, ↓reduceIte, if_pos, if_neg, e_within, zr_b]
/- numbers between bounds -/
set_option maxRecDepth 16384 in
theorem in_lN {v : Int64} {n : Nat} (hn : n < 2147483648) : (decide (0 ≤ v) && decide (v ≤ lN n)) = true ↔ ∃ k, k ≤ n ∧ v = lN k := by
  simp only [Bool.and_eq_true, decide_eq_true_eq]
  constructor
  · rintro ⟨h1, h2⟩
    rw [Int64.le_iff_toInt_le] at h1 h2
    rw [lN_toInt hn] at h2
    have z : (0 : Int64).toInt = 0 := by decide +kernel
    rw [z] at h1
    refine ⟨v.toInt.toNat, by omega, Int64.toInt_inj.mp ?_⟩
    rw [lN_toInt (by omega)]
    omega
  · rintro ⟨k, h1, rfl⟩
    exact ⟨(lN_le (a := 0) (by decide) (by omega)).mpr (Nat.zero_le _), (lN_le (by omega) hn).mpr h1⟩
set_option maxRecDepth 16384 in
theorem in_nI {x : Int32} {n : Nat} (hn : n < 2147483648) : (decide (0 ≤ x.toInt64) && decide (x.toInt64 ≤ lN n)) = true ↔ ∃ k, k ≤ n ∧ x = nI k := by
  rw [in_lN hn]
  constructor
  · rintro ⟨k, h1, h2⟩
    refine ⟨k, h1, Int32.toInt_inj.mp ?_⟩
    rw [← Int32.toInt_toInt64, h2, lN_toInt (by omega), nI_toInt (by omega)]
  · rintro ⟨k, h1, rfl⟩
    exact ⟨k, h1, nI_l (by omega)⟩
set_option maxRecDepth 16384 in
theorem e_isOpen {h : PH} {k : Nat} (H : RK (h.1 153)) (hk : k < 32) : f_X12_isOpen 152 (nI k) h = some (bI ((gv (h.1 153) 7).testBit k), h) := by
  obtain ⟨k0, k1, k2, k3, k4, k5, k6, k7⟩ := rk_e H
  obtain ⟨b0, b1, b2, b3, b4, b5, b6, b7, b8, b9, b10⟩ := rk_b H
  unfold f_X12_isOpen
  simp (disch := omega) only [pw_lt, pw_cb, pw_cbx, pw_cbxr, pw_lit, pw_litL, pw_oi, pw_oim, pw_oi8, pw_m, pw_ldI, pw_ldL, pw_ldR, pw_stI, pw_stL, pw_nz, pw_ltI, pw_leI, pw_eqI, pw_eqm, pw_eqm2, pw_ltm, pw_mlt, pw_lem, pw_mle, pw_mm, pw_dec, pw_nar0, pw_nar1, nI_add, pw_sub, pw_mul, pw_and, pw_or, pw_andn, pw_shl1, pw_shl, pw_shr, pw_dv, nI_l, lN_i, Bool.false_eq_true, reduceCtorEq, if_false, if_true, ↓reduceIte, if_pos, if_neg, r_152_0, k7, e_has, zr_b]
set_option maxRecDepth 16384 in
theorem e_doesHold {h : PH} {i w : Nat} {t : Bool} (hi : i < 10) (hw : w < 4096) (ht : h.1 159 (4096 * i + w) = bI t) : f_X12_doesHold 152 (nI i) (nI w) h = some (bI t, h) := by
  unfold f_X12_doesHold
  simp (disch := omega) only [pw_lt, pw_cb, pw_cbx, pw_cbxr, pw_lit, pw_litL, pw_oi, pw_oim, pw_oi8, pw_m, pw_ldI, pw_ldL, pw_ldR, pw_stI, pw_stL, pw_nz, pw_ltI, pw_leI, pw_eqI, pw_eqm, pw_eqm2, pw_ltm, pw_mlt, pw_lem, pw_mle, pw_mm, pw_dec, pw_nar0, pw_nar1, nI_add, pw_sub, pw_mul, pw_and, pw_or, pw_andn, pw_shl1, pw_shl, pw_shr, pw_dv, nI_l, lN_i, Bool.false_eq_true, reduceCtorEq, if_false, if_true, ↓reduceIte, if_pos, if_neg, r_152_18, ht, zr_b]
/- the weight of a set -/
def wt (K : Nat → Int32) (s : Nat) : Nat := sumTo (gv K 5) (fun i => if s.testBit i then gv K (34 + i) else 0)
set_option maxRecDepth 16384 in
theorem e_weight {h : PH} {s : Nat} (H : RK (h.1 153)) (hs : s < 2147483648) : f_X12_weight 152 (nI s) h = some (nI (wt (h.1 153) s), h) := by
  obtain ⟨k0, k1, k2, k3, k4, k5, k6, k7⟩ := rk_e H
  obtain ⟨b0, b1, b2, b3, b4, b5, b6, b7, b8, b9, b10⟩ := rk_b H
  have hW := H.2.2.2.2.2.2.2.2.2.2.2
  unfold f_X12_weight
  simp only [pw_lt, pw_lit]
  refine lp_run (fun i => (nI (sumTo i (fun i => if s.testBit i then gv (h.1 153) (34 + i) else 0)), nI i)) (fun _ => h) (gv (h.1 153) 5) _ ?_ ?_ FU (fu_lt (by omega))
  · intro i hi rec
    obtain ⟨-, ⟨w1, w2, w3⟩, -⟩ := hW i hi
    unfold b_X12_weight_4
    simp (disch := omega) only [pw_lt, pw_cb, pw_cbx, pw_cbxr, pw_lit, pw_litL, pw_oi, pw_oim, pw_oi8, pw_m, pw_ldI, pw_ldL, pw_ldR, pw_stI, pw_stL, pw_nz, pw_ltI, pw_leI, pw_eqI, pw_eqm, pw_eqm2, pw_ltm, pw_mlt, pw_lem, pw_mle, pw_mm, pw_dec, pw_nar0, pw_nar1, nI_add, pw_sub, pw_mul, pw_and, pw_or, pw_andn, pw_shl1, pw_shl, pw_shr, pw_dv, nI_l, lN_i, Bool.false_eq_true, reduceCtorEq, if_false, if_true, ↓reduceIte, if_pos, if_neg, r_152_0, k5, e_has, bI_0', w1, sumTo]
    cases hb : s.testBit i <;> simp (disch := omega) only [pw_lt, pw_cb, pw_cbx, pw_cbxr, pw_lit, pw_litL, pw_oi, pw_oim, pw_oi8, pw_m, pw_ldI, pw_ldL, pw_ldR, pw_stI, pw_stL, pw_nz, pw_ltI, pw_leI, pw_eqI, pw_eqm, pw_eqm2, pw_ltm, pw_mlt, pw_lem, pw_mle, pw_mm, pw_dec, pw_nar0, pw_nar1, nI_add, pw_sub, pw_mul, pw_and, pw_or, pw_andn, pw_shl1, pw_shl, pw_shr, pw_dv, nI_l, lN_i, Bool.false_eq_true, reduceCtorEq, if_false, if_true, ↓reduceIte, if_pos, if_neg, Nat.add_zero]
  · intro rec
    unfold b_X12_weight_4
    simp (disch := omega) only [pw_lt, pw_cb, pw_cbx, pw_cbxr, pw_lit, pw_litL, pw_oi, pw_oim, pw_oi8, pw_m, pw_ldI, pw_ldL, pw_ldR, pw_stI, pw_stL, pw_nz, pw_ltI, pw_leI, pw_eqI, pw_eqm, pw_eqm2, pw_ltm, pw_mlt, pw_lem, pw_mle, pw_mm, pw_dec, pw_nar0, pw_nar1, nI_add, pw_sub, pw_mul, pw_and, pw_or, pw_andn, pw_shl1, pw_shl, pw_shr, pw_dv, nI_l, lN_i, Bool.false_eq_true, reduceCtorEq, if_false, if_true, ↓reduceIte, if_pos, if_neg, r_152_0, k5]
    rfl
/- which open wishes hold in a weather, by the table of truths -/
def gr (K T : Nat → Int32) (w : Nat) : Nat := orTo (gv K 5) (fun i => (gv K 7).testBit i && decide (T (4096 * i + w) = 1))
/- the table of truths holds truths -/
def TT (K T : Nat → Int32) : Prop := ∀ i, i < gv K 5 → ∀ w, w ≤ ga K → T (4096 * i + w) = bI (decide (T (4096 * i + w) = 1))
set_option maxRecDepth 16384 in
theorem e_grantedIn {h : PH} {w : Nat} (H : RK (h.1 153)) (hT : TT (h.1 153) (h.1 159)) (hw : w ≤ ga (h.1 153)) : f_X12_grantedIn 152 (nI w) h = some (nI (gr (h.1 153) (h.1 159) w), h) := by
  obtain ⟨k0, k1, k2, k3, k4, k5, k6, k7⟩ := rk_e H
  obtain ⟨b0, b1, b2, b3, b4, b5, b6, b7, b8, b9, b10⟩ := rk_b H
  unfold f_X12_grantedIn
  simp only [pw_lt, pw_lit]
  refine lp_run (fun i => (nI (orTo i (fun i => (gv (h.1 153) 7).testBit i && decide (h.1 159 (4096 * i + w) = 1))), nI i)) (fun _ => h) (gv (h.1 153) 5) _ ?_ ?_ FU (fu_lt (by omega))
  · intro i hi rec
    have e1 := e_doesHold (by omega) (by omega) (hT i hi w hw)
    unfold b_X12_grantedIn_4
    simp (disch := omega) only [pw_lt, pw_cb, pw_cbx, pw_cbxr, pw_lit, pw_litL, pw_oi, pw_oim, pw_oi8, pw_m, pw_ldI, pw_ldL, pw_ldR, pw_stI, pw_stL, pw_nz, pw_ltI, pw_leI, pw_eqI, pw_eqm, pw_eqm2, pw_ltm, pw_mlt, pw_lem, pw_mle, pw_mm, pw_dec, pw_nar0, pw_nar1, nI_add, pw_sub, pw_mul, pw_and, pw_or, pw_andn, pw_shl1, pw_shr, pw_dv, nI_l, lN_i, Bool.false_eq_true, reduceCtorEq, if_false, if_true, ↓reduceIte, if_pos, if_neg, r_152_0, k5, e_isOpen H, bI_0', e1, orTo]
    cases h1 : (gv (h.1 153) 7).testBit i
    · simp (disch := omega) only [pw_lt, pw_cb, pw_cbx, pw_cbxr, pw_lit, pw_litL, pw_oi, pw_oim, pw_oi8, pw_m, pw_ldI, pw_ldL, pw_ldR, pw_stI, pw_stL, pw_nz, pw_ltI, pw_leI, pw_eqI, pw_eqm, pw_eqm2, pw_ltm, pw_mlt, pw_lem, pw_mle, pw_mm, pw_dec, pw_nar0, pw_nar1, nI_add, pw_sub, pw_mul, pw_and, pw_or, pw_andn, pw_shl1, pw_shl, pw_shr, pw_dv, nI_l, lN_i, Bool.false_eq_true, reduceCtorEq, if_false, if_true, ↓reduceIte, if_pos, if_neg, Nat.or_zero, Bool.false_and]
    · by_cases h2 : h.1 159 (4096 * i + w) = nI 1
      · simp (disch := omega) only [pw_lt, pw_cb, pw_cbx, pw_cbxr, pw_lit, pw_litL, pw_oi, pw_oim, pw_oi8, pw_m, pw_ldI, pw_ldL, pw_ldR, pw_stI, pw_stL, pw_nz, pw_ltI, pw_leI, pw_eqI, pw_eqm, pw_eqm2, pw_ltm, pw_mlt, pw_lem, pw_mle, pw_mm, pw_dec, pw_nar0, pw_nar1, nI_add, pw_sub, pw_mul, pw_and, pw_or, pw_andn, pw_shl1, pw_shl, pw_shr, pw_dv, nI_l, lN_i, Bool.false_eq_true, reduceCtorEq, if_false, if_true, ↓reduceIte, if_pos, if_neg, h2, decide_true, Bool.and_self, bI_0']
      · simp (disch := omega) only [pw_lt, pw_cb, pw_cbx, pw_cbxr, pw_lit, pw_litL, pw_oi, pw_oim, pw_oi8, pw_m, pw_ldI, pw_ldL, pw_ldR, pw_stI, pw_stL, pw_nz, pw_ltI, pw_leI, pw_eqI, pw_eqm, pw_eqm2, pw_ltm, pw_mlt, pw_lem, pw_mle, pw_mm, pw_dec, pw_nar0, pw_nar1, nI_add, pw_sub, pw_mul, pw_and, pw_or, pw_andn, pw_shl1, pw_shl, pw_shr, pw_dv, nI_l, lN_i, Bool.false_eq_true, reduceCtorEq, if_false, if_true, ↓reduceIte, if_pos, if_neg, h2, decide_false, Bool.and_false, bI_0']
  · intro rec
    unfold b_X12_grantedIn_4
    simp (disch := omega) only [pw_lt, pw_cb, pw_cbx, pw_cbxr, pw_lit, pw_litL, pw_oi, pw_oim, pw_oi8, pw_m, pw_ldI, pw_ldL, pw_ldR, pw_stI, pw_stL, pw_nz, pw_ltI, pw_leI, pw_eqI, pw_eqm, pw_eqm2, pw_ltm, pw_mlt, pw_lem, pw_mle, pw_mm, pw_dec, pw_nar0, pw_nar1, nI_add, pw_sub, pw_mul, pw_and, pw_or, pw_andn, pw_shl1, pw_shl, pw_shr, pw_dv, nI_l, lN_i, Bool.false_eq_true, reduceCtorEq, if_false, if_true, ↓reduceIte, if_pos, if_neg, r_152_0, k5]
    rfl
/- the open wishes that must be -/
def mu (K : Nat → Int32) : Nat := orTo (gv K 5) (fun i => (gv K 7).testBit i && decide (gv K (44 + i) = 1))
set_option maxRecDepth 16384 in
theorem e_musts {h : PH} (H : RK (h.1 153)) : f_X12_musts 152 h = some (nI (mu (h.1 153)), h) := by
  obtain ⟨k0, k1, k2, k3, k4, k5, k6, k7⟩ := rk_e H
  obtain ⟨b0, b1, b2, b3, b4, b5, b6, b7, b8, b9, b10⟩ := rk_b H
  have hW := H.2.2.2.2.2.2.2.2.2.2.2
  unfold f_X12_musts
  simp only [pw_lt, pw_lit]
  refine lp_run (fun i => (nI (orTo i (fun i => (gv (h.1 153) 7).testBit i && decide (gv (h.1 153) (44 + i) = 1))), nI i)) (fun _ => h) (gv (h.1 153) 5) _ ?_ ?_ FU (fu_lt (by omega))
  · intro i hi rec
    obtain ⟨-, -, ⟨w1, w2⟩⟩ := hW i hi
    unfold b_X12_musts_4
    simp (disch := omega) only [pw_lt, pw_cb, pw_cbx, pw_cbxr, pw_lit, pw_litL, pw_oi, pw_oim, pw_oi8, pw_m, pw_ldI, pw_ldL, pw_ldR, pw_stI, pw_stL, pw_nz, pw_ltI, pw_leI, pw_eqI, pw_eqm, pw_eqm2, pw_ltm, pw_mlt, pw_lem, pw_mle, pw_mm, pw_dec, pw_nar0, pw_nar1, nI_add, pw_sub, pw_mul, pw_and, pw_or, pw_andn, pw_shl1, pw_shr, pw_dv, nI_l, lN_i, Bool.false_eq_true, reduceCtorEq, if_false, if_true, ↓reduceIte, if_pos, if_neg, r_152_0, k5, e_isOpen H, bI_0', w1, orTo]
    rcases tf ((gv (h.1 153) 7).testBit i) with h1 | h1
    · simp (disch := omega) only [pw_lt, pw_cb, pw_cbx, pw_cbxr, pw_lit, pw_litL, pw_oi, pw_oim, pw_oi8, pw_m, pw_ldI, pw_ldL, pw_ldR, pw_stI, pw_stL, pw_nz, pw_ltI, pw_leI, pw_eqI, pw_eqm, pw_eqm2, pw_ltm, pw_mlt, pw_lem, pw_mle, pw_mm, pw_dec, pw_nar0, pw_nar1, nI_add, pw_sub, pw_mul, pw_and, pw_or, pw_andn, pw_shl1, pw_shl, pw_shr, pw_dv, nI_l, lN_i, Bool.false_eq_true, reduceCtorEq, if_false, if_true, ↓reduceIte, if_pos, if_neg, h1, Nat.or_zero, Bool.false_and]
    · by_cases h2 : gv (h.1 153) (44 + i) = 1
      · simp (disch := omega) only [pw_lt, pw_cb, pw_cbx, pw_cbxr, pw_lit, pw_litL, pw_oi, pw_oim, pw_oi8, pw_m, pw_ldI, pw_ldL, pw_ldR, pw_stI, pw_stL, pw_nz, pw_ltI, pw_leI, pw_eqI, pw_eqm, pw_eqm2, pw_ltm, pw_mlt, pw_lem, pw_mle, pw_mm, pw_dec, pw_nar0, pw_nar1, nI_add, pw_sub, pw_mul, pw_and, pw_or, pw_andn, pw_shl1, pw_shl, pw_shr, pw_dv, nI_l, lN_i, Bool.false_eq_true, reduceCtorEq, if_false, if_true, ↓reduceIte, if_pos, if_neg, h1, h2, decide_true, Bool.and_self]
      · simp (disch := omega) only [pw_lt, pw_cb, pw_cbx, pw_cbxr, pw_lit, pw_litL, pw_oi, pw_oim, pw_oi8, pw_m, pw_ldI, pw_ldL, pw_ldR, pw_stI, pw_stL, pw_nz, pw_ltI, pw_leI, pw_eqI, pw_eqm, pw_eqm2, pw_ltm, pw_mlt, pw_lem, pw_mle, pw_mm, pw_dec, pw_nar0, pw_nar1, nI_add, pw_sub, pw_mul, pw_and, pw_or, pw_andn, pw_shl1, pw_shl, pw_shr, pw_dv, nI_l, lN_i, Bool.false_eq_true, reduceCtorEq, if_false, if_true, ↓reduceIte, if_pos, if_neg, h1, h2, decide_false, Bool.and_false]
  · intro rec
    unfold b_X12_musts_4
    simp (disch := omega) only [pw_lt, pw_cb, pw_cbx, pw_cbxr, pw_lit, pw_litL, pw_oi, pw_oim, pw_oi8, pw_m, pw_ldI, pw_ldL, pw_ldR, pw_stI, pw_stL, pw_nz, pw_ltI, pw_leI, pw_eqI, pw_eqm, pw_eqm2, pw_ltm, pw_mlt, pw_lem, pw_mle, pw_mm, pw_dec, pw_nar0, pw_nar1, nI_add, pw_sub, pw_mul, pw_and, pw_or, pw_andn, pw_shl1, pw_shl, pw_shr, pw_dv, nI_l, lN_i, Bool.false_eq_true, reduceCtorEq, if_false, if_true, ↓reduceIte, if_pos, if_neg, r_152_0, k5]
    rfl
/- the weather of a plan: what is blown on from the first n cells -/
def wc (nd wi c : Nat) : Bool := decide (0 < wi ∧ wi ≤ c / nd ∧ 0 < c % nd)
def wxn (nd wi gc p n : Nat) : Nat := orTo gc (fun c => p.testBit c || (wc nd wi c && p.testBit (c - (nd * wi + 1)) && decide (c - (nd * wi + 1) < n)))
def wx (K : Nat → Int32) (p : Nat) : Nat := wxn (gv K 2) (gv K 4) (gc K) p (gc K)
set_option maxRecDepth 16384 in
theorem wx_lt (K : Nat → Int32) (p : Nat) : wx K p < 2 ^ gc K := orTo_lt _ _
set_option maxRecDepth 16384 in
theorem wx_le (K : Nat → Int32) (p : Nat) : wx K p ≤ ga K := by
  have := wx_lt K p
  unfold ga
  omega
set_option maxRecDepth 16384 in
theorem wxn_0 {nd wi gc p : Nat} (hp : p < 2 ^ gc) : wxn nd wi gc p 0 = p := by
  apply Nat.eq_of_testBit_eq
  intro c
  unfold wxn
  rw [orTo_tb]
  by_cases hc : c < gc
  · simp [hc]
  · rw [Nat.testBit_lt_two_pow (Nat.lt_of_lt_of_le hp (Nat.pow_le_pow_right (by decide) (by omega)))]
    simp [hc]
set_option maxRecDepth 16384 in
theorem wc_off {nd wi c : Nat} (hnd : 0 < nd) (h : wc nd wi c = true) : nd * wi + 1 ≤ c := by
  unfold wc at h
  simp only [decide_eq_true_eq] at h
  obtain ⟨h1, h2, h3⟩ := h
  have h4 := Nat.div_add_mod c nd
  have h5 : nd * wi ≤ nd * (c / nd) := Nat.mul_le_mul_left nd h2
  omega
set_option maxRecDepth 16384 in
theorem wxn_s {nd np wi p i : Nat} (hnd : 0 < nd) (hwi : 0 < wi) (hi : i < np * nd) : wxn nd wi (np * nd) p (i + 1) = wxn nd wi (np * nd) p i ||| (if p.testBit i && decide (i / nd + wi < np) && decide (i % nd + 1 < nd) then 2 ^ (nd * (i / nd + wi) + (i % nd + 1)) else 0) := by
  have h4 := Nat.div_add_mod i nd
  have h5 := Nat.mod_lt i hnd
  have ht : nd * (i / nd + wi) + (i % nd + 1) = i + (nd * wi + 1) := by rw [Nat.mul_add]; omega
  rw [ht]
  apply Nat.eq_of_testBit_eq
  intro c
  unfold wxn
  rw [Nat.testBit_or, orTo_tb, orTo_tb]
  by_cases hc : c < np * nd
  · by_cases hw : wc nd wi c = true
    · have ho := wc_off hnd hw
      by_cases hci : c = i + (nd * wi + 1)
      · have e1 : c - (nd * wi + 1) = i := by omega
        have hq : i / nd + wi < np ∧ i % nd + 1 < nd := by
          unfold wc at hw
          simp only [decide_eq_true_eq] at hw
          obtain ⟨q1, q2, q3⟩ := hw
          have hm : i % nd + 1 < nd := by
            rcases Nat.lt_or_ge (i % nd + 1) nd with z | z
            · exact z
            · exfalso
              have : c = nd * (i / nd + wi + 1) := by rw [hci, Nat.mul_add, Nat.mul_add, Nat.mul_one]; omega
              rw [this, Nat.mul_mod_right] at q3
              omega
          refine ⟨?_, hm⟩
          rcases Nat.lt_or_ge (i / nd + wi) np with z | z
          · exact z
          · exfalso
            have : nd * np ≤ nd * (i / nd + wi) := Nat.mul_le_mul_left nd z
            rw [Nat.mul_comm np nd] at hc
            omega
        rw [e1]
        simp only [hc, hw, hq.1, hq.2, decide_true, Bool.true_and, Bool.and_true, Nat.lt_irrefl, decide_false, Bool.and_false, Bool.or_false, Nat.lt_succ_self, ← hci]
        cases p.testBit i <;> simp [hci, Nat.testBit_two_pow]
      · have e1 : ¬ c - (nd * wi + 1) = i := by omega
        have e2 : (c - (nd * wi + 1) < i + 1) = (c - (nd * wi + 1) < i) := by apply propext; omega
        have e3 : ¬ i + (nd * wi + 1) = c := fun q => hci q.symm
        simp only [e2]
        split
        · simp [Nat.testBit_two_pow, e3]
        · simp
    · have hw : wc nd wi c = false := by simpa using hw
      have e4 : ¬ (i + (nd * wi + 1) = c ∧ i / nd + wi < np ∧ i % nd + 1 < nd) := by
        rintro ⟨q1, q2, q3⟩
        have hc1 : c = nd * (i / nd + wi) + (i % nd + 1) := by rw [ht]; exact q1.symm
        have d1 : c / nd = i / nd + wi := by rw [hc1, Nat.mul_add_div hnd, Nat.div_eq_of_lt q3, Nat.add_zero]
        have d2 : c % nd = i % nd + 1 := by rw [hc1, Nat.mul_add_mod, Nat.mod_eq_of_lt q3]
        unfold wc at hw
        simp only [decide_eq_false_iff_not] at hw
        exact hw ⟨hwi, by rw [d1]; exact Nat.le_add_left _ _, by rw [d2]; exact Nat.succ_pos _⟩
      by_cases hq : p.testBit i && decide (i / nd + wi < np) && decide (i % nd + 1 < nd)
      · rw [if_pos hq]
        simp only [Bool.and_eq_true, decide_eq_true_eq] at hq
        have e3 : ¬ i + (nd * wi + 1) = c := fun q => e4 ⟨q, hq.1.2, hq.2⟩
        simp [hc, hw, Nat.testBit_two_pow, e3]
      · rw [if_neg hq]
        simp [hc, hw]
  · by_cases hq : p.testBit i && decide (i / nd + wi < np) && decide (i % nd + 1 < nd)
    · rw [if_pos hq]
      simp only [Bool.and_eq_true, decide_eq_true_eq] at hq
      have e3 : ¬ i + (nd * wi + 1) = c := by
        intro q
        have hle : nd * (i / nd + wi + 1) ≤ nd * np := Nat.mul_le_mul_left nd hq.1.2
        rw [Nat.mul_comm np nd] at hc
        have : nd * (i / nd + wi + 1) = nd * (i / nd + wi) + nd := by rw [Nat.mul_add, Nat.mul_one]
        have hq2 := hq.2
        omega
      simp [hc, Nat.testBit_two_pow, e3]
    · rw [if_neg hq]
      simp [hc]
set_option maxRecDepth 16384 in
theorem wxn_w0 {nd gc p n : Nat} (hp : p < 2 ^ gc) : wxn nd 0 gc p n = p := by
  apply Nat.eq_of_testBit_eq
  intro c
  unfold wxn
  rw [orTo_tb]
  have : wc nd 0 c = false := by simp [wc]
  rw [this]
  by_cases hc : c < gc
  · simp [hc]
  · rw [Nat.testBit_lt_two_pow (Nat.lt_of_lt_of_le hp (Nat.pow_le_pow_right (by decide) (by omega)))]
    simp [hc]
set_option maxRecDepth 16384 in
theorem e_blown {h : PH} {p : Nat} (H : RK (h.1 153)) (hp : p ≤ ga (h.1 153)) : f_X12_blown 152 (nI p) h = some (nI (wx (h.1 153) p), h) := by
  obtain ⟨k0, k1, k2, k3, k4, k5, k6, k7⟩ := rk_e H
  obtain ⟨b0, b1, b2, b3, b4, b5, b6, b7, b8, b9, b10⟩ := rk_b H
  have hp2 : p < 2 ^ gc (h.1 153) := by omega
  have hgc : gc (h.1 153) = gv (h.1 153) 1 * gv (h.1 153) 2 := rfl
  unfold f_X12_blown
  simp (disch := omega) only [pw_lt, pw_cb, pw_cbx, pw_cbxr, pw_lit, pw_litL, pw_oi, pw_oim, pw_oi8, pw_m, pw_ldI, pw_ldL, pw_ldR, pw_stI, pw_stL, pw_nz, pw_ltI, pw_leI, pw_eqI, pw_eqm, pw_eqm2, pw_ltm, pw_mlt, pw_lem, pw_mle, pw_mm, pw_dec, pw_nar0, pw_nar1, nI_add, pw_sub, pw_mul, pw_and, pw_or, pw_andn, pw_shl1, pw_shl, pw_shr, pw_dv, nI_l, lN_i, Bool.false_eq_true, reduceCtorEq, if_false, if_true, ↓reduceIte, if_pos, if_neg, r_152_0, k2]
  by_cases hw0 : gv (h.1 153) 4 = 0
  · refine (lp_run (fun _ => (nI p, nI 0)) (fun _ => h) 0 (some (nI (wx (h.1 153) p), h)) (fun i hi => absurd hi (by omega)) ?_ FU (fu_lt (by omega)))
    intro rec
    have : wx (h.1 153) p = p := by unfold wx; rw [hw0, wxn_w0 hp2]
    unfold b_X12_blown_12
    rw [e_cells H, this]
    simp (disch := omega) only [pw_lt, pw_cb, pw_cbx, pw_cbxr, pw_lit, pw_litL, pw_oi, pw_oim, pw_oi8, pw_m, pw_ldI, pw_ldL, pw_ldR, pw_stI, pw_stL, pw_nz, pw_ltI, pw_leI, pw_eqI, pw_eqm, pw_eqm2, pw_ltm, pw_mlt, pw_lem, pw_mle, pw_mm, pw_dec, pw_nar0, pw_nar1, nI_add, pw_sub, pw_mul, pw_and, pw_or, pw_andn, pw_shl1, pw_shl, pw_shr, pw_dv, nI_l, lN_i, Bool.false_eq_true, reduceCtorEq, if_false, if_true, ↓reduceIte, if_pos, if_neg, r_152_0, k4, hw0, Nat.le_refl, ite_self]
  · have key := lp_run (body := b_X12_blown_12 152 (nI p) (nI (gv (h.1 153) 2)) (fun y5 h6 => some (y5, h6))) (fun i => (nI (wxn (gv (h.1 153) 2) (gv (h.1 153) 4) (gc (h.1 153)) p i), nI i)) (fun _ => h) (gc (h.1 153)) (some (nI (wx (h.1 153) p), h)) ?_ ?_ FU (fu_lt (by omega))
    · simp only [wxn_0 hp2] at key
      exact key
    · intro i hi rec
      have hnd : 0 < gv (h.1 153) 2 := by
        rcases Nat.eq_zero_or_pos (gv (h.1 153) 2) with z | z
        · rw [hgc, z] at hi
          omega
        · exact z
      have hd1 : i / gv (h.1 153) 2 ≤ i := Nat.div_le_self _ _
      have hd2 := Nat.div_add_mod i (gv (h.1 153) 2)
      have hd3 := Nat.mod_lt i hnd
      have hd4 : i / gv (h.1 153) 2 * gv (h.1 153) 2 = gv (h.1 153) 2 * (i / gv (h.1 153) 2) := Nat.mul_comm _ _
      have em : i - gv (h.1 153) 2 * (i / gv (h.1 153) 2) = i % gv (h.1 153) 2 := by omega
      unfold b_X12_blown_12
      rw [e_cells H]
      simp (disch := omega) only [pw_lt, pw_cb, pw_cbx, pw_cbxr, pw_lit, pw_litL, pw_oi, pw_oim, pw_oi8, pw_m, pw_ldI, pw_ldL, pw_ldR, pw_stI, pw_stL, pw_nz, pw_ltI, pw_leI, pw_eqI, pw_eqm, pw_eqm2, pw_ltm, pw_mlt, pw_lem, pw_mle, pw_mm, pw_dec, pw_nar0, pw_nar1, nI_add, pw_sub, pw_mul, pw_and, pw_or, pw_andn, pw_shl1, pw_shl, pw_shr, pw_dv, nI_l, lN_i, Bool.false_eq_true, reduceCtorEq, if_false, if_true, ↓reduceIte, if_pos, if_neg, r_152_0, k4, k1, e_has, bI_0', hd4, em]
      have hs := wxn_s (np := gv (h.1 153) 1) (p := p) hnd (show 0 < gv (h.1 153) 4 by omega) (by rw [← hgc]; exact hi)
      rw [← hgc] at hs
      rw [hs]
      cases h1 : p.testBit i
      · simp (disch := omega) only [pw_lt, pw_cb, pw_cbx, pw_cbxr, pw_lit, pw_litL, pw_oi, pw_oim, pw_oi8, pw_m, pw_ldI, pw_ldL, pw_ldR, pw_stI, pw_stL, pw_nz, pw_ltI, pw_leI, pw_eqI, pw_eqm, pw_eqm2, pw_ltm, pw_mlt, pw_lem, pw_mle, pw_mm, pw_dec, pw_nar0, pw_nar1, nI_add, pw_sub, pw_mul, pw_and, pw_or, pw_andn, pw_shl1, pw_shl, pw_shr, pw_dv, nI_l, lN_i, Bool.false_eq_true, reduceCtorEq, if_false, if_true, ↓reduceIte, if_pos, if_neg, Nat.or_zero, Bool.false_and]
      · by_cases h2 : i / gv (h.1 153) 2 + gv (h.1 153) 4 < gv (h.1 153) 1
        · by_cases h3 : i % gv (h.1 153) 2 + 1 < gv (h.1 153) 2
          · have hsh : gv (h.1 153) 2 * (i / gv (h.1 153) 2 + gv (h.1 153) 4) + (i % gv (h.1 153) 2 + 1) < 31 := by
              have z1 : gv (h.1 153) 2 * (i / gv (h.1 153) 2 + gv (h.1 153) 4 + 1) ≤ gv (h.1 153) 2 * gv (h.1 153) 1 := Nat.mul_le_mul_left _ h2
              have z2 : gv (h.1 153) 2 * gv (h.1 153) 1 = gc (h.1 153) := Nat.mul_comm _ _
              rw [Nat.mul_add] at z1
              omega
            simp (disch := omega) only [pw_lt, pw_cb, pw_cbx, pw_cbxr, pw_lit, pw_litL, pw_oi, pw_oim, pw_oi8, pw_m, pw_ldI, pw_ldL, pw_ldR, pw_stI, pw_stL, pw_nz, pw_ltI, pw_leI, pw_eqI, pw_eqm, pw_eqm2, pw_ltm, pw_mlt, pw_lem, pw_mle, pw_mm, pw_dec, pw_nar0, pw_nar1, nI_add, pw_sub, pw_mul, pw_and, pw_or, pw_andn, pw_shl1, pw_shr, pw_dv, nI_l, lN_i, Bool.false_eq_true, reduceCtorEq, if_false, if_true, ↓reduceIte, if_pos, if_neg, h2, h3, decide_true, Bool.and_self]
          · simp (disch := omega) only [pw_lt, pw_cb, pw_cbx, pw_cbxr, pw_lit, pw_litL, pw_oi, pw_oim, pw_oi8, pw_m, pw_ldI, pw_ldL, pw_ldR, pw_stI, pw_stL, pw_nz, pw_ltI, pw_leI, pw_eqI, pw_eqm, pw_eqm2, pw_ltm, pw_mlt, pw_lem, pw_mle, pw_mm, pw_dec, pw_nar0, pw_nar1, nI_add, pw_sub, pw_mul, pw_and, pw_or, pw_andn, pw_shl1, pw_shl, pw_shr, pw_dv, nI_l, lN_i, Bool.false_eq_true, reduceCtorEq, if_false, if_true, ↓reduceIte, if_pos, if_neg, h2, h3, decide_true, decide_false, Bool.and_false, Nat.or_zero]
        · simp (disch := omega) only [pw_lt, pw_cb, pw_cbx, pw_cbxr, pw_lit, pw_litL, pw_oi, pw_oim, pw_oi8, pw_m, pw_ldI, pw_ldL, pw_ldR, pw_stI, pw_stL, pw_nz, pw_ltI, pw_leI, pw_eqI, pw_eqm, pw_eqm2, pw_ltm, pw_mlt, pw_lem, pw_mle, pw_mm, pw_dec, pw_nar0, pw_nar1, nI_add, pw_sub, pw_mul, pw_and, pw_or, pw_andn, pw_shl1, pw_shl, pw_shr, pw_dv, nI_l, lN_i, Bool.false_eq_true, reduceCtorEq, if_false, if_true, ↓reduceIte, if_pos, if_neg, h2, decide_true, decide_false, Bool.and_false, Bool.false_and, Nat.or_zero]
    · intro rec
      unfold b_X12_blown_12
      rw [e_cells H]
      simp (disch := omega) only [pw_lt, pw_cb, pw_cbx, pw_cbxr, pw_lit, pw_litL, pw_oi, pw_oim, pw_oi8, pw_m, pw_ldI, pw_ldL, pw_ldR, pw_stI, pw_stL, pw_nz, pw_ltI, pw_leI, pw_eqI, pw_eqm, pw_eqm2, pw_ltm, pw_mlt, pw_lem, pw_mle, pw_mm, pw_dec, pw_nar0, pw_nar1, nI_add, pw_sub, pw_mul, pw_and, pw_or, pw_andn, pw_shl1, pw_shl, pw_shr, pw_dv, nI_l, lN_i, Bool.false_eq_true, reduceCtorEq, if_false, if_true, ↓reduceIte, if_pos, if_neg, r_152_0, Nat.le_refl]
      rfl
/- the weathers are laid -/
def WW (K W : Nat → Int32) : Prop := ∀ p, p ≤ ga K → W p = nI (wx K p)
/- why a plan of cells can't be (2, 3; 0: it can) -/
def wy (K T : Nat → Int32) (p : Nat) : Nat := if gv K 3 < pc p then 2 else if sdf (mu K) (gr K T (wx K p)) = 0 then 0 else 3
set_option maxRecDepth 16384 in
theorem wy_le (K T : Nat → Int32) (p : Nat) : wy K T p ≤ 3 := by
  unfold wy
  split
  · omega
  · split <;> omega
set_option maxRecDepth 16384 in
theorem mu_lt {K : Nat → Int32} (H : RK K) : mu K < 1024 := by
  have h1 := H.2.2.2.2.2.2.2.1
  have h2 := orTo_lt (fun i => (gv K 7).testBit i && decide (gv K (44 + i) = 1)) (gv K 5)
  have h3 : 2 ^ gv K 5 ≤ 2 ^ 10 := Nat.pow_le_pow_right (by decide) h1
  exact Nat.lt_of_lt_of_le h2 h3
set_option maxRecDepth 16384 in
theorem gr_lt {K T : Nat → Int32} (H : RK K) (w : Nat) : gr K T w < 1024 := by
  have h1 := H.2.2.2.2.2.2.2.1
  have h2 := orTo_lt (fun i => (gv K 7).testBit i && decide (T (4096 * i + w) = 1)) (gv K 5)
  have h3 : 2 ^ gv K 5 ≤ 2 ^ 10 := Nat.pow_le_pow_right (by decide) h1
  exact Nat.lt_of_lt_of_le h2 h3
set_option maxRecDepth 16384 in
theorem e_whyNot {h : PH} {p : Nat} (H : RK (h.1 153)) (hT : TT (h.1 153) (h.1 159)) (hW : WW (h.1 153) (h.1 160)) (hp : p ≤ ga (h.1 153)) : f_X12_whyNot 152 (lN p) h = some (nI (wy (h.1 153) (h.1 159) p), h) := by
  obtain ⟨k0, k1, k2, k3, k4, k5, k6, k7⟩ := rk_e H
  obtain ⟨b0, b1, b2, b3, b4, b5, b6, b7, b8, b9, b10⟩ := rk_b H
  have m1 := mu_lt H
  have m2 := gr_lt (T := h.1 159) H (wx (h.1 153) p)
  have m3 := pc_le (show p < 4096 by omega)
  have m4 := sdf_le (mu (h.1 153)) (gr (h.1 153) (h.1 159) (wx (h.1 153) p))
  have m5 := wx_le (h.1 153) p
  unfold f_X12_whyNot
  rw [e_isSky H, (in_lN (by omega)).mpr ⟨p, hp, rfl⟩]
  simp (disch := omega) only [pw_lt, pw_cb, pw_cbx, pw_cbxr, pw_lit, pw_litL, pw_oi, pw_oim, pw_oi8, pw_m, pw_ldI, pw_ldL, pw_ldR, pw_stI, pw_stL, pw_nz, pw_ltI, pw_leI, pw_eqI, pw_eqm, pw_eqm2, pw_ltm, pw_mlt, pw_lem, pw_mle, pw_mm, pw_dec, pw_nar0, pw_nar1, nI_add, pw_sub, pw_mul, pw_and, pw_or, pw_andn, pw_shl1, pw_shl, pw_shr, pw_dv, nI_l, lN_i, Bool.false_eq_true, reduceCtorEq, if_false, if_true, ↓reduceIte, if_pos, if_neg, bI_0', r_152_0, r_152_19, k3, e_size, e_musts H, hW p hp, e_grantedIn H hT]
  unfold wy
  by_cases h1 : gv (h.1 153) 3 < pc p
  · simp (disch := omega) only [pw_lt, pw_cb, pw_cbx, pw_cbxr, pw_lit, pw_litL, pw_oi, pw_oim, pw_oi8, pw_m, pw_ldI, pw_ldL, pw_ldR, pw_stI, pw_stL, pw_nz, pw_ltI, pw_leI, pw_eqI, pw_eqm, pw_eqm2, pw_ltm, pw_mlt, pw_lem, pw_mle, pw_mm, pw_dec, pw_nar0, pw_nar1, nI_add, pw_sub, pw_mul, pw_and, pw_or, pw_andn, pw_shl1, pw_shl, pw_shr, pw_dv, nI_l, lN_i, Bool.false_eq_true, reduceCtorEq, if_false, if_true, ↓reduceIte, if_pos, if_neg, h1]
  · by_cases h2 : sdf (mu (h.1 153)) (gr (h.1 153) (h.1 159) (wx (h.1 153) p)) = 0
    · simp (disch := omega) only [pw_lt, pw_cb, pw_cbx, pw_cbxr, pw_lit, pw_litL, pw_oi, pw_oim, pw_oi8, pw_m, pw_ldI, pw_ldL, pw_ldR, pw_stI, pw_stL, pw_nz, pw_ltI, pw_leI, pw_eqI, pw_eqm, pw_eqm2, pw_ltm, pw_mlt, pw_lem, pw_mle, pw_mm, pw_dec, pw_nar0, pw_nar1, nI_add, pw_sub, pw_mul, pw_and, pw_or, pw_andn, pw_shl1, pw_shl, pw_shr, pw_dv, nI_l, lN_i, Bool.false_eq_true, reduceCtorEq, if_false, if_true, ↓reduceIte, if_pos, if_neg, h1, h2]
    · simp (disch := omega) only [pw_lt, pw_cb, pw_cbx, pw_cbxr, pw_lit, pw_litL, pw_oi, pw_oim, pw_oi8, pw_m, pw_ldI, pw_ldL, pw_ldR, pw_stI, pw_stL, pw_nz, pw_ltI, pw_leI, pw_eqI, pw_eqm, pw_eqm2, pw_ltm, pw_mlt, pw_lem, pw_mle, pw_mm, pw_dec, pw_nar0, pw_nar1, nI_add, pw_sub, pw_mul, pw_and, pw_or, pw_andn, pw_shl1, pw_shl, pw_shr, pw_dv, nI_l, lN_i, Bool.false_eq_true, reduceCtorEq, if_false, if_true, ↓reduceIte, if_pos, if_neg, h1, h2]
set_option maxRecDepth 16384 in
theorem e_whyNot1 {h : PH} {v : Int64} (H : RK (h.1 153)) (hv : ¬ ∃ k, k ≤ ga (h.1 153) ∧ v = lN k) : f_X12_whyNot 152 v h = some (nI 1, h) := by
  obtain ⟨b0, b1, b2, b3, b4, b5, b6, b7, b8, b9, b10⟩ := rk_b H
  unfold f_X12_whyNot
  have e : (decide (0 ≤ v) && decide (v ≤ lN (ga (h.1 153)))) = false := by
    cases hb : (decide (0 ≤ v) && decide (v ≤ lN (ga (h.1 153))))
    · rfl
    · exact absurd ((in_lN (by omega)).mp hb) hv
  rw [e_isSky H, e]
  simp (disch := omega) only [pw_lt, pw_cb, pw_cbx, pw_cbxr, pw_lit, pw_litL, pw_oi, pw_oim, pw_oi8, pw_m, pw_ldI, pw_ldL, pw_ldR, pw_stI, pw_stL, pw_nz, pw_ltI, pw_leI, pw_eqI, pw_eqm, pw_eqm2, pw_ltm, pw_mlt, pw_lem, pw_mle, pw_mm, pw_dec, pw_nar0, pw_nar1, nI_add, pw_sub, pw_mul, pw_and, pw_or, pw_andn, pw_shl1, pw_shl, pw_shr, pw_dv, nI_l, lN_i, Bool.false_eq_true, reduceCtorEq, if_false, if_true, ↓reduceIte, if_pos, if_neg, bI_0']
set_option maxRecDepth 16384 in
theorem e_isWish {h : PH} {i : Int32} (H : RK (h.1 153)) : f_X12_isWish 152 i h = some (bI (decide (∃ k, k < gv (h.1 153) 5 ∧ i = nI k)), h) := by
  obtain ⟨k0, k1, k2, k3, k4, k5, k6, k7⟩ := rk_e H
  obtain ⟨b0, b1, b2, b3, b4, b5, b6, b7, b8, b9, b10⟩ := rk_b H
  unfold f_X12_isWish
  simp (disch := omega) only [pw_lt, pw_cb, pw_cbx, pw_cbxr, pw_lit, pw_oi, pw_oim, pw_oi8, pw_m, pw_ldI, pw_ldL, pw_ldR, pw_stI, pw_stL, pw_nz, pw_ltI, pw_leI, pw_eqI, pw_eqm, pw_eqm2, pw_ltm, pw_mlt, pw_lem, pw_mle, pw_mm, pw_dec, pw_nar0, pw_nar1, nI_add, pw_sub, pw_mul, pw_and, pw_or, pw_andn, pw_shl1, pw_shl, pw_shr, pw_dv, nI_l, lN_i, Bool.false_eq_true, reduceCtorEq, if_false, if_true, ↓reduceIte, if_pos, if_neg, r_152_0, k5, e_within, zr_b]
  refine congrArg (fun z => some (bI z, h)) ?_
  by_cases h0 : gv (h.1 153) 5 = 0
  · rw [h0]
    have e1 : (nI 0 - nI 1).toInt64 = -1 := by decide +kernel
    rw [e1]
    have e2 : (decide ((0 : Int64) ≤ i.toInt64) && decide (i.toInt64 ≤ -1)) = false := by
      cases hb : (decide ((0 : Int64) ≤ i.toInt64) && decide (i.toInt64 ≤ -1))
      · rfl
      · exfalso
        simp only [Bool.and_eq_true, decide_eq_true_eq] at hb
        have := Int64.le_trans hb.1 hb.2
        exact absurd this (by decide +kernel)
    rw [e2]
    symm
    simp only [decide_eq_false_iff_not]
    rintro ⟨k, hk, -⟩
    omega
  · rw [pw_sub (by omega), nI_l (by omega)]
    cases hb : (decide ((0 : Int64) ≤ i.toInt64) && decide (i.toInt64 ≤ lN (gv (h.1 153) 5 - 1)))
    · symm
      simp only [decide_eq_false_iff_not]
      rintro ⟨k, hk, hi⟩
      rw [(in_nI (by omega)).mpr ⟨k, by omega, hi⟩] at hb
      cases hb
    · obtain ⟨k, hk, hi⟩ := (in_nI (by omega)).mp hb
      symm
      simp only [decide_eq_true_eq]
      exact ⟨k, by omega, hi⟩
set_option maxRecDepth 16384 in
theorem e_isAsked {h : PH} {s : Nat} (H : RK (h.1 153)) : f_X12_isAsked 152 (nI s) h = some (bI (decide (sdf s (gv (h.1 153) 7) = 0 ∧ s < 2147483648)), h) ∨ 2147483648 ≤ s := by
  obtain ⟨k0, k1, k2, k3, k4, k5, k6, k7⟩ := rk_e H
  obtain ⟨b0, b1, b2, b3, b4, b5, b6, b7, b8, b9, b10⟩ := rk_b H
  rcases Nat.lt_or_ge s 2147483648 with hs | hs
  · refine Or.inl ?_
    have := sdf_le s (gv (h.1 153) 7)
    unfold f_X12_isAsked
    simp (disch := omega) only [pw_lt, pw_cb, pw_cbx, pw_cbxr, pw_lit, pw_litL, pw_oi, pw_oim, pw_oi8, pw_m, pw_ldI, pw_ldL, pw_ldR, pw_stI, pw_stL, pw_nz, pw_ltI, pw_leI, pw_eqI, pw_eqm, pw_eqm2, pw_ltm, pw_mlt, pw_lem, pw_mle, pw_mm, pw_dec, pw_nar0, pw_nar1, nI_add, pw_sub, pw_mul, pw_and, pw_or, pw_andn, pw_shl1, pw_shl, pw_shr, pw_dv, nI_l, lN_i, Bool.false_eq_true, reduceCtorEq, if_false, if_true, ↓reduceIte, if_pos, if_neg, r_152_0, k7]
    by_cases h1 : sdf s (gv (h.1 153) 7) = 0
    · simp (disch := omega) only [pw_lt, pw_cb, pw_cbx, pw_cbxr, pw_lit, pw_litL, pw_oi, pw_oim, pw_oi8, pw_m, pw_ldI, pw_ldL, pw_ldR, pw_stI, pw_stL, pw_nz, pw_ltI, pw_leI, pw_eqI, pw_eqm, pw_eqm2, pw_ltm, pw_mlt, pw_lem, pw_mle, pw_mm, pw_dec, pw_nar0, pw_nar1, nI_add, pw_sub, pw_mul, pw_and, pw_or, pw_andn, pw_shl1, pw_shl, pw_shr, pw_dv, nI_l, lN_i, Bool.false_eq_true, reduceCtorEq, if_false, if_true, ↓reduceIte, if_pos, if_neg, h1, zr_1, true_and, decide_true, hs]
    · simp (disch := omega) only [pw_lt, pw_cb, pw_cbx, pw_cbxr, pw_lit, pw_litL, pw_oi, pw_oim, pw_oi8, pw_m, pw_ldI, pw_ldL, pw_ldR, pw_stI, pw_stL, pw_nz, pw_ltI, pw_leI, pw_eqI, pw_eqm, pw_eqm2, pw_ltm, pw_mlt, pw_lem, pw_mle, pw_mm, pw_dec, pw_nar0, pw_nar1, nI_add, pw_sub, pw_mul, pw_and, pw_or, pw_andn, pw_shl1, pw_shl, pw_shr, pw_dv, nI_l, lN_i, Bool.false_eq_true, reduceCtorEq, if_false, if_true, ↓reduceIte, if_pos, if_neg, h1, zr_0, false_and, decide_false]
  · exact Or.inr hs
set_option maxRecDepth 16384 in
theorem e_isAsked1 {h : PH} {s : Nat} (H : RK (h.1 153)) (hs : s < 1024) (h1 : sdf s (gv (h.1 153) 7) = 0) : f_X12_isAsked 152 (nI s) h = some (bI true, h) := by
  rcases e_isAsked (s := s) H with e | e
  · rw [e, decide_eq_true ⟨h1, by omega⟩]
  · omega

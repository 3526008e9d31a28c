/-! ===== the class settles its plans ===== -/
set_option maxRecDepth 16384 in
theorem FC.to2 {K T : Nat → Int32} {h h' : PH} {S : List Nat} (F : FC K T h) (e : eqx S h h') (h3 : 3 ∉ S) (h6 : 6 ∉ S) (h7 : 7 ∉ S) (h31 : 31 ∉ S) : FC K T h' := F.to e h3 h6 h7 (by rw [(e 31 h31).1]; exact F.2.2.2)
set_option maxRecDepth 16384 in
theorem c_fill {a n : Nat} {v : Int32} {h : PH} (hn : n ≤ 60000) : ok (f_J7_fill_53178 a n v h) (fun _ h' => eqx [a] h h' ∧ ∀ j, j < n → h'.1 a j = v) := by
  unfold f_J7_fill_53178
  refine ok_lt (ok_lt (lp_ok (fun m s h' => m ≤ n ∧ s = nI (n - m) ∧ eqx [a] h h' ∧ ∀ j, j < n - m → h'.1 a j = v) ?_ FU n _ h ⟨Nat.le_refl _, by rw [Nat.sub_self, pw_lit], eqx_rfl _ _, fun j hj => absurd hj (by omega)⟩ (fu_lt (by omega))))
  rintro m rec s h1 ⟨hm, rfl, e1, y1⟩ hrec
  unfold b_J7_fill_53178_5
  rw [show Int32.ofNat n = nI n from rfl]
  by_cases h0 : m = 0
  · subst h0
    simp (disch := omega) only [pw_lt, pw_cb, pw_cbx, pw_cbxr, pw_lit, pw_litL, pw_oi, pw_oim, pw_oi8, pw_m, pw_ldI, pw_ldL, pw_ldR, pw_stI, pw_stL, pw_nz, pw_ltI, pw_leI, pw_eqI, pw_eqm, pw_eqm2, pw_ltm, pw_mlt, pw_lem, pw_mle, pw_mm, pw_dec, pw_nar0, pw_nar1, nI_add, pw_sub, pw_mul, pw_and, pw_or, pw_andn, pw_shl1, pw_shl, pw_shr, pw_dv, nI_l, lN_i, Bool.false_eq_true, reduceCtorEq, if_false, if_true, ↓reduceIte, if_pos, if_neg, Nat.sub_zero, Nat.le_refl]
    exact ok_some ⟨e1, y1⟩
  · simp (disch := omega) only [pw_lt, pw_cb, pw_cbx, pw_cbxr, pw_lit, pw_litL, pw_oi, pw_oim, pw_oi8, pw_m, pw_ldI, pw_ldL, pw_ldR, pw_stI, pw_stL, pw_nz, pw_ltI, pw_leI, pw_eqI, pw_eqm, pw_eqm2, pw_ltm, pw_mlt, pw_lem, pw_mle, pw_mm, pw_dec, pw_nar0, pw_nar1, nI_add, pw_sub, pw_mul, pw_and, pw_or, pw_andn, pw_shl1, pw_shl, pw_shr, pw_dv, nI_l, lN_i, Bool.false_eq_true, reduceCtorEq, if_false, if_true, ↓reduceIte, if_pos, if_neg]
    refine hrec (m - 1) _ _ (by omega) ⟨by omega, by rw [show n - (m - 1) = n - m + 1 by omega], eqx_trans e1 (eqx_pI (by simp)), fun j hj => ?_⟩
    by_cases ej : j = n - m
    · subst ej
      rw [pw_pIs]
    · rw [pw_pIo (by omega)]
      exact y1 j (by omega)
def ablo (K T : Nat → Int32) (o p : Nat) : Bool := decide (wyo K T o p = 0)
def grO (K T : Nat → Int32) (o p : Nat) : Nat := hw K T (wx K p) &&& o
def aL (K T : Nat → Int32) (o n : Nat) : List Nat := (List.range n).filter (ablo K T o)
set_option maxRecDepth 16384 in
theorem aL_s {K T : Nat → Int32} {o n : Nat} : aL K T o (n + 1) = aL K T o n ++ (if ablo K T o n then [n] else []) := by
  unfold aL
  rw [List.range_succ, List.filter_append]
  congr 1
  cases hb : ablo K T o n <;> simp [hb]
set_option maxRecDepth 16384 in
theorem aL_len (K T : Nat → Int32) (o n : Nat) : (aL K T o n).length ≤ n := by
  have := List.length_filter_le (ablo K T o) (List.range n)
  rw [List.length_range] at this
  exact this
def fto (K T : Nat → Int32) (o s p : Nat) : Bool := ablo K T o p && decide (sdf s (grO K T o p) = 0)
def pFo (K T : Nat → Int32) (o s : Nat) : Option Nat := bestP (fto K T o s) (ga K + 1)
set_option maxRecDepth 16384 in
theorem ablo_abl {K T : Nat → Int32} (H : RK K) (p : Nat) : ablo K T (gv K 7) p = abl K T p := by
  unfold ablo abl
  rw [wyo_wy H]
set_option maxRecDepth 16384 in
theorem grO_gG (K T : Nat → Int32) (p : Nat) : grO K T (gv K 7) p = gG K T p := gr_hw K T _
set_option maxRecDepth 16384 in
theorem fto_fts {K T : Nat → Int32} (H : RK K) (s : Nat) : fto K T (gv K 7) s = fts K T s := by
  funext p
  unfold fto fts
  rw [ablo_abl H, grO_gG]
set_option maxRecDepth 16384 in
theorem pFo_pF {K T : Nat → Int32} (H : RK K) (s : Nat) : pFo K T (gv K 7) s = pF K T s := by
  unfold pFo pF
  rw [fto_fts H]
/- the tables are right for what is open -/
def CT2 (K T : Nat → Int32) (o : Nat) (h : PH) : Prop := h.1 33 4 = nI (aL K T o (ga K + 1)).length ∧ (∀ i, i < (aL K T o (ga K + 1)).length → h.1 34 i = nI ((aL K T o (ga K + 1)).getD i 0)) ∧ ∀ s, s < 2 ^ gv K 5 → h.1 35 s = oI (pFo K T o s)
def CHc (K T : Nat → Int32) (h : PH) : Prop := h.1 33 8 = nI 0 ∨ h.1 33 8 = nI 1 ∧ ∃ o, o < 1024 ∧ h.1 33 7 = nI o ∧ CT2 K T o h
def Psi (K T : Nat → Int32) (o i s p : Nat) : Bool := ablo K T o p && decide (sdf s (grO K T o p) = 0) && decide (sdf (grO K T o p) s < 2 ^ i)
set_option maxRecDepth 16384 in
theorem lt_pow_iff {x n : Nat} : x < 2 ^ n ↔ ∀ i, n ≤ i → x.testBit i = false := ⟨fun h i hi => Nat.testBit_lt_two_pow (Nat.lt_of_lt_of_le h (Nat.pow_le_pow_right (by decide) hi)), fun h => Nat.lt_pow_two_of_testBit x h⟩
set_option maxRecDepth 16384 in
theorem Psi_0 {K T : Nat → Int32} {o s : Nat} : Psi K T o 0 s = fun p => ablo K T o p && decide (grO K T o p = s) := by
  funext p
  unfold Psi
  rw [Bool.and_assoc, ← Bool.decide_and]
  refine congrArg (fun z => ablo K T o p && z) (decide_eq_decide.mpr ?_)
  constructor
  · rintro ⟨h1, h2⟩
    have h2 : sdf (grO K T o p) s = 0 := by
      have e : 2 ^ 0 = 1 := rfl
      omega
    apply Nat.eq_of_testBit_eq
    intro i
    have q1 := sdf_iff.mp h1 i
    have q2 := sdf_iff.mp h2 i
    revert q1 q2
    cases s.testBit i <;> cases (grO K T o p).testBit i <;> simp
  · intro e
    rw [e]
    have e0 : sdf s s = 0 := sdf_iff.mpr (fun i hi => hi)
    exact ⟨e0, by rw [e0]; decide⟩
set_option maxRecDepth 16384 in
theorem grO_lt {K T : Nat → Int32} {o p : Nat} : grO K T o p < 2 ^ gv K 5 := by
  unfold grO
  have h1 : hw K T (wx K p) &&& o ≤ hw K T (wx K p) := Nat.and_le_left
  have h2 := orTo_lt (fun i => decide (T (4096 * i + wx K p) = 1)) (gv K 5)
  exact Nat.lt_of_le_of_lt h1 h2
set_option maxRecDepth 16384 in
theorem Psi_top {K T : Nat → Int32} {o s : Nat} : Psi K T o (gv K 5) s = fto K T o s := by
  funext p
  unfold Psi fto
  have : sdf (grO K T o p) s < 2 ^ gv K 5 := Nat.lt_of_le_of_lt (sdf_le _ _) grO_lt
  rw [decide_eq_true this, Bool.and_true]
set_option maxRecDepth 16384 in
theorem Psi_has {K T : Nat → Int32} {o i s : Nat} (hs : s.testBit i = true) : Psi K T o (i + 1) s = Psi K T o i s := by
  funext p
  unfold Psi
  refine congrArg (fun z => ablo K T o p && decide (sdf s (grO K T o p) = 0) && z) (decide_eq_decide.mpr ?_)
  rw [lt_pow_iff, lt_pow_iff]
  constructor
  · intro h j hj
    by_cases e : j = i
    · subst e
      rw [sdf_tb, hs]
      simp
    · exact h j (by omega)
  · intro h j hj
    exact h j (by omega)
set_option maxRecDepth 16384 in
theorem Psi_lacks {K T : Nat → Int32} {o i s : Nat} (hs : s.testBit i = false) : Psi K T o (i + 1) s = fun p => Psi K T o i s p || Psi K T o i (s ||| 2 ^ i) p := by
  funext p
  unfold Psi
  cases ha : ablo K T o p
  · simp
  · simp only [Bool.true_and]
    rw [← Bool.decide_and, ← Bool.decide_and, ← Bool.decide_and, ← Bool.decide_or]
    refine decide_eq_decide.mpr ?_
    rw [lt_pow_iff, lt_pow_iff, lt_pow_iff, sdf_or2]
    constructor
    · rintro ⟨h1, h2⟩
      cases hg : (grO K T o p).testBit i
      · refine Or.inl ⟨h1, fun j hj => ?_⟩
        by_cases e : j = i
        · subst e
          rw [sdf_tb, hg]
          rfl
        · exact h2 j (by omega)
      · refine Or.inr ⟨⟨h1, rfl⟩, fun j hj => ?_⟩
        rw [sdf_tb, or2_tb]
        by_cases e : i = j
        · simp [e]
        · have := h2 j (by omega)
          rw [sdf_tb] at this
          rw [decide_eq_false e, Bool.or_false]
          exact this
    · rintro (⟨h1, h2⟩ | ⟨⟨h1, h2⟩, h3⟩)
      · exact ⟨h1, fun j hj => h2 j (by omega)⟩
      · refine ⟨h1, fun j hj => ?_⟩
        have := h3 j (by omega)
        rw [sdf_tb, or2_tb, decide_eq_false (by omega), Bool.or_false] at this
        rw [sdf_tb]
        exact this
set_option maxRecDepth 16384 in
theorem best_lt6 {P : Nat → Bool} {n : Nat} (hn : n ≤ 4096) : ∀ p, bestP P n = some p → p < 4096 := fun p hp => by
  have := best_lt hn hp
  omega
set_option maxRecDepth 16384 in
theorem lsr_best {P Q R : Nat → Bool} {n : Nat} (hn : n ≤ 4096) (hR : R = fun p => P p || Q p) : lsr (bestP P n) (bestP Q n) = bestP R n := by
  refine isB_uniq hn ?_ (isB_best hn)
  rw [hR]
  exact isB_or hn (isB_best hn) (isB_best hn)
set_option maxRecDepth 16384 in
theorem lsr_new {P : Nat → Bool} {n : Nat} (hn : n < 4096) (hP : P n = true) : lsr (bestP P n) (some n) = bestP P (n + 1) := by
  rw [bestP, if_pos hP]
  cases hb : bestP P n with
  | none => rfl
  | some b =>
    have hbl := best_lt (by omega) hb
    simp only [lsr]
    by_cases h1 : pc n < pc b
    · rw [if_pos h1, if_neg (by omega)]
    · rw [if_neg h1, if_pos (by omega)]
set_option maxRecDepth 16384 in
theorem best_skip {P : Nat → Bool} {n : Nat} (hP : P n = false) : bestP P (n + 1) = bestP P n := by
  rw [bestP, hP]
  rfl
def SpI (K T : Nat → Int32) (o : Nat) (h h' : PH) : Prop := eqx [35] h h'
set_option maxRecDepth 16384 in
theorem c_spread {h : PH} {K T : Nat → Int32} {o : Nat} (H : RK K) (S : SK (h.1 3) K) (hL : ∀ s, s < 2 ^ gv K 5 → h.1 35 s = oI (bestP (Psi K T o 0 s) (ga K + 1))) : ok (f_X2_spread 33 h) (fun _ h' => eqx [35] h h' ∧ ∀ s, s < 2 ^ gv K 5 → h'.1 35 s = oI (pFo K T o s)) := by
  obtain ⟨k0, k1, k2, k3, k4, k5, k6, k7⟩ := rk_e H
  obtain ⟨b0, b1, b2, b3, b4, b5, b6, b7, b8, b9, b10⟩ := rk_b H
  have s5 := S.2.2.2.2.2.1
  have hp2 : 2 ^ gv K 5 ≤ 2 ^ 10 := Nat.pow_le_pow_right (by decide) b6
  have e1024 : 2 ^ 10 = 1024 := rfl
  unfold f_X2_spread
  refine ok_lt (lp_ok (fun n s h' => n ≤ gv K 5 ∧ s = nI (gv K 5 - n) ∧ eqx [35] h h' ∧ ∀ s, s < 2 ^ gv K 5 → h'.1 35 s = oI (bestP (Psi K T o (gv K 5 - n) s) (ga K + 1))) ?_ FU (gv K 5) _ h ⟨Nat.le_refl _, by rw [Nat.sub_self, pw_lit], eqx_rfl _ _, by rw [Nat.sub_self]; exact hL⟩ (fu_lt (by omega)))
  rintro n rec s h1 ⟨hn, rfl, e1, y1⟩ hrec
  have s5' : h1.1 3 5 = nI (gv K 5) := by rw [(e1 3 (by decide)).1, s5, k5]
  unfold b_X2_spread_2
  by_cases h0 : n = 0
  · subst h0
    simp (disch := omega) only [pw_lt, pw_cb, pw_cbx, pw_cbxr, pw_lit, pw_litL, pw_oi, pw_oim, pw_oi8, pw_m, pw_ldI, pw_ldL, pw_ldR, pw_stI, pw_stL, pw_nz, pw_ltI, pw_leI, pw_eqI, pw_eqm, pw_eqm2, pw_ltm, pw_mlt, pw_lem, pw_mle, pw_mm, pw_dec, pw_nar0, pw_nar1, nI_add, pw_sub, pw_mul, pw_and, pw_or, pw_andn, pw_shl1, pw_shl, pw_shr, pw_dv, nI_l, lN_i, Bool.false_eq_true, reduceCtorEq, if_false, if_true, ↓reduceIte, if_pos, if_neg, r_33_0, s5', Nat.sub_zero, Nat.le_refl]
    refine ok_some ⟨e1, fun s hs => ?_⟩
    rw [y1 s hs, Nat.sub_zero, Psi_top]
    rfl
  · generalize hi : gv K 5 - n = i at *
    simp (disch := omega) only [pw_lt, pw_cb, pw_cbx, pw_cbxr, pw_lit, pw_litL, pw_oi, pw_oim, pw_oi8, pw_m, pw_ldI, pw_ldL, pw_ldR, pw_stI, pw_stL, pw_nz, pw_ltI, pw_leI, pw_eqI, pw_eqm, pw_eqm2, pw_ltm, pw_mlt, pw_lem, pw_mle, pw_mm, pw_dec, pw_nar0, pw_nar1, nI_add, pw_sub, pw_mul, pw_and, pw_or, pw_andn, pw_shl1, pw_shl, pw_shr, pw_dv, nI_l, lN_i, Bool.false_eq_true, reduceCtorEq, if_false, if_true, ↓reduceIte, r_33_0, s5']
    rw [if_neg (by omega)]
    have e3 : gv K 5 - (n - 1) = i + 1 := by omega
    have hj : ∀ h4, (eqx [35] h h4 ∧ ∀ s, s < 2 ^ gv K 5 → h4.1 35 s = oI (bestP (Psi K T o (i + 1) s) (ga K + 1))) → ok (rec (nI (i + 1)) h4) (fun _ h' => eqx [35] h h' ∧ ∀ s, s < 2 ^ gv K 5 → h'.1 35 s = oI (pFo K T o s)) := fun h4 q => hrec (n - 1) _ h4 (by omega) ⟨by omega, by rw [e3], q.1, by rw [e3]; exact q.2⟩
    refine lp_ok (fun m s h4 => m ≤ 2 ^ gv K 5 ∧ s = nI (2 ^ gv K 5 - m) ∧ eqx [35] h h4 ∧ (∀ s, s < 2 ^ gv K 5 → h4.1 35 s = oI (bestP (Psi K T o (if s < 2 ^ gv K 5 - m then i + 1 else i) s) (ga K + 1)))) ?_ FU (2 ^ gv K 5) _ h1 ⟨by omega, by rw [Nat.sub_self], e1, fun s hs => by rw [Nat.sub_self, if_neg (by omega)]; exact y1 s hs⟩ (fu_lt (by omega))
    rintro m rec2 s h4 ⟨hm, rfl, e4, x1⟩ hrec2
    have s5'' : h4.1 3 5 = nI (gv K 5) := by rw [(e4 3 (by decide)).1, s5, k5]
    unfold b_X2_spread_15
    by_cases hm0 : m = 0
    · subst hm0
      simp (disch := omega) only [pw_lt, pw_cb, pw_cbx, pw_cbxr, pw_lit, pw_litL, pw_oi, pw_oim, pw_oi8, pw_m, pw_ldI, pw_ldL, pw_ldR, pw_stI, pw_stL, pw_nz, pw_ltI, pw_leI, pw_eqI, pw_eqm, pw_eqm2, pw_ltm, pw_mlt, pw_lem, pw_mle, pw_mm, pw_dec, pw_nar0, pw_nar1, nI_add, pw_sub, pw_mul, pw_and, pw_or, pw_andn, pw_shl1, pw_shr, pw_dv, nI_l, lN_i, Bool.false_eq_true, reduceCtorEq, if_false, if_true, ↓reduceIte, if_pos, if_neg, r_33_0, s5'', Nat.sub_zero, Nat.le_refl]
      exact hj h4 ⟨e4, fun s hs => by rw [x1 s hs, if_pos (by omega)]⟩
    · generalize hsm : 2 ^ gv K 5 - m = sm at *
      have hsl : sm < 2 ^ gv K 5 := by omega
      have e5 : 2 ^ gv K 5 - (m - 1) = sm + 1 := by omega
      have v1 := x1 sm hsl
      rw [if_neg (Nat.lt_irrefl _)] at v1
      rcases tf (sm.testBit i) with hb | hb
      · have hor : sm ||| 2 ^ i < 2 ^ gv K 5 := Nat.or_lt_two_pow hsl (Nat.pow_lt_pow_right (by decide) (by omega))
        have hgt := or2_lt hb
        have v2 := x1 (sm ||| 2 ^ i) hor
        rw [if_neg (by omega)] at v2
        have hls := c_lesser (h := h4) (best_lt6 (P := Psi K T o i sm) (n := ga K + 1) (by omega)) (best_lt6 (P := Psi K T o i (sm ||| 2 ^ i)) (n := ga K + 1) (by omega))
        rw [lsr_best (by omega) (Psi_lacks hb)] at hls
        simp (disch := omega) only [pw_lt, pw_cb, pw_cbx, pw_cbxr, pw_lit, pw_litL, pw_oi, pw_oim, pw_oi8, pw_m, pw_ldI, pw_ldL, pw_ldR, pw_stI, pw_stL, pw_nz, pw_ltI, pw_leI, pw_eqI, pw_eqm, pw_eqm2, pw_ltm, pw_mlt, pw_lem, pw_mle, pw_mm, pw_dec, pw_nar0, pw_nar1, nI_add, pw_sub, pw_mul, pw_and, pw_or, pw_andn, pw_shl1, pw_shr, pw_dv, nI_l, lN_i, Bool.false_eq_true, reduceCtorEq, if_false, if_true, ↓reduceIte, if_pos, if_neg, r_33_0, r_33_5, s5'', pw_tb, hb, v1, v2, hls]
        refine hrec2 (m - 1) _ _ (by omega) ⟨by omega, by rw [e5], eqx_trans e4 (eqx_pI (by decide)), fun s hs => ?_⟩
        rw [e5]
        by_cases es : s = sm
        · subst es
          rw [pw_pIs, if_pos (by omega)]
        · rw [pw_pIo (by omega), x1 s hs]
          by_cases hlt : s < sm
          · rw [if_pos hlt, if_pos (by omega)]
          · rw [if_neg hlt, if_neg (by omega)]
      · simp (disch := omega) only [pw_lt, pw_cb, pw_cbx, pw_cbxr, pw_lit, pw_litL, pw_oi, pw_oim, pw_oi8, pw_m, pw_ldI, pw_ldL, pw_ldR, pw_stI, pw_stL, pw_nz, pw_ltI, pw_leI, pw_eqI, pw_eqm, pw_eqm2, pw_ltm, pw_mlt, pw_lem, pw_mle, pw_mm, pw_dec, pw_nar0, pw_nar1, nI_add, pw_sub, pw_mul, pw_and, pw_or, pw_andn, pw_shl1, pw_shr, pw_dv, nI_l, lN_i, Bool.false_eq_true, reduceCtorEq, if_false, if_true, ↓reduceIte, if_pos, if_neg, r_33_0, r_33_5, s5'', pw_tb, hb]
        refine hrec2 (m - 1) _ _ (by omega) ⟨by omega, by rw [e5], e4, fun s hs => ?_⟩
        rw [e5, x1 s hs]
        by_cases es : s = sm
        · subst es
          rw [if_neg (Nat.lt_irrefl _), if_pos (by omega), Psi_has hb]
        · by_cases hlt : s < sm
          · rw [if_pos hlt, if_pos (by omega)]
          · rw [if_neg hlt, if_neg (by omega)]

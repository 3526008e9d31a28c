/-! ===== gains, the best rule ===== -/
set_option maxRecDepth 16384 in
theorem pw_cyI {γ : Type} {h : PH} {a0 n0 a n1 sp dp n : Nat} {g : PH → Option γ} (h1 : sp + n ≤ n0) (h2 : dp + n ≤ n1) (hn : n0 < 1000000) (hn1 : n1 < 1000000) : cyI h a0 n0 a n1 (nI sp) (nI dp) (nI n) g = g (cpI h a0 a sp dp n) := by
  unfold cyI
  rw [pw_toInt (show sp < 2147483648 by omega), pw_toInt (show dp < 2147483648 by omega), pw_toInt (show n < 2147483648 by omega), pw_clamp (show sp < 2147483648 by omega), pw_clamp (show dp < 2147483648 by omega), pw_clamp (show n < 2147483648 by omega), if_pos ⟨by omega, by omega, by omega, by omega, by omega⟩]
set_option maxRecDepth 16384 in
theorem cp_in {h : PH} {a0 a sp dp n k : Nat} (h1 : dp ≤ k) (h2 : k < dp + n) : (cpI h a0 a sp dp n).1 a k = h.1 a0 (sp + (k - dp)) := by
  unfold cpI va_cpy
  simp only [if_true]
  exact if_pos ⟨h1, h2⟩
set_option maxRecDepth 16384 in
theorem cp_out {h : PH} {a0 a sp dp n k : Nat} (h1 : ¬ (dp ≤ k ∧ k < dp + n)) : (cpI h a0 a sp dp n).1 a k = h.1 a k := by
  unfold cpI va_cpy
  simp only [if_true]
  exact if_neg h1
set_option maxRecDepth 16384 in
theorem cp_o {h : PH} {a0 a sp dp n c k : Nat} (hc : c ≠ a) : (cpI h a0 a sp dp n).1 c k = h.1 c k := by
  unfold cpI
  exact if_neg hc
set_option maxRecDepth 16384 in
theorem eqx_cp {S : List Nat} {h : PH} {a0 a sp dp n : Nat} (ha : a ∈ S) : eqx S h (cpI h a0 a sp dp n) := fun c hc => by
  have e : c ≠ a := fun q => hc (q ▸ ha)
  exact ⟨funext fun b => cp_o e, rfl⟩
def A0f (K : Nat → Int32) (i : Nat) : Int32 := K (8 + i)
def W0f (K : Nat → Int32) (i : Nat) : Int32 := K (34 + i)
def RB (K T : Nat → Int32) (h : PH) : Prop := RC K T h ∧ ∀ i, i < gv K 5 → h.1 17 i = K (8 + i)
set_option maxRecDepth 16384 in
theorem RB.to {K T : Nat → Int32} {h h' : PH} (R : RB K T h) (e : eqx [37, 38, 39] h h') : RB K T h' :=
  ⟨R.1.to e (R.1.1.to2 e (by decide) (by decide) (by decide) (by decide)) (by decide) (by decide) (by decide) (by decide) (by decide) (by decide), by rw [(e 17 (by decide)).1]; exact R.2⟩
set_option maxRecDepth 16384 in
theorem c_say {K T : Nat → Int32} {h : PH} (R : RB K T h) : ok (f_X7_sayAsItIs 37 h) (fun _ h' => eqx [37, 38, 39] h h' ∧ SR K (A0f K) (W0f K) (gv K 7) h' ∧ (∀ j, j ≠ 5 → h'.1 37 j = h.1 37 j)) := by
  have H := R.1.1.1
  obtain ⟨b0, b1, b2, b3, b4, b5, b6, b7, b8, b9, b10⟩ := rk_b H
  have ho := R.1.2.2.2.1
  have hw := R.1.2.2.2.2.1
  unfold f_X7_sayAsItIs
  simp (disch := omega) only [pw_lt, pw_cb, pw_cbx, pw_cbxr, pw_lit, pw_litL, pw_oi, pw_oim, pw_oi8, pw_m, pw_ldI, pw_ldL, pw_ldR, pw_stI, pw_stL, pw_nz, pw_ltI, pw_leI, pw_eqI, pw_eqm, pw_eqm2, pw_ltm, pw_mlt, pw_lem, pw_mle, pw_mm, pw_dec, pw_nar0, pw_nar1, nI_add, pw_sub, pw_mul, pw_and, pw_or, pw_andn, pw_shl1, pw_shl, pw_shr, pw_dv, nI_l, lN_i, Bool.false_eq_true, reduceCtorEq, if_false, if_true, ↓reduceIte, if_pos, if_neg, r_37_0, r_37_1, r_37_3, r_37_4, r_3_13, r_16_1, pw_cyI]
  refine ok_some ⟨eqx_trans (eqx_trans (eqx_cp (by decide)) (eqx_cp (by decide))) (eqx_pI (by decide)), ⟨?_, ?_, ?_⟩, ?_⟩
  · rw [pw_pIs, cp_o (by decide), cp_o (by decide), ho]
  · intro i hi
    rw [pw_pIo (by omega), cp_o (by decide), cp_in (by omega) (by omega)]
    simp only [Nat.zero_add, Nat.sub_zero]
    exact hw i hi
  · intro i hi
    rw [pw_pIo (by omega), cp_in (by omega) (by omega), cp_o (by decide)]
    simp only [Nat.zero_add, Nat.sub_zero]
    exact R.2 i hi
  · intro j hj
    rw [pw_pIo (by omega), cp_o (by decide), cp_o (by decide)]
set_option maxRecDepth 16384 in
theorem sv_kk {K T A W : Nat → Int32} (H : RK K) {o rule m left s : Nat} : sv K T (kk K T A W o rule 13) m left s = sv K T (kk K T A W o rule 99) m left s := sv_congr m left s (fun i j _ _ _ _ => kk_lt H o rule i j)
def svS (K T A W : Nat → Int32) (o rule : Nat) : Nat := sv K T (kk K T A W o rule 99) 10 o 0
set_option maxRecDepth 16384 in
theorem sv_lt {K T k : Nat → Int32} : ∀ m left s, left < 2 ^ gv K 5 → s < 2 ^ gv K 5 → sv K T k m left s < 2 ^ gv K 5
  | 0, _, _, _, h => h
  | m + 1, left, s, hl, hs => by
    rw [sv]
    by_cases h0 : left = 0
    · rw [if_pos h0]; exact hs
    · rw [if_neg h0]
      obtain ⟨f, hfo, hfl, hft⟩ := fo_is (k := k) hl h0
      rw [hfo]
      simp only [Option.getD_some]
      have hsd := sdf_le left (2 ^ f)
      refine sv_lt m _ _ (by omega) ?_
      by_cases ht : tg K T (s ||| 2 ^ f) = true
      · rw [if_pos ht]
        exact Nat.or_lt_two_pow hs (Nat.pow_lt_pow_right (by decide) hfl)
      · rw [if_neg ht]; exact hs
set_option maxRecDepth 16384 in
theorem svS_lt {K T A W : Nat → Int32} (H : RK K) {o rule : Nat} (ho : o < 2 ^ gv K 5) : svS K T A W o rule < 1024 := by
  have h1 := sv_lt (K := K) (T := T) (k := kk K T A W o rule 99) 10 o 0 ho (Nat.two_pow_pos _)
  have h2 : 2 ^ gv K 5 ≤ 2 ^ 10 := Nat.pow_le_pow_right (by decide) H.2.2.2.2.2.2.2.1
  have e1024 : 2 ^ 10 = 1024 := rfl
  unfold svS
  omega
set_option maxRecDepth 16384 in
theorem c_servedAsAsked {K T : Nat → Int32} {h : PH} {rule : Nat} (R : RB K T h) (hr : rule < 4) : ok (f_X7_servedAsAsked 37 (nI rule) h) (fun r h' => r = nI (svS K T (A0f K) (W0f K) (gv K 7) rule) ∧ eqx [37, 38, 39] h h' ∧ (∀ j, j ≠ 5 → h'.1 37 j = h.1 37 j)) := by
  have H := R.1.1.1
  unfold f_X7_servedAsAsked
  refine ok_cb (c_say R) ?_
  rintro r h1 ⟨e1, S, hj⟩
  have R1 := R.to e1
  have hs := c_serve R1.1 S (open_lt H) hr
  rw [sv_kk H] at hs
  simp (disch := omega) only [pw_lt, pw_cb, pw_cbx, pw_cbxr, pw_lit, pw_litL, pw_oi, pw_oim, pw_oi8, pw_m, pw_ldI, pw_ldL, pw_ldR, pw_stI, pw_stL, pw_nz, pw_ltI, pw_leI, pw_eqI, pw_eqm, pw_eqm2, pw_ltm, pw_mlt, pw_lem, pw_mle, pw_mm, pw_dec, pw_nar0, pw_nar1, nI_add, pw_sub, pw_mul, pw_and, pw_or, pw_andn, pw_shl1, pw_shl, pw_shr, pw_dv, nI_l, lN_i, Bool.false_eq_true, reduceCtorEq, if_false, if_true, ↓reduceIte, if_pos, if_neg, hs]
  exact ok_some ⟨rfl, e1, hj⟩
/-! said otherwise -/
def Asr (K : Nat → Int32) (w i : Nat) : Nat → Int32 := if w = 3 then fun j => if j = i then K (8 + i) + nI 9 else K (8 + j) else A0f K
def Wsr (K : Nat → Int32) (w i : Nat) : Nat → Int32 := if w = 2 then fun j => if j = i then nI 9 else K (34 + j) else W0f K
def Osr (K : Nat → Int32) (w i : Nat) : Nat := if w = 1 then sdf (gv K 7) (2 ^ i) else gv K 7
set_option maxRecDepth 16384 in
theorem Osr_lt {K : Nat → Int32} (H : RK K) (w i : Nat) : Osr K w i < 2 ^ gv K 5 := by
  have := open_lt H
  have h2 := sdf_le (gv K 7) (2 ^ i)
  unfold Osr
  by_cases h : w = 1
  · rw [if_pos h]; omega
  · rw [if_neg h]; omega
def okd (K : Nat → Int32) (w i : Nat) : Bool := (gv K 7).testBit i && !(decide (w = 1) && decide (gv K (44 + i) = 1))
def SOq (K : Nat → Int32) (w i : Nat) (h : PH) (r : Int32) (h' : PH) : Prop := r = bI (okd K w i) ∧ eqx [37, 38, 39] h h' ∧ (okd K w i = true → SR K (Asr K w i) (Wsr K w i) (Osr K w i) h') ∧ (∀ j, j ≠ 5 → h'.1 37 j = h.1 37 j)
set_option maxRecDepth 16384 in
theorem c_sayO {K T : Nat → Int32} {h : PH} {w i : Nat} (R : RB K T h) (hi : i < gv K 5) (hw : 1 ≤ w) (hw3 : w ≤ 3) (hok : okd K w i = true) : ok (cb (f_X7_sayAsItIs 37 h) fun r3 h4 => if w = 1 then zr (nI 1) (pI h4 37 5 (h4.1 37 5 &&& (nI (2 ^ i) ^^^ mI))) else if w = 2 then zr (nI 1) (pI h4 38 i (nI 9)) else zr (nI 1) (pI h4 39 i (h4.1 39 i + nI 9))) (SOq K w i h) := by
  have H := R.1.1.1
  obtain ⟨b0, b1, b2, b3, b4, b5, b6, b7, b8, b9, b10⟩ := rk_b H
  refine ok_cb (c_say R) ?_
  rintro r h1 ⟨e1, ⟨S1, S2, S3⟩, hj⟩
  by_cases w1 : w = 1
  · subst w1
    rw [if_pos rfl, S1, zr_1, pw_andn]
    refine ok_some ⟨by rw [hok], eqx_trans e1 (eqx_pI (by decide)), fun _ => ⟨?_, ?_, ?_⟩, fun j hj2 => ?_⟩
    · rw [pw_pIs, Osr, if_pos rfl]
    · intro k hk
      rw [pw_pIo (by omega), Wsr, if_neg (by omega)]
      exact S2 k hk
    · intro k hk
      rw [pw_pIo (by omega), Asr, if_neg (by omega)]
      exact S3 k hk
    · rw [pw_pIo (by omega)]
      exact hj j hj2
  · rw [if_neg w1]
    by_cases w2 : w = 2
    · subst w2
      rw [if_pos rfl, zr_1]
      refine ok_some ⟨by rw [hok], eqx_trans e1 (eqx_pI (by decide)), fun _ => ⟨?_, ?_, ?_⟩, fun j hj2 => ?_⟩
      · rw [pw_pIo (by omega), Osr, if_neg (by omega)]
        exact S1
      · intro k hk
        rw [Wsr, if_pos rfl]
        by_cases ek : k = i
        · subst ek
          rw [pw_pIs, if_pos rfl]
        · rw [pw_pIo (by omega), if_neg ek]
          exact S2 k hk
      · intro k hk
        rw [pw_pIo (by omega), Asr, if_neg (by omega)]
        exact S3 k hk
      · rw [pw_pIo (by omega)]
        exact hj j hj2
    · have w3 : w = 3 := by omega
      subst w3
      rw [if_neg w2, zr_1, S3 i hi]
      refine ok_some ⟨by rw [hok], eqx_trans e1 (eqx_pI (by decide)), fun _ => ⟨?_, ?_, ?_⟩, fun j hj2 => ?_⟩
      · rw [pw_pIo (by omega), Osr, if_neg (by omega)]
        exact S1
      · intro k hk
        rw [pw_pIo (by omega), Wsr, if_neg (by omega)]
        exact S2 k hk
      · intro k hk
        rw [Asr, if_pos rfl]
        by_cases ek : k = i
        · subst ek
          rw [pw_pIs, if_pos rfl]
          rfl
        · rw [pw_pIo (by omega), if_neg ek]
          exact S3 k hk
      · rw [pw_pIo (by omega)]
        exact hj j hj2
set_option maxRecDepth 16384 in
theorem c_sayOtherwise {K T : Nat → Int32} {h : PH} {w i : Nat} (R : RB K T h) (hi : i < gv K 5) (hw : 1 ≤ w) (hw3 : w ≤ 3) : ok (f_X7_sayOtherwise 37 (nI i) (nI w) h) (SOq K w i h) := by
  have H := R.1.1.1
  obtain ⟨b0, b1, b2, b3, b4, b5, b6, b7, b8, b9, b10⟩ := rk_b H
  have ho := R.1.2.2.2.1
  have s6 := R.1.1.2.1.2.2.2.2.2.2.1
  have hmm := mm_lt H
  have hmb : (mm K).testBit i = decide (gv K (44 + i) = 1) := by
    unfold mm
    rw [orTo_tb, decide_eq_true hi, Bool.true_and]
  have hgo := c_sayO R hi hw hw3
  have hno : okd K w i = false → ok (some (bI false, h)) (SOq K w i h) := by
    intro q
    refine ok_some ?_
    unfold SOq
    refine ⟨by rw [q], eqx_rfl _ _, ?_, fun _ _ => rfl⟩
    intro z
    rw [q] at z
    cases z
  unfold f_X7_sayOtherwise
  rcases tf ((gv K 7).testBit i) with h1 | h1
  · have hk : okd K w i = false := by unfold okd; rw [h1]; rfl
    simp (disch := omega) only [pw_lt, pw_cb, pw_cbx, pw_cbxr, pw_lit, pw_litL, pw_oi, pw_oim, pw_oi8, pw_m, pw_ldI, pw_ldL, pw_ldR, pw_stI, pw_stL, pw_nz, pw_ltI, pw_leI, pw_eqI, pw_eqm, pw_eqm2, pw_ltm, pw_mlt, pw_lem, pw_mle, pw_mm, pw_dec, pw_nar0, pw_nar1, nI_add, pw_sub, pw_mul, pw_and, pw_or, pw_andn, pw_shl1, pw_shl, pw_shr, pw_dv, nI_l, lN_i, Bool.false_eq_true, reduceCtorEq, if_false, if_true, ↓reduceIte, if_pos, if_neg, r_37_1, ho, pw_tb, h1, zr_0]
    exact hno hk
  · by_cases w1 : w = 1
    · by_cases h2 : gv K (44 + i) = 1
      · have hk : okd K w i = false := by unfold okd; rw [h1, decide_eq_true w1, decide_eq_true h2]; rfl
        rw [decide_eq_true h2] at hmb
        subst w1
        simp (disch := omega) only [pw_lt, pw_cb, pw_cbx, pw_cbxr, pw_lit, pw_litL, pw_oi, pw_oim, pw_oi8, pw_m, pw_ldI, pw_ldL, pw_ldR, pw_stI, pw_stL, pw_nz, pw_ltI, pw_leI, pw_eqI, pw_eqm, pw_eqm2, pw_ltm, pw_mlt, pw_lem, pw_mle, pw_mm, pw_dec, pw_nar0, pw_nar1, nI_add, pw_sub, pw_mul, pw_and, pw_or, pw_andn, pw_shl1, pw_shl, pw_shr, pw_dv, nI_l, lN_i, Bool.false_eq_true, reduceCtorEq, if_false, if_true, ↓reduceIte, if_pos, if_neg, r_37_0, r_37_1, ho, pw_tb, h1, s6, hmb, zr_0]
        exact hno hk
      · have hk : okd K w i = true := by unfold okd; rw [h1, decide_eq_false h2, Bool.and_false]; rfl
        rw [decide_eq_false h2] at hmb
        have hgo := hgo hk
        subst w1
        simp (disch := omega) only [pw_lt, pw_cb, pw_cbx, pw_cbxr, pw_lit, pw_litL, pw_oi, pw_oim, pw_oi8, pw_m, pw_ldI, pw_ldL, pw_ldR, pw_stI, pw_stL, pw_nz, pw_ltI, pw_leI, pw_eqI, pw_eqm, pw_eqm2, pw_ltm, pw_mlt, pw_lem, pw_mle, pw_mm, pw_dec, pw_nar0, pw_nar1, nI_add, pw_sub, pw_mul, pw_and, pw_or, pw_andn, pw_shl1, pw_shr, pw_dv, nI_l, lN_i, Bool.false_eq_true, reduceCtorEq, if_false, if_true, ↓reduceIte, if_pos, if_neg, r_37_0, r_37_1, r_37_3, r_37_4, ho, pw_tb, h1, s6, hmb]
        exact hgo
    · have hk : okd K w i = true := by unfold okd; rw [h1, decide_eq_false w1]; rfl
      have hgo := hgo hk
      by_cases w2 : w = 2
      · subst w2
        simp (disch := omega) only [pw_lt, pw_cb, pw_cbx, pw_cbxr, pw_lit, pw_litL, pw_oi, pw_oim, pw_oi8, pw_m, pw_ldI, pw_ldL, pw_ldR, pw_stI, pw_stL, pw_nz, pw_ltI, pw_leI, pw_eqI, pw_eqm, pw_eqm2, pw_ltm, pw_mlt, pw_lem, pw_mle, pw_mm, pw_dec, pw_nar0, pw_nar1, nI_add, pw_sub, pw_mul, pw_and, pw_or, pw_andn, pw_shl1, pw_shr, pw_dv, nI_l, lN_i, Bool.false_eq_true, reduceCtorEq, if_false, if_true, ↓reduceIte, if_pos, if_neg, r_37_0, r_37_1, r_37_3, r_37_4, ho, pw_tb, h1]
        exact hgo
      · have w3 : w = 3 := by omega
        subst w3
        have hld : ∀ (h4 : PH) (g : Int32 → Option (Int32 × PH)), ldI h4 39 10 (nI i) g = g (h4.1 39 i) := fun h4 g => pw_ldI (by omega) (by omega)
        simp (disch := omega) only [pw_lt, pw_cb, pw_cbx, pw_cbxr, pw_lit, pw_litL, pw_oi, pw_oim, pw_oi8, pw_m, pw_ldI, pw_ldL, pw_ldR, pw_stI, pw_stL, pw_nz, pw_ltI, pw_leI, pw_eqI, pw_eqm, pw_eqm2, pw_ltm, pw_mlt, pw_lem, pw_mle, pw_mm, pw_dec, pw_nar0, pw_nar1, nI_add, pw_sub, pw_mul, pw_and, pw_or, pw_andn, pw_shl1, pw_shr, pw_dv, nI_l, lN_i, Bool.false_eq_true, reduceCtorEq, if_false, if_true, ↓reduceIte, if_pos, if_neg, r_37_0, r_37_1, r_37_3, r_37_4, ho, pw_tb, h1]
        exact hgo
/-! gains: the forms one behind the other -/
def shv (K T : Nat → Int32) (pr rule w i : Nat) : Nat := shw K pr (svS K T (Asr K w i) (Wsr K w i) (Osr K w i) rule)
def okg (K : Nat → Int32) (pr n : Nat) : Bool := decide (n % 10 < gv K 5) && decide (gv K (24 + n % 10) = pr) && okd K (n / 10 + 1) (n % 10)
def gst (K T : Nat → Int32) (pr rule : Nat) (s : Nat × Option Nat) (n : Nat) : Nat × Option Nat := if okg K pr n = true ∧ s.1 < shv K T pr rule (n / 10 + 1) (n % 10) then (shv K T pr rule (n / 10 + 1) (n % 10), some (10 + n)) else s
def usu (K T : Nat → Int32) (pr rule : Nat) : Nat := shw K pr (svS K T (A0f K) (W0f K) (gv K 7) rule)
def gF (K T : Nat → Int32) (pr rule : Nat) : Nat → Nat × Option Nat
  | 0 => (usu K T pr rule, none)
  | n + 1 => gst K T pr rule (gF K T pr rule n) n
set_option maxRecDepth 16384 in
theorem gF_b {K T : Nat → Int32} (H : RK K) {pr rule : Nat} : ∀ n, usu K T pr rule ≤ (gF K T pr rule n).1 ∧ (gF K T pr rule n).1 ≤ 90
  | 0 => ⟨Nat.le_refl _, shw_le H _ _⟩
  | n + 1 => by
    have ih := gF_b (T := T) H (pr := pr) (rule := rule) n
    rw [gF, gst]
    by_cases h : okg K pr n = true ∧ (gF K T pr rule n).1 < shv K T pr rule (n / 10 + 1) (n % 10)
    · rw [if_pos h]
      have := shw_le H pr (svS K T (Asr K (n / 10 + 1) (n % 10)) (Wsr K (n / 10 + 1) (n % 10)) (Osr K (n / 10 + 1) (n % 10)) rule)
      have e : shv K T pr rule (n / 10 + 1) (n % 10) = shw K pr (svS K T (Asr K (n / 10 + 1) (n % 10)) (Wsr K (n / 10 + 1) (n % 10)) (Osr K (n / 10 + 1) (n % 10)) rule) := rfl
      exact ⟨Nat.le_trans ih.1 (Nat.le_of_lt h.2), by show shv K T pr rule (n / 10 + 1) (n % 10) ≤ 90; rw [e]; exact this⟩
    · rw [if_neg h]
      exact ih
set_option maxRecDepth 16384 in
theorem gF_skip {K T : Nat → Int32} {pr rule v : Nat} : ∀ d, gv K 5 + d ≤ 10 → gF K T pr rule (10 * v + gv K 5 + d) = gF K T pr rule (10 * v + gv K 5)
  | 0, _ => rfl
  | d + 1, h => by
    rw [← Nat.add_assoc, gF, gst, if_neg ?_]
    · exact gF_skip d (by omega)
    · rintro ⟨h1, -⟩
      unfold okg at h1
      rw [decide_eq_false (by omega)] at h1
      cases h1
set_option maxRecDepth 16384 in
theorem pw_dle {s u m : Nat} (hs : s < 1000) (hu : u < 1000) (hm : m < 1000) (hum : u ≤ m) : (nI s - nI u ≤ nI (m - u)) = (s ≤ m) := by
  refine propext ?_
  rw [Int32.le_iff_toInt_le, pw_subI (by omega) (by omega), pw_toInt (by omega)]
  omega
set_option maxRecDepth 16384 in
theorem c_findGain {K T : Nat → Int32} {h : PH} {pr rule : Nat} (R : RB K T h) (hp : pr < 6) (hr : rule < 4) : ok (f_X7_findGain 37 (nI pr) (nI rule) h) (fun _ h' => eqx [37, 38, 39] h h' ∧ h'.1 37 6 = nI ((gF K T pr rule 30).1 - usu K T pr rule) ∧ h'.1 37 7 = oI (gF K T pr rule 30).2) := by
  have H := R.1.1.1
  obtain ⟨b0, b1, b2, b3, b4, b5, b6, b7, b8, b9, b10⟩ := rk_b H
  have hW := H.2.2.2.2.2.2.2.2.2.2.2
  have hul := shw_le H pr (svS K T (A0f K) (W0f K) (gv K 7) rule)
  have hsl := svS_lt (T := T) (A := A0f K) (W := W0f K) (rule := rule) H (open_lt H)
  have hud : shw K pr (svS K T (A0f K) (W0f K) (gv K 7) rule) = usu K T pr rule := rfl
  rw [hud] at hul
  have hk5 := (rk_e H).2.2.2.2.2.1
  unfold f_X7_findGain
  refine ok_cb (c_servedAsAsked R hr) ?_
  rintro r1 h2 ⟨rfl, e2, -⟩
  have R2 := R.to e2
  have hwf := c_weightFor (h := h2) R2.1 hsl hp
  rw [hud] at hwf
  simp (disch := omega) only [pw_lt, pw_cb, pw_cbx, pw_cbxr, pw_lit, pw_litL, pw_oi, pw_oim, pw_oi8, pw_m, pw_ldI, pw_ldL, pw_ldR, pw_stI, pw_stL, pw_nz, pw_ltI, pw_leI, pw_eqI, pw_eqm, pw_eqm2, pw_ltm, pw_mlt, pw_lem, pw_mle, pw_mm, pw_dec, pw_nar0, pw_nar1, nI_add, pw_sub, pw_mul, pw_and, pw_or, pw_andn, pw_shl1, pw_shl, pw_shr, pw_dv, nI_l, lN_i, Bool.false_eq_true, reduceCtorEq, if_false, if_true, ↓reduceIte, if_pos, if_neg, hwf]
  refine lp_ok (fun n s h3 => n ≤ 3 ∧ s = nI (4 - n) ∧ eqx [37, 38, 39] h h3 ∧ h3.1 37 6 = nI ((gF K T pr rule (10 * (3 - n))).1 - usu K T pr rule) ∧ h3.1 37 7 = oI (gF K T pr rule (10 * (3 - n))).2) ?_ FU 3 _ _ ⟨by omega, rfl, eqx_trans e2 (eqx_trans (eqx_pI (by decide)) (eqx_pI (by decide))), by rw [pw_pIo (by omega), pw_pIs]; show nI 0 = nI (usu K T pr rule - usu K T pr rule); rw [Nat.sub_self], by rw [pw_pIs]; rfl⟩ (fu_lt (by omega))
  rintro n rec s h3 ⟨hn, rfl, e3, g6, g7⟩ hrec
  unfold b_X7_findGain_24
  by_cases h0 : n = 0
  · subst h0
    simp (disch := omega) only [pw_lt, pw_cb, pw_cbx, pw_cbxr, pw_lit, pw_litL, pw_oi, pw_oim, pw_oi8, pw_m, pw_ldI, pw_ldL, pw_ldR, pw_stI, pw_stL, pw_nz, pw_ltI, pw_leI, pw_eqI, pw_eqm, pw_eqm2, pw_ltm, pw_mlt, pw_lem, pw_mle, pw_mm, pw_dec, pw_nar0, pw_nar1, nI_add, pw_sub, pw_mul, pw_and, pw_or, pw_andn, pw_shl1, pw_shl, pw_shr, pw_dv, nI_l, lN_i, Bool.false_eq_true, reduceCtorEq, if_false, if_true, ↓reduceIte, if_pos, if_neg]
    exact ok_some ⟨e3, g6, g7⟩
  · simp (disch := omega) only [pw_lt, pw_cb, pw_cbx, pw_cbxr, pw_lit, pw_litL, pw_oi, pw_oim, pw_oi8, pw_m, pw_ldI, pw_ldL, pw_ldR, pw_stI, pw_stL, pw_nz, pw_ltI, pw_leI, pw_eqI, pw_eqm, pw_eqm2, pw_ltm, pw_mlt, pw_lem, pw_mle, pw_mm, pw_dec, pw_nar0, pw_nar1, nI_add, pw_sub, pw_mul, pw_and, pw_or, pw_andn, pw_shl1, pw_shl, pw_shr, pw_dv, nI_l, lN_i, Bool.false_eq_true, reduceCtorEq, if_false, if_true, ↓reduceIte]
    rw [if_neg (by omega)]
    generalize hv : 3 - n = v at *
    have hw4 : 4 - n = v + 1 := by omega
    rw [hw4]
    have hv3 : v < 3 := by omega
    refine lp_ok (fun m s h4 => m ≤ gv K 5 ∧ s = nI (gv K 5 - m) ∧ eqx [37, 38, 39] h h4 ∧ h4.1 37 6 = nI ((gF K T pr rule (10 * v + (gv K 5 - m))).1 - usu K T pr rule) ∧ h4.1 37 7 = oI (gF K T pr rule (10 * v + (gv K 5 - m))).2) ?_ FU (gv K 5) _ h3 ⟨Nat.le_refl _, by rw [Nat.sub_self], e3, by rw [Nat.sub_self]; exact g6, by rw [Nat.sub_self]; exact g7⟩ (fu_lt (by omega))
    rintro m rec2 s h4 ⟨hm, rfl, e4, y6, y7⟩ hrec2
    have R4 := R.to e4
    have s5 : h4.1 3 5 = nI (gv K 5) := by rw [R4.1.1.2.1.2.2.2.2.2.1, hk5]
    unfold b_X7_findGain_33
    by_cases hm0 : m = 0
    · subst hm0
      simp (disch := omega) only [pw_lt, pw_cb, pw_cbx, pw_cbxr, pw_lit, pw_litL, pw_oi, pw_oim, pw_oi8, pw_m, pw_ldI, pw_ldL, pw_ldR, pw_stI, pw_stL, pw_nz, pw_ltI, pw_leI, pw_eqI, pw_eqm, pw_eqm2, pw_ltm, pw_mlt, pw_lem, pw_mle, pw_mm, pw_dec, pw_nar0, pw_nar1, nI_add, pw_sub, pw_mul, pw_and, pw_or, pw_andn, pw_shl1, pw_shl, pw_shr, pw_dv, nI_l, lN_i, Bool.false_eq_true, reduceCtorEq, if_false, if_true, ↓reduceIte, if_pos, if_neg, r_37_0, s5, Nat.sub_zero, Nat.le_refl]
      refine hrec (n - 1) _ h4 (by omega) ⟨by omega, by rw [show 4 - (n - 1) = v + 1 + 1 by omega], e4, ?_, ?_⟩
      · rw [y6, Nat.sub_zero, show 10 * (3 - (n - 1)) = 10 * v + gv K 5 + (10 - gv K 5) by omega, gF_skip _ (by omega)]
      · rw [y7, Nat.sub_zero, show 10 * (3 - (n - 1)) = 10 * v + gv K 5 + (10 - gv K 5) by omega, gF_skip _ (by omega)]
    · generalize hi : gv K 5 - m = i at *
      have hil : i < gv K 5 := by omega
      have e9 : gv K 5 - (m - 1) = i + 1 := by omega
      obtain ⟨⟨w1, w2⟩, -, -⟩ := hW i hil
      have hby := R4.1.2.2.2.2.2 i hil
      have d1 : (10 * v + i) / 10 = v := by omega
      have d2 : (10 * v + i) % 10 = i := by omega
      have hgs : gF K T pr rule (10 * v + (i + 1)) = gst K T pr rule (gF K T pr rule (10 * v + i)) (10 * v + i) := rfl
      have hgb := gF_b (T := T) H (pr := pr) (rule := rule) (10 * v + i)
      generalize gF K T pr rule (10 * v + i) = g at *
      have hnx : ∀ h5 g', eqx [37, 38, 39] h h5 → gst K T pr rule g (10 * v + i) = g' → h5.1 37 6 = nI (g'.1 - usu K T pr rule) → h5.1 37 7 = oI g'.2 → ok (rec2 (nI (i + 1)) h5) (fun _ h' => eqx [37, 38, 39] h h' ∧ h'.1 37 6 = nI ((gF K T pr rule 30).1 - usu K T pr rule) ∧ h'.1 37 7 = oI (gF K T pr rule 30).2) := fun h5 g' q1 q2 q3 q4 => hrec2 (m - 1) _ h5 (by omega) ⟨by omega, by rw [e9], q1, by rw [e9, hgs, q2]; exact q3, by rw [e9, hgs, q2]; exact q4⟩
      by_cases hb : gv K (24 + i) = pr
      · simp (disch := omega) only [pw_lt, pw_cb, pw_cbx, pw_cbxr, pw_lit, pw_litL, pw_oi, pw_oim, pw_oi8, pw_m, pw_ldI, pw_ldL, pw_ldR, pw_stI, pw_stL, pw_nz, pw_ltI, pw_leI, pw_eqI, pw_eqm, pw_eqm2, pw_ltm, pw_mlt, pw_lem, pw_mle, pw_mm, pw_dec, pw_nar0, pw_nar1, nI_add, pw_sub, pw_mul, pw_and, pw_or, pw_andn, pw_shl1, pw_shl, pw_shr, pw_dv, nI_l, lN_i, Bool.false_eq_true, reduceCtorEq, if_false, if_true, ↓reduceIte, if_pos, if_neg, r_37_0, r_3_12, s5, hby, w1, hb]
        refine ok_cb (c_sayOtherwise R4 hil (by omega) (by omega)) ?_
        rintro r5 h5 ⟨rfl, e5, S5, hj5⟩
        have R5 := R4.to e5
        have z6 : h5.1 37 6 = nI (g.1 - usu K T pr rule) := by rw [hj5 6 (by decide)]; exact y6
        have z7 : h5.1 37 7 = oI g.2 := by rw [hj5 7 (by decide)]; exact y7
        rcases tf (okd K (v + 1) i) with hk | hk
        · have hg : gst K T pr rule g (10 * v + i) = g := by
            rw [gst, if_neg ?_]
            rintro ⟨q, -⟩
            unfold okg at q
            rw [d1, d2, hk, Bool.and_false] at q
            cases q
          simp (disch := omega) only [pw_lt, pw_cb, pw_cbx, pw_cbxr, pw_lit, pw_litL, pw_oi, pw_oim, pw_oi8, pw_m, pw_ldI, pw_ldL, pw_ldR, pw_stI, pw_stL, pw_nz, pw_ltI, pw_leI, pw_eqI, pw_eqm, pw_eqm2, pw_ltm, pw_mlt, pw_lem, pw_mle, pw_mm, pw_dec, pw_nar0, pw_nar1, nI_add, pw_sub, pw_mul, pw_and, pw_or, pw_andn, pw_shl1, pw_shl, pw_shr, pw_dv, nI_l, lN_i, Bool.false_eq_true, reduceCtorEq, if_false, if_true, ↓reduceIte, if_pos, if_neg, hk, bI_0']
          exact hnx h5 g (eqx_trans e4 e5) hg z6 z7
        · have hok : okg K pr (10 * v + i) = true := by
            unfold okg
            rw [d1, d2, decide_eq_true hil, decide_eq_true hb, hk]
            rfl
          have S5 := S5 hk
          have hse := c_serve R5.1 S5 (Osr_lt H _ _) hr
          rw [sv_kk H] at hse
          have hsvd : sv K T (kk K T (Asr K (v + 1) i) (Wsr K (v + 1) i) (Osr K (v + 1) i) rule 99) 10 (Osr K (v + 1) i) 0 = svS K T (Asr K (v + 1) i) (Wsr K (v + 1) i) (Osr K (v + 1) i) rule := rfl
          rw [hsvd] at hse
          have hsl2 := svS_lt (T := T) (A := Asr K (v + 1) i) (W := Wsr K (v + 1) i) (rule := rule) H (Osr_lt H (v + 1) i)
          have hwf2 := c_weightFor (h := h5) R5.1 hsl2 hp
          have hshd : shw K pr (svS K T (Asr K (v + 1) i) (Wsr K (v + 1) i) (Osr K (v + 1) i) rule) = shv K T pr rule (v + 1) i := rfl
          have hshl := shw_le H pr (svS K T (Asr K (v + 1) i) (Wsr K (v + 1) i) (Osr K (v + 1) i) rule)
          rw [hshd] at hwf2 hshl
          by_cases hlt : g.1 < shv K T pr rule (v + 1) i
          · have hg : gst K T pr rule g (10 * v + i) = (shv K T pr rule (v + 1) i, some (10 + (10 * v + i))) := by
              rw [gst, d1, d2, if_pos ⟨hok, hlt⟩]
            simp (disch := omega) only [pw_lt, pw_cb, pw_cbx, pw_cbxr, pw_lit, pw_litL, pw_oi, pw_oim, pw_oi8, pw_m, pw_ldI, pw_ldL, pw_ldR, pw_stI, pw_stL, pw_nz, pw_ltI, pw_leI, pw_eqI, pw_eqm, pw_eqm2, pw_ltm, pw_mlt, pw_lem, pw_mle, pw_mm, pw_dec, pw_nar0, pw_nar1, nI_add, pw_mul, pw_and, pw_or, pw_andn, pw_shl1, pw_shl, pw_shr, pw_dv, nI_l, lN_i, Bool.false_eq_true, reduceCtorEq, if_false, if_true, ↓reduceIte, if_pos, if_neg, hk, bI_0', hse, hwf2, z6, pw_dle]
            refine hnx _ _ (eqx_trans e4 (eqx_trans e5 (eqx_trans (eqx_pI (by decide)) (eqx_pI (by decide))))) hg ?_ ?_
            · rw [pw_pIo (by omega), pw_pIs, pw_sub (by omega)]
            · rw [pw_pIs]
              show _ = nI (10 + (10 * v + i))
              rw [show 10 * (v + 1) + i = 10 + (10 * v + i) by omega]
          · have hg : gst K T pr rule g (10 * v + i) = g := by
              rw [gst, d1, d2, if_neg (fun q => hlt q.2)]
            simp (disch := omega) only [pw_lt, pw_cb, pw_cbx, pw_cbxr, pw_lit, pw_litL, pw_oi, pw_oim, pw_oi8, pw_m, pw_ldI, pw_ldL, pw_ldR, pw_stI, pw_stL, pw_nz, pw_ltI, pw_leI, pw_eqI, pw_eqm, pw_eqm2, pw_ltm, pw_mlt, pw_lem, pw_mle, pw_mm, pw_dec, pw_nar0, pw_nar1, nI_add, pw_mul, pw_and, pw_or, pw_andn, pw_shl1, pw_shl, pw_shr, pw_dv, nI_l, lN_i, Bool.false_eq_true, reduceCtorEq, if_false, if_true, ↓reduceIte, if_pos, if_neg, hk, bI_0', hse, hwf2, z6, pw_dle]
            exact hnx h5 g (eqx_trans e4 e5) hg z6 z7
      · have hg : gst K T pr rule g (10 * v + i) = g := by
          rw [gst, if_neg ?_]
          rintro ⟨q, -⟩
          unfold okg at q
          rw [d2, decide_eq_false hb, Bool.and_false, Bool.false_and] at q
          cases q
        simp (disch := omega) only [pw_lt, pw_cb, pw_cbx, pw_cbxr, pw_lit, pw_litL, pw_oi, pw_oim, pw_oi8, pw_m, pw_ldI, pw_ldL, pw_ldR, pw_stI, pw_stL, pw_nz, pw_ltI, pw_leI, pw_eqI, pw_eqm, pw_eqm2, pw_ltm, pw_mlt, pw_lem, pw_mle, pw_mm, pw_dec, pw_nar0, pw_nar1, nI_add, pw_sub, pw_mul, pw_and, pw_or, pw_andn, pw_shl1, pw_shl, pw_shr, pw_dv, nI_l, lN_i, Bool.false_eq_true, reduceCtorEq, if_false, if_true, ↓reduceIte, if_pos, if_neg, r_37_0, r_3_12, s5, hby, w1, hb]
        exact hnx h4 g e4 hg y6 y7

/-! ===== by chance ===== -/
set_option maxRecDepth 16384 in
theorem lN_tI {n : Nat} (h : n < 9223372036854775808) : (lN n).toInt = (n : Int) := lg_ofNat_toInt (by omega)
set_option maxRecDepth 16384 in
theorem lN_lt' {a b : Nat} (ha : a < 9223372036854775808) (hb : b < 9223372036854775808) : (lN a < lN b) = (a < b) := by
  refine propext ?_
  rw [Int64.lt_iff_toInt_lt, lN_tI ha, lN_tI hb]
  omega
set_option maxRecDepth 16384 in
theorem lN_le' {a b : Nat} (ha : a < 9223372036854775808) (hb : b < 9223372036854775808) : (lN a ≤ lN b) = (a ≤ b) := by
  refine propext ?_
  rw [Int64.le_iff_toInt_le, lN_tI ha, lN_tI hb]
  omega
set_option maxRecDepth 16384 in
theorem lN_eq' {a b : Nat} (ha : a < 9223372036854775808) (hb : b < 9223372036854775808) : (lN a = lN b) = (a = b) := by
  refine propext ⟨fun e => ?_, fun e => by rw [e]⟩
  have e := congrArg Int64.toInt e
  rw [lN_tI ha, lN_tI hb] at e
  omega
set_option maxRecDepth 16384 in
theorem and_self_half {x p : Nat} (h : x &&& p = x) : (x / 2) &&& (p / 2) = x / 2 ∧ (x % 2 = 1 → p % 2 = 1) := by
  constructor
  · rw [← Nat.and_div_two, h]
  · intro h1
    have e : (x &&& p) % 2 = 1 := by rw [h]; exact h1
    exact (Nat.and_mod_two_eq_one.mp e).2
set_option maxRecDepth 16384 in
theorem pcb_mono : ∀ k x p, x &&& p = x → pcb k x ≤ pcb k p
  | 0, _, _, _ => Nat.le_refl _
  | k + 1, x, p, h => by
    obtain ⟨h1, h2⟩ := and_self_half h
    have := pcb_mono k _ _ h1
    unfold pcb
    omega
set_option maxRecDepth 16384 in
theorem pc_mono {x p : Nat} (h : sdf x p = 0) : pc x ≤ pc p := pcb_mono 12 _ _ (sdf_0.mp h)
set_option maxRecDepth 16384 in
theorem sub_next : ∀ c x p, x &&& p = x → c &&& p = c → x < c → x ≤ (c - 1) &&& p := by
  intro c
  induction c using Nat.strongRecOn with
  | ind c ih =>
    intro x p hx hc hlt
    obtain ⟨x1, x2⟩ := and_self_half hx
    obtain ⟨c1, c2⟩ := and_self_half hc
    have e1 : ((c - 1) &&& p) / 2 = ((c - 1) / 2) &&& (p / 2) := Nat.and_div_two
    have e2 : ((c - 1) &&& p) % 2 = 1 ↔ (c - 1) % 2 = 1 ∧ p % 2 = 1 := Nat.and_mod_two_eq_one
    by_cases h0 : c % 2 = 1
    · have e3 : (c - 1) / 2 = c / 2 := by omega
      rw [e3, c1] at e1
      omega
    · have e3 : (c - 1) / 2 = c / 2 - 1 := by omega
      have ih2 := ih (c / 2) (by omega) (x / 2) (p / 2) x1 c1 (by omega)
      rw [e3] at e1
      by_cases hx2 : x % 2 = 1
      · have : ((c - 1) &&& p) % 2 = 1 := e2.mpr ⟨by omega, x2 hx2⟩
        omega
      · omega
def En (K T : Nat → Int32) (p hd : Nat) : Nat → Nat
  | 0 => 0
  | n + 1 => if sdf n p = 0 then En K T p hd n + hd ^ pc n * (100 - hd) ^ (pc p - pc n) * wG K T n else En K T p hd n
set_option maxRecDepth 16384 in
theorem En_gap {K T : Nat → Int32} {p hd a : Nat} : ∀ k, (∀ x, a ≤ x → x < a + k → ¬ sdf x p = 0) → En K T p hd (a + k) = En K T p hd a
  | 0, _ => rfl
  | k + 1, h => by
    rw [← Nat.add_assoc, En, if_neg (h (a + k) (by omega) (by omega))]
    exact En_gap k (fun x h1 h2 => h x h1 (by omega))
set_option maxRecDepth 16384 in
theorem En_prev {K T : Nat → Int32} {p hd c : Nat} (hc : sdf c p = 0) (h0 : 0 < c) : En K T p hd c = En K T p hd (((c - 1) &&& p) + 1) := by
  have hle : (c - 1) &&& p ≤ c - 1 := Nat.and_le_left
  have := En_gap (K := K) (T := T) (p := p) (hd := hd) (a := ((c - 1) &&& p) + 1) (c - (((c - 1) &&& p) + 1)) (fun x h1 h2 h3 => by
    have := sub_next c x p (sdf_0.mp h3) (sdf_0.mp hc) (by omega)
    omega)
  rw [show ((c - 1) &&& p) + 1 + (c - (((c - 1) &&& p) + 1)) = c by omega] at this
  exact this
set_option maxRecDepth 16384 in
theorem pow_pow_le {hd a b : Nat} (h : hd ≤ 100) : hd ^ a * (100 - hd) ^ b ≤ 100 ^ (a + b) := by
  rw [Nat.pow_add]
  exact Nat.mul_le_mul (Nat.pow_le_pow_left h a) (Nat.pow_le_pow_left (by omega) b)
set_option maxRecDepth 16384 in
theorem En_le {K T : Nat → Int32} (H : RK K) {p hd : Nat} (h : hd ≤ 100) : ∀ n, En K T p hd n ≤ n * (100 ^ pc p * 90)
  | 0 => Nat.zero_le _
  | n + 1 => by
    have ih := En_le (T := T) H (p := p) h n
    rw [Nat.succ_mul, En]
    by_cases hs : sdf n p = 0
    · rw [if_pos hs]
      have h1 : hd ^ pc n * (100 - hd) ^ (pc p - pc n) ≤ 100 ^ (pc n + (pc p - pc n)) := pow_pow_le h
      rw [show pc n + (pc p - pc n) = pc p from by have := pc_mono hs; omega] at h1
      have h2 : wG K T n ≤ 90 := wt_le H _
      have h3 := Nat.mul_le_mul h1 h2
      omega
    · rw [if_neg hs]
      omega
set_option maxRecDepth 16384 in
theorem e_power {b n : Nat} {h : PH} (hn : n < 1000000) : f_X12_power (lN b) (nI n) h = some (lN (b ^ n), h) := by
  unfold f_X12_power
  simp only [pw_lt, pw_lit, pw_litL]
  refine lp_run (fun i => (lN (b ^ i), nI i)) (fun _ => h) n _ ?_ ?_ FU (fu_lt (by omega))
  · intro i hi rec
    unfold b_X12_power_5
    simp (disch := omega) only [pw_lt, pw_cb, pw_cbx, pw_cbxr, pw_lit, pw_litL, pw_oi, pw_oim, pw_oi8, pw_m, pw_ldI, pw_ldL, pw_ldR, pw_stI, pw_stL, pw_nz, pw_ltI, pw_leI, pw_eqI, pw_eqm, pw_eqm2, pw_ltm, pw_mlt, pw_lem, pw_mle, pw_mm, pw_dec, pw_nar0, pw_nar1, nI_add, pw_sub, pw_mul, pw_and, pw_or, pw_andn, pw_shl1, pw_shl, pw_shr, pw_dv, nI_l, lN_i, Bool.false_eq_true, reduceCtorEq, if_false, if_true, ↓reduceIte, if_pos, if_neg, lN_mul, Nat.pow_succ]
  · intro rec
    unfold b_X12_power_5
    simp (disch := omega) only [pw_lt, pw_cb, pw_cbx, pw_cbxr, pw_lit, pw_litL, pw_oi, pw_oim, pw_oi8, pw_m, pw_ldI, pw_ldL, pw_ldR, pw_stI, pw_stL, pw_nz, pw_ltI, pw_leI, pw_eqI, pw_eqm, pw_eqm2, pw_ltm, pw_mlt, pw_lem, pw_mle, pw_mm, pw_dec, pw_nar0, pw_nar1, nI_add, pw_sub, pw_mul, pw_and, pw_or, pw_andn, pw_shl1, pw_shl, pw_shr, pw_dv, nI_l, lN_i, Bool.false_eq_true, reduceCtorEq, if_false, if_true, ↓reduceIte, if_pos, if_neg, Nat.le_refl]
set_option maxRecDepth 16384 in
theorem c_power {b n : Nat} {h : PH} (hb : b < 2147483648) (hn : n < 1000000) : f_X2_power (nI b) (nI n) h = some (lN (b ^ n), h) := by
  unfold f_X2_power
  simp only [pw_lt, pw_lit, pw_litL]
  refine lp_run (fun i => (lN (b ^ i), nI i)) (fun _ => h) n _ ?_ ?_ FU (fu_lt (by omega))
  · intro i hi rec
    unfold b_X2_power_5
    simp (disch := omega) only [pw_lt, pw_cb, pw_cbx, pw_cbxr, pw_lit, pw_litL, pw_oi, pw_oim, pw_oi8, pw_m, pw_ldI, pw_ldL, pw_ldR, pw_stI, pw_stL, pw_nz, pw_ltI, pw_leI, pw_eqI, pw_eqm, pw_eqm2, pw_ltm, pw_mlt, pw_lem, pw_mle, pw_mm, pw_dec, pw_nar0, pw_nar1, nI_add, pw_sub, pw_mul, pw_and, pw_or, pw_andn, pw_shl1, pw_shl, pw_shr, pw_dv, nI_l, lN_i, Bool.false_eq_true, reduceCtorEq, if_false, if_true, ↓reduceIte, if_pos, if_neg, lN_mul, Nat.pow_succ]
  · intro rec
    unfold b_X2_power_5
    simp (disch := omega) only [pw_lt, pw_cb, pw_cbx, pw_cbxr, pw_lit, pw_litL, pw_oi, pw_oim, pw_oi8, pw_m, pw_ldI, pw_ldL, pw_ldR, pw_stI, pw_stL, pw_nz, pw_ltI, pw_leI, pw_eqI, pw_eqm, pw_eqm2, pw_ltm, pw_mlt, pw_lem, pw_mle, pw_mm, pw_dec, pw_nar0, pw_nar1, nI_add, pw_sub, pw_mul, pw_and, pw_or, pw_andn, pw_shl1, pw_shl, pw_shr, pw_dv, nI_l, lN_i, Bool.false_eq_true, reduceCtorEq, if_false, if_true, ↓reduceIte, if_pos, if_neg, Nat.le_refl]
set_option maxRecDepth 16384 in
theorem e_expects {K T : Nat → Int32} {h : PH} {p hd : Nat} (R : RX K T h) (hp : p ≤ ga K) (hh : hd ≤ 100) : f_X12_expects 152 (nI p) (nI hd) h = some (lN (En K T p hd (p + 1)), h) := by
  obtain ⟨H, r1, r2, r3, r4⟩ := R
  obtain ⟨b0, b1, b2, b3, b4, b5, b6, b7, b8, b9, b10⟩ := rk_b H
  unfold f_X12_expects
  simp only [pw_lt, pw_lit, pw_litL]
  refine lp_run (fun i => (lN (En K T p hd i), nI i)) (fun _ => h) (p + 1) _ ?_ ?_ FU (fu_lt (by omega))
  · intro i hi rec
    have hsd := sdf_le i p
    unfold b_X12_expects_5
    by_cases h1 : sdf i p = 0
    · have hpm := pc_mono h1
      have p1 := pc_le (show i < 4096 by omega)
      have p2 := pc_le (show p < 4096 by omega)
      have hWi := r4 i (by omega)
      have hgi := e_grantedIn (h := h) (w := wx K i) (by rw [r1]; exact H) (by rw [r1, r2]; exact r3) (by rw [r1]; exact wx_le K i)
      have hwi : f_X12_weight 152 (nI (gG K T i)) h = _ := e_weight (by rw [r1]; exact H) (by have := gG_lt (T := T) H i; omega)
      have hgd : gr K T (wx K i) = gG K T i := rfl
      have hwd : wt K (gG K T i) = wG K T i := rfl
      rw [r1, r2, hgd] at hgi
      rw [r1, hwd] at hwi
      have hwl : wG K T i ≤ 90 := wt_le H _
      simp (disch := omega) only [pw_lt, pw_cb, pw_cbx, pw_cbxr, pw_lit, pw_litL, pw_oi, pw_oim, pw_oi8, pw_m, pw_ldI, pw_ldL, pw_ldR, pw_stI, pw_stL, pw_nz, pw_ltI, pw_leI, pw_eqI, pw_eqm, pw_eqm2, pw_ltm, pw_mlt, pw_lem, pw_mle, pw_mm, pw_dec, pw_nar0, pw_nar1, nI_add, pw_sub, pw_mul, pw_and, pw_or, pw_andn, pw_shl1, pw_shl, pw_shr, pw_dv, nI_l, lN_i, Bool.false_eq_true, reduceCtorEq, if_false, if_true, ↓reduceIte, if_pos, if_neg, h1, e_size, e_power, r_152_19, hWi, hgi, hwi, lN_mul, lN_add, En]
    · simp (disch := omega) only [pw_lt, pw_cb, pw_cbx, pw_cbxr, pw_lit, pw_litL, pw_oi, pw_oim, pw_oi8, pw_m, pw_ldI, pw_ldL, pw_ldR, pw_stI, pw_stL, pw_nz, pw_ltI, pw_leI, pw_eqI, pw_eqm, pw_eqm2, pw_ltm, pw_mlt, pw_lem, pw_mle, pw_mm, pw_dec, pw_nar0, pw_nar1, nI_add, pw_sub, pw_mul, pw_and, pw_or, pw_andn, pw_shl1, pw_shl, pw_shr, pw_dv, nI_l, lN_i, Bool.false_eq_true, reduceCtorEq, if_false, if_true, ↓reduceIte, if_pos, if_neg, h1, En]
  · intro rec
    unfold b_X12_expects_5
    simp (disch := omega) only [pw_lt, pw_cb, pw_cbx, pw_cbxr, pw_lit, pw_litL, pw_oi, pw_oim, pw_oi8, pw_m, pw_ldI, pw_ldL, pw_ldR, pw_stI, pw_stL, pw_nz, pw_ltI, pw_leI, pw_eqI, pw_eqm, pw_eqm2, pw_ltm, pw_mlt, pw_lem, pw_mle, pw_mm, pw_dec, pw_nar0, pw_nar1, nI_add, pw_sub, pw_mul, pw_and, pw_or, pw_andn, pw_shl1, pw_shl, pw_shr, pw_dv, nI_l, lN_i, Bool.false_eq_true, reduceCtorEq, if_false, if_true, ↓reduceIte, if_pos, if_neg]
/-! the class goes down through the parts -/
def chk (p : Nat) : Nat → Nat → Bool
  | 0, c => c == 0
  | m + 1, c => c != 0 && chk p m ((c - 1) &&& p)
def chk4 (p : Nat) : Bool := decide (4 < pc p) || chk p (2 ^ pc p - 1) p
set_option maxRecDepth 16384 in
theorem chk_ok {p : Nat} (hp : p < 4096) (h4 : pc p ≤ 4) : chk p (2 ^ pc p - 1) p = true := by
  have := pw_4096 (P := fun p => chk4 p = true) (by decide +kernel) hp
  unfold chk4 at this
  rw [decide_eq_false (by omega), Bool.false_or] at this
  exact this
def FW (K T : Nat → Int32) (h : PH) : Prop := FC K T h ∧ h.1 16 0 = nI (gv K 7) ∧ (∀ i, i < gv K 5 → h.1 5 i = K (34 + i))
set_option maxRecDepth 16384 in
theorem FW.to {K T : Nat → Int32} {h h' : PH} {S : List Nat} (R : FW K T h) (e : eqx S h h') (F : FC K T h') (h5 : 5 ∉ S) (h16 : 16 ∉ S) : FW K T h' := by
  obtain ⟨a, b, c⟩ := R
  refine ⟨F, ?_, ?_⟩
  · rw [(e 16 h16).1]; exact b
  · rw [(e 5 h5).1]; exact c
set_option maxRecDepth 16384 in
theorem RC.fw {K T : Nat → Int32} {h : PH} (R : RC K T h) : FW K T h := ⟨R.1, R.2.2.2.1, R.2.2.2.2.1⟩
set_option maxRecDepth 16384 in
theorem c_weightExpected {K T : Nat → Int32} {h : PH} {p hd : Nat} (W : FW K T h) (hp : p ≤ ga K) (h4 : pc p ≤ 4) (hh : hd ≤ 100) : ok (f_X2_weightExpected 33 (nI p) (nI hd) h) (fun r h' => r = lN (En K T p hd (p + 1)) ∧ eqx [31, 32] h h' ∧ FC K T h') := by
  have H := W.1.1
  obtain ⟨b0, b1, b2, b3, b4, b5, b6, b7, b8, b9, b10⟩ := rk_b H
  have hpp : 2 ^ pc p ≤ 2 ^ 4 := Nat.pow_le_pow_right (by decide) h4
  have h24 : 2 ^ 4 = 16 := rfl
  have h1p : 0 < 2 ^ pc p := Nat.two_pow_pos _
  unfold f_X2_weightExpected
  simp (disch := omega) only [pw_lt, pw_cb, pw_cbx, pw_cbxr, pw_lit, pw_litL, pw_oi, pw_oim, pw_oi8, pw_m, pw_ldI, pw_ldL, pw_ldR, pw_stI, pw_stL, pw_nz, pw_ltI, pw_leI, pw_eqI, pw_eqm, pw_eqm2, pw_ltm, pw_mlt, pw_lem, pw_mle, pw_mm, pw_dec, pw_nar0, pw_nar1, nI_add, pw_sub, pw_mul, pw_and, pw_or, pw_andn, pw_shl1, pw_shl, pw_shr, pw_dv, nI_l, lN_i, Bool.false_eq_true, reduceCtorEq, if_false, if_true, ↓reduceIte, if_pos, if_neg, e_bitCount]
  refine lp_ok (fun n s h' => eqx [31, 32] h h' ∧ FC K T h' ∧ ((n = 0 ∧ ∃ x, s = (x, lN (En K T p hd (p + 1)), nI (2 ^ pc p))) ∨ ∃ m c S, n = m + 1 ∧ m + 1 ≤ 2 ^ pc p ∧ s = (nI c, lN S, nI (2 ^ pc p - 1 - m)) ∧ sdf c p = 0 ∧ chk p m c = true ∧ S + En K T p hd (c + 1) = En K T p hd (p + 1))) ?_ FU (2 ^ pc p) _ h ⟨eqx_rfl _ _, W.1, Or.inr ⟨2 ^ pc p - 1, p, 0, by omega, by omega, by rw [Nat.sub_self], by rw [sdf_0, Nat.and_self], chk_ok (by omega) h4, by omega⟩⟩ (fu_lt (by omega))
  rintro n rec s h' ⟨e1, F1, ⟨rfl, x, rfl⟩ | ⟨m, c, S, rfl, hm, rfl, hc, hk, hS⟩⟩ hrec
  · unfold b_X2_weightExpected_14
    simp (disch := omega) only [pw_lt, pw_cb, pw_cbx, pw_cbxr, pw_lit, pw_litL, pw_oi, pw_oim, pw_oi8, pw_m, pw_ldI, pw_ldL, pw_ldR, pw_stI, pw_stL, pw_nz, pw_ltI, pw_leI, pw_eqI, pw_eqm, pw_eqm2, pw_ltm, pw_mlt, pw_lem, pw_mle, pw_mm, pw_dec, pw_nar0, pw_nar1, nI_add, pw_sub, pw_mul, pw_and, pw_or, pw_andn, pw_shl1, pw_shr, pw_dv, nI_l, lN_i, Bool.false_eq_true, reduceCtorEq, if_false, if_true, ↓reduceIte, if_pos, if_neg, Nat.le_refl]
    exact ok_some ⟨rfl, e1, F1⟩
  · have W1 := W.to e1 F1 (by decide) (by decide)
    have hcp := sub_le hc
    have p1 := pc_le (show c < 4096 by omega)
    have hpm := pc_mono hc
    have hwo := c_weatherOf (h := h') (p := c) H F1.2.1 (by omega)
    unfold b_X2_weightExpected_14
    simp (disch := omega) only [pw_lt, pw_cb, pw_cbx, pw_cbxr, pw_lit, pw_litL, pw_oi, pw_oim, pw_oi8, pw_m, pw_ldI, pw_ldL, pw_ldR, pw_stI, pw_stL, pw_nz, pw_ltI, pw_leI, pw_eqI, pw_eqm, pw_eqm2, pw_ltm, pw_mlt, pw_lem, pw_mle, pw_mm, pw_dec, pw_nar0, pw_nar1, nI_add, pw_sub, pw_mul, pw_and, pw_or, pw_andn, pw_shl1, pw_shr, pw_dv, nI_l, lN_i, Bool.false_eq_true, reduceCtorEq, if_false, if_true, ↓reduceIte, if_pos, if_neg, e_bitCount, c_power, r_33_0, r_33_1, r_33_2, hwo]
    refine ok_cb (c_at F1 (wx_le K c)) ?_
    rintro r h2 ⟨rfl, e2, F2⟩
    have W2 := W1.to e2 F2 (by decide) (by decide)
    have hg := gG_lt (T := T) H c
    have hgh : hw K T (wx K c) &&& gv K 7 = gG K T c := gr_hw K T _
    have hwl : wG K T c ≤ 90 := wt_le H _
    have hwd : wt K (gG K T c) = wG K T c := rfl
    have hww := c_weightOf (h := h2) (s := gG K T c) H F2.2.1 W2.2.2 (by omega)
    rw [hwd] at hww
    have hopen := W2.2.1
    have hterm : S + hd ^ pc c * (100 - hd) ^ (pc p - pc c) * wG K T c + En K T p hd c = En K T p hd (p + 1) := by
      rw [← hS, En, if_pos hc]
      omega
    simp (disch := omega) only [pw_lt, pw_cb, pw_cbx, pw_cbxr, pw_lit, pw_litL, pw_oi, pw_oim, pw_oi8, pw_m, pw_ldI, pw_ldL, pw_ldR, pw_stI, pw_stL, pw_nz, pw_ltI, pw_leI, pw_eqI, pw_eqm, pw_eqm2, pw_ltm, pw_mlt, pw_lem, pw_mle, pw_mm, pw_dec, pw_nar0, pw_nar1, nI_add, pw_mul, pw_and, pw_or, pw_andn, pw_shl1, pw_shl, pw_shr, pw_dv, nI_l, lN_i, Bool.false_eq_true, reduceCtorEq, if_false, if_true, ↓reduceIte, if_pos, if_neg, hopen, hgh, hww, lN_mul, lN_add]
    cases m with
    | zero =>
      have hc0 : c = 0 := by
        unfold chk at hk
        simpa using hk
      subst hc0
      refine hrec 0 _ h2 (by omega) ⟨eqx_trans e1 e2, F2, Or.inl ⟨rfl, ?_⟩⟩
      rw [show 2 ^ pc p - 1 - 0 + 1 = 2 ^ pc p by omega]
      have hE0 : En K T p hd 0 = 0 := rfl
      rw [hE0, Nat.add_zero] at hterm
      rw [hterm]
      exact ⟨_, rfl⟩
    | succ m =>
      unfold chk at hk
      simp only [Bool.and_eq_true, bne_iff_ne, ne_eq] at hk
      refine hrec (m + 1) _ h2 (by omega) ⟨eqx_trans e1 e2, F2, Or.inr ⟨m, (c - 1) &&& p, S + hd ^ pc c * (100 - hd) ^ (pc p - pc c) * wG K T c, rfl, by omega, ?_, sub_sub, hk.2, ?_⟩⟩
      · rw [pw_sub (by omega), pw_and, show 2 ^ pc p - 1 - (m + 1) + 1 = 2 ^ pc p - 1 - m by omega]
      · rw [← En_prev hc (by omega)]
        exact hterm
/-! best chance -/
def Vn3 (K T : Nat → Int32) (hd p : Nat) : Nat := En K T p hd (p + 1) * 100 ^ (3 - pc p)
set_option maxRecDepth 16384 in
theorem Vn3_lt {K T : Nat → Int32} (H : RK K) {hd p : Nat} (hh : hd ≤ 100) (hp : p ≤ ga K) (h3 : pc p ≤ 3) : Vn3 K T hd p < 9223372036854775808 := by
  obtain ⟨b0, b1, b2, b3, b4, b5, b6, b7, b8, b9, b10⟩ := rk_b H
  have h1 := En_le (T := T) H (p := p) hh (p + 1)
  have h2 : 100 ^ pc p ≤ 100 ^ 3 := Nat.pow_le_pow_right (by decide) h3
  have h4 : 100 ^ (3 - pc p) ≤ 100 ^ 3 := Nat.pow_le_pow_right (by decide) (by omega)
  have h5 : (p + 1) * (100 ^ pc p * 90) ≤ 4096 * (100 ^ 3 * 90) := Nat.mul_le_mul (by omega) (Nat.mul_le_mul_right _ h2)
  have h6 : En K T p hd (p + 1) * 100 ^ (3 - pc p) ≤ 4096 * (100 ^ 3 * 90) * 100 ^ 3 := Nat.mul_le_mul (Nat.le_trans h1 h5) h4
  unfold Vn3
  have e : 4096 * (100 ^ 3 * 90) * 100 ^ 3 = 368640000000000000 := rfl
  omega
def bc2 (K T : Nat → Int32) (hd : Nat) : Option Nat → Nat → Option Nat
  | none, p => some p
  | some b, p => if Vn3 K T hd b < Vn3 K T hd p ∨ Vn3 K T hd b = Vn3 K T hd p ∧ pc p < pc b then some p else some b
def bcs (K T : Nat → Int32) (hd : Nat) (o : Option Nat) (p : Nat) : Option Nat := if 3 < pc p then o else bc2 K T hd o p
set_option maxRecDepth 16384 in
theorem pw_cl (x y : Int64) : (lg_cmp x y < nI 0) = (x < y) := propext (lg_cmp_lt x y)
set_option maxRecDepth 16384 in
theorem pw_cle (x y : Int64) : (lg_cmp x y ≤ nI 0) = (x ≤ y) := propext (lg_cmp_le x y)
set_option maxRecDepth 16384 in
theorem pw_ce (x y : Int64) : (lg_cmp x y = nI 0) = (x = y) := propext (lg_cmp_eq x y)
set_option maxRecDepth 16384 in
theorem pw_cg (x y : Int64) : (nI 0 < lg_cmp x y) = (y < x) := propext (lg_cmp_gt x y)
set_option maxRecDepth 16384 in
theorem pw_cge (x y : Int64) : (nI 0 ≤ lg_cmp x y) = (y ≤ x) := propext (lg_cmp_ge x y)
def bcR (K T : Nat → Int32) (hd : Nat) : Option Nat := fA (abl K T) (bcs K T hd) none (ga K + 1)
set_option maxRecDepth 16384 in
theorem bcs_lt {K T : Nat → Int32} {hd : Nat} : ∀ n b, fA (abl K T) (bcs K T hd) none n = some b → b < n ∧ pc b ≤ 3
  | 0, b, h => by cases h
  | n + 1, b, h => by
    have ih := bcs_lt (K := K) (T := T) (hd := hd) n
    have ih2 : fA (abl K T) (bcs K T hd) none n = some b → b < n + 1 ∧ pc b ≤ 3 := fun q => ⟨by have := (ih b q).1; omega, (ih b q).2⟩
    rw [fA] at h
    by_cases hb : abl K T n = true
    · rw [if_pos hb, bcs] at h
      by_cases h3 : 3 < pc n
      · rw [if_pos h3] at h
        exact ih2 h
      · rw [if_neg h3] at h
        cases hq : fA (abl K T) (bcs K T hd) none n with
        | none =>
          rw [hq, bc2] at h
          cases h
          exact ⟨by omega, by omega⟩
        | some c =>
          rw [hq] at ih2
          rw [hq, bc2] at h
          by_cases hc : Vn3 K T hd c < Vn3 K T hd n ∨ Vn3 K T hd c = Vn3 K T hd n ∧ pc n < pc c
          · rw [if_pos hc] at h
            cases h
            exact ⟨by omega, by omega⟩
          · rw [if_neg hc] at h
            exact ih2 h
    · rw [if_neg hb] at h
      exact ih2 h
def mL : Int64 := -1
set_option maxRecDepth 16384 in
theorem pw_mL : -(lN 1) = mL := id rfl
def vO (f : Nat → Nat) (z : Int64) : Option Nat → Int64
  | none => z
  | some b => lN (f b)
set_option maxRecDepth 16384 in
theorem e_bestChance_lp {K T : Nat → Int32} {h : PH} {hd : Nat} (R : RX K T h) (hh : hd ≤ 100) : lp (b_X12_bestChance_30 152 (nI hd)) FU (mI, lN 0, nI 0) h = some (oI (bcR K T hd), h) := by
  have hex := fun p (hp : p ≤ ga K) => e_expects (p := p) (hd := hd) R hp hh
  obtain ⟨H, r1, r2, r3, r4⟩ := R
  obtain ⟨b0, b1, b2, b3, b4, b5, b6, b7, b8, b9, b10⟩ := rk_b H
  have hev := e_everywhere (h := h) (by rw [r1]; exact H)
  rw [r1] at hev
  refine lp_run (fun i => (oI (fA (abl K T) (bcs K T hd) none i), vO (Vn3 K T hd) (lN 0) (fA (abl K T) (bcs K T hd) none i), nI i)) (fun _ => h) (ga K + 1) _ ?_ ?_ FU (fu_lt (by omega))
  · intro i hi rec
    have p1 := pc_le (show i < 4096 by omega)
    have hwy := e_whyNot (h := h) (p := i) (by rw [r1]; exact H) (by rw [r1, r2]; exact r3) (by rw [r1]; exact r4) (by rw [r1]; omega)
    rw [r1, r2] at hwy
    have hwl := wy_le K T i
    have hexi := hex i (by omega)
    unfold b_X12_bestChance_30
    by_cases h3 : 3 < pc i
    · by_cases hA : abl K T i = true
      · simp (disch := omega) only [pw_lt, pw_cb, pw_cbx, pw_cbxr, pw_lit, pw_litL, pw_oi, pw_oim, pw_oi8, pw_m, pw_ldI, pw_ldL, pw_ldR, pw_stI, pw_stL, pw_nz, pw_ltI, pw_leI, pw_eqI, pw_eqm, pw_eqm2, pw_ltm, pw_mlt, pw_lem, pw_mle, pw_mm, pw_dec, pw_nar0, pw_nar1, nI_add, pw_sub, pw_mul, pw_and, pw_or, pw_andn, pw_shl1, pw_shl, pw_shr, pw_dv, nI_l, lN_i, Bool.false_eq_true, reduceCtorEq, if_false, if_true, ↓reduceIte, if_pos, if_neg, hev, e_size, fA, hA, bcs, h3]
      · simp (disch := omega) only [pw_lt, pw_cb, pw_cbx, pw_cbxr, pw_lit, pw_litL, pw_oi, pw_oim, pw_oi8, pw_m, pw_ldI, pw_ldL, pw_ldR, pw_stI, pw_stL, pw_nz, pw_ltI, pw_leI, pw_eqI, pw_eqm, pw_eqm2, pw_ltm, pw_mlt, pw_lem, pw_mle, pw_mm, pw_dec, pw_nar0, pw_nar1, nI_add, pw_sub, pw_mul, pw_and, pw_or, pw_andn, pw_shl1, pw_shl, pw_shr, pw_dv, nI_l, lN_i, Bool.false_eq_true, reduceCtorEq, if_false, if_true, ↓reduceIte, if_pos, if_neg, hev, e_size, fA, hA, h3]
    · by_cases h1 : wy K T i = 0
      · have hA : abl K T i = true := decide_eq_true h1
        have hV : lN (En K T i hd (i + 1)) * lN (100 ^ (3 - pc i)) = lN (Vn3 K T hd i) := lN_mul _ _
        have hVl := Vn3_lt (T := T) (hd := hd) H hh (p := i) (by omega) (by omega)
        cases hb : fA (abl K T) (bcs K T hd) none i with
        | none => simp (disch := omega) only [pw_lt, pw_cb, pw_cbx, pw_cbxr, pw_lit, pw_litL, pw_oi, pw_oim, pw_oi8, pw_m, pw_ldI, pw_ldL, pw_ldR, pw_stI, pw_stL, pw_nz, pw_ltI, pw_leI, pw_eqI, pw_eqm, pw_eqm2, pw_ltm, pw_mlt, pw_lem, pw_mle, pw_mm, pw_dec, pw_nar0, pw_nar1, nI_add, pw_sub, pw_mul, pw_and, pw_or, pw_andn, pw_shl1, pw_shl, pw_shr, pw_dv, nI_l, lN_i, Bool.false_eq_true, reduceCtorEq, if_false, if_true, ↓reduceIte, if_pos, if_neg, hev, e_size, e_power, hwy, h1, hexi, fA, hA, bcs, bc2, h3, hb, oI, vO, hV]
        | some b =>
          obtain ⟨hbl, hb3⟩ := bcs_lt i b hb
          have p2 := pc_le (show b < 4096 by omega)
          have hVl2 := Vn3_lt (T := T) (hd := hd) H hh (p := b) (by omega) hb3
          by_cases c1 : Vn3 K T hd i < Vn3 K T hd b
          · have z1 : ¬ (Vn3 K T hd b < Vn3 K T hd i ∨ Vn3 K T hd b = Vn3 K T hd i ∧ pc i < pc b) := by omega
            simp (disch := omega) only [pw_lt, pw_cb, pw_cbx, pw_cbxr, pw_lit, pw_litL, pw_oi, pw_oim, pw_oi8, pw_m, pw_ldI, pw_ldL, pw_ldR, pw_stI, pw_stL, pw_nz, pw_ltI, pw_leI, pw_eqI, pw_eqm, pw_eqm2, pw_ltm, pw_mlt, pw_lem, pw_mle, pw_mm, pw_dec, pw_nar0, pw_nar1, nI_add, pw_sub, pw_mul, pw_and, pw_or, pw_andn, pw_shl1, pw_shl, pw_shr, pw_dv, nI_l, lN_i, Bool.false_eq_true, reduceCtorEq, if_false, if_true, ↓reduceIte, if_pos, if_neg, hev, e_size, e_power, hwy, h1, hexi, fA, hA, bcs, bc2, h3, hb, oI, vO, hV, pw_cl, lN_lt', z1]
          · by_cases c2 : Vn3 K T hd i = Vn3 K T hd b
            · by_cases c3 : pc i < pc b
              · have z1 : Vn3 K T hd b < Vn3 K T hd i ∨ Vn3 K T hd b = Vn3 K T hd i ∧ pc i < pc b := by omega
                simp (disch := omega) only [pw_lt, pw_cb, pw_cbx, pw_cbxr, pw_lit, pw_litL, pw_oi, pw_oim, pw_oi8, pw_m, pw_ldI, pw_ldL, pw_ldR, pw_stI, pw_stL, pw_nz, pw_ltI, pw_leI, pw_eqI, pw_eqm, pw_eqm2, pw_ltm, pw_mlt, pw_lem, pw_mle, pw_mm, pw_dec, pw_nar0, pw_nar1, nI_add, pw_sub, pw_mul, pw_and, pw_or, pw_andn, pw_shl1, pw_shl, pw_shr, pw_dv, nI_l, lN_i, Bool.false_eq_true, reduceCtorEq, if_false, if_true, ↓reduceIte, if_pos, if_neg, hev, e_size, e_power, hwy, h1, hexi, fA, hA, bcs, bc2, h3, hb, oI, vO, hV, pw_cl, pw_ce, lN_lt', lN_eq', c1, z1]
              · have z1 : ¬ (Vn3 K T hd b < Vn3 K T hd i ∨ Vn3 K T hd b = Vn3 K T hd i ∧ pc i < pc b) := by omega
                simp (disch := omega) only [pw_lt, pw_cb, pw_cbx, pw_cbxr, pw_lit, pw_litL, pw_oi, pw_oim, pw_oi8, pw_m, pw_ldI, pw_ldL, pw_ldR, pw_stI, pw_stL, pw_nz, pw_ltI, pw_leI, pw_eqI, pw_eqm, pw_eqm2, pw_ltm, pw_mlt, pw_lem, pw_mle, pw_mm, pw_dec, pw_nar0, pw_nar1, nI_add, pw_sub, pw_mul, pw_and, pw_or, pw_andn, pw_shl1, pw_shl, pw_shr, pw_dv, nI_l, lN_i, Bool.false_eq_true, reduceCtorEq, if_false, if_true, ↓reduceIte, if_pos, if_neg, hev, e_size, e_power, hwy, h1, hexi, fA, hA, bcs, bc2, h3, hb, oI, vO, hV, pw_cl, pw_ce, lN_lt', lN_eq', c1, z1]
            · have z1 : Vn3 K T hd b < Vn3 K T hd i ∨ Vn3 K T hd b = Vn3 K T hd i ∧ pc i < pc b := by omega
              simp (disch := omega) only [pw_lt, pw_cb, pw_cbx, pw_cbxr, pw_lit, pw_litL, pw_oi, pw_oim, pw_oi8, pw_m, pw_ldI, pw_ldL, pw_ldR, pw_stI, pw_stL, pw_nz, pw_ltI, pw_leI, pw_eqI, pw_eqm, pw_eqm2, pw_ltm, pw_mlt, pw_lem, pw_mle, pw_mm, pw_dec, pw_nar0, pw_nar1, nI_add, pw_sub, pw_mul, pw_and, pw_or, pw_andn, pw_shl1, pw_shl, pw_shr, pw_dv, nI_l, lN_i, Bool.false_eq_true, reduceCtorEq, if_false, if_true, ↓reduceIte, if_pos, if_neg, hev, e_size, e_power, hwy, h1, hexi, fA, hA, bcs, bc2, h3, hb, oI, vO, hV, pw_cl, pw_ce, lN_lt', lN_eq', c1, z1]
      · have hA : abl K T i = false := decide_eq_false h1
        simp (disch := omega) only [pw_lt, pw_cb, pw_cbx, pw_cbxr, pw_lit, pw_litL, pw_oi, pw_oim, pw_oi8, pw_m, pw_ldI, pw_ldL, pw_ldR, pw_stI, pw_stL, pw_nz, pw_ltI, pw_leI, pw_eqI, pw_eqm, pw_eqm2, pw_ltm, pw_mlt, pw_lem, pw_mle, pw_mm, pw_dec, pw_nar0, pw_nar1, nI_add, pw_sub, pw_mul, pw_and, pw_or, pw_andn, pw_shl1, pw_shl, pw_shr, pw_dv, nI_l, lN_i, Bool.false_eq_true, reduceCtorEq, if_false, if_true, ↓reduceIte, if_pos, if_neg, hev, e_size, hwy, h1, fA, hA, h3]
  · intro rec
    unfold b_X12_bestChance_30
    simp (disch := omega) only [pw_lt, pw_cb, pw_cbx, pw_cbxr, pw_lit, pw_litL, pw_oi, pw_oim, pw_oi8, pw_m, pw_ldI, pw_ldL, pw_ldR, pw_stI, pw_stL, pw_nz, pw_ltI, pw_leI, pw_eqI, pw_eqm, pw_eqm2, pw_ltm, pw_mlt, pw_lem, pw_mle, pw_mm, pw_dec, pw_nar0, pw_nar1, nI_add, pw_sub, pw_mul, pw_and, pw_or, pw_andn, pw_shl1, pw_shl, pw_shr, pw_dv, nI_l, lN_i, Bool.false_eq_true, reduceCtorEq, if_false, if_true, ↓reduceIte, if_pos, if_neg, hev]
    rfl
set_option maxRecDepth 16384 in
theorem c_bestByChance {K T : Nat → Int32} {h : PH} {hd : Nat} (R : RC K T h) (hh : hd ≤ 100) : ok (f_X2_bestByChance 33 (nI hd) h) (fun r h' => r = oI (bcR K T hd) ∧ eqx [31, 32] h h' ∧ RC K T h') := by
  have H := R.1.1
  obtain ⟨b0, b1, b2, b3, b4, b5, b6, b7, b8, b9, b10⟩ := rk_b H
  unfold f_X2_bestByChance
  simp only [pw_lt, pw_lit, pw_m, pw_litL, pw_mL]
  refine c_over (body := b_X2_bestByChance_9 33 (nI hd)) R (fun s k => (oI s, vO (Vn3 K T hd) mL s, nI k)) (bcs K T hd) none (by rw [fu_eq]; omega) ?_ ?_
  · intro rec s p k h' e1 R1 v4 v34 hk hk2 hl hp hA hs hrec
    have p1 := pc_le (show p < 4096 by omega)
    unfold b_X2_bestByChance_9
    simp (disch := omega) only [pw_lt, pw_cb, pw_cbx, pw_cbxr, pw_lit, pw_litL, pw_oi, pw_oim, pw_oi8, pw_m, pw_ldI, pw_ldL, pw_ldR, pw_stI, pw_stL, pw_nz, pw_ltI, pw_leI, pw_eqI, pw_eqm, pw_eqm2, pw_ltm, pw_mlt, pw_lem, pw_mle, pw_mm, pw_dec, pw_nar0, pw_nar1, nI_add, pw_sub, pw_mul, pw_and, pw_or, pw_andn, pw_shl1, pw_shl, pw_shr, pw_dv, nI_l, lN_i, Bool.false_eq_true, reduceCtorEq, if_false, if_true, ↓reduceIte, v4, r_33_3, v34, e_bitCount]
    rw [if_neg (by omega)]
    by_cases h3 : 3 < pc p
    · rw [if_pos h3]
      have := hrec h' (eqx_rfl _ _) R1.1
      rw [bcs, if_pos h3] at this
      exact this
    · rw [if_neg h3]
      refine ok_cb (c_weightExpected R1.fw hp (by omega) hh) ?_
      rintro r h2 ⟨rfl, e2, F2⟩
      have v34' : h2.1 34 k = nI p := by rw [(e2 34 (by decide)).1, v34]
      have hV : lN (En K T p hd (p + 1)) * lN (100 ^ (3 - pc p)) = lN (Vn3 K T hd p) := lN_mul _ _
      have hVl := Vn3_lt (T := T) (hd := hd) H hh hp (by omega)
      have hrec := hrec h2 e2 F2
      cases s with
      | none =>
        have z1 : ¬ (lN (Vn3 K T hd p) ≤ mL) := by
          rw [Int64.le_iff_toInt_le, lN_tI hVl, show mL.toInt = -1 by decide +kernel]
          omega
        simp (disch := omega) only [pw_lt, pw_cb, pw_cbx, pw_cbxr, pw_lit, pw_litL, pw_oi, pw_oim, pw_oi8, pw_m, pw_ldI, pw_ldL, pw_ldR, pw_stI, pw_stL, pw_nz, pw_ltI, pw_leI, pw_eqI, pw_eqm, pw_eqm2, pw_ltm, pw_mlt, pw_lem, pw_mle, pw_mm, pw_dec, pw_nar0, pw_nar1, nI_add, pw_sub, pw_mul, pw_and, pw_or, pw_andn, pw_shl1, pw_shl, pw_shr, pw_dv, nI_l, lN_i, Bool.false_eq_true, reduceCtorEq, if_false, if_true, ↓reduceIte, if_pos, if_neg, c_power, hV, vO, pw_cle, z1, v34', r_33_3]
        rw [bcs, if_neg h3, bc2] at hrec
        exact hrec
      | some b =>
        obtain ⟨hbl, hb3⟩ := bcs_lt p b hs.symm
        have hVl2 := Vn3_lt (T := T) (hd := hd) H hh (p := b) (by omega) hb3
        by_cases c1 : Vn3 K T hd b < Vn3 K T hd p
        · have hm : bcs K T hd (some b) p = some p := by
            rw [bcs, if_neg h3, bc2]
            exact if_pos (Or.inl c1)
          rw [hm] at hrec
          simp (disch := omega) only [pw_lt, pw_cb, pw_cbx, pw_cbxr, pw_lit, pw_litL, pw_oi, pw_oim, pw_oi8, pw_m, pw_ldI, pw_ldL, pw_ldR, pw_stI, pw_stL, pw_nz, pw_ltI, pw_leI, pw_eqI, pw_eqm, pw_eqm2, pw_ltm, pw_mlt, pw_lem, pw_mle, pw_mm, pw_dec, pw_nar0, pw_nar1, nI_add, pw_sub, pw_mul, pw_and, pw_or, pw_andn, pw_shl1, pw_shl, pw_shr, pw_dv, nI_l, lN_i, Bool.false_eq_true, reduceCtorEq, if_false, if_true, ↓reduceIte, if_pos, if_neg, c_power, hV, vO, pw_cle, lN_le', v34', r_33_3]
          exact hrec
        · by_cases c2 : Vn3 K T hd p = Vn3 K T hd b
          · have hls := c_lesser (h := h2) (a := some b) (b := some p) (fun q hq => by cases hq; omega) (fun q hq => by cases hq; omega)
            have hls : f_X2_lesser (nI b) (nI p) h2 = some (oI (lsr (some b) (some p)), h2) := hls
            have hm : bcs K T hd (some b) p = lsr (some b) (some p) := by
              rw [bcs, if_neg h3, bc2, lsr]
              by_cases c3 : pc p < pc b
              · rw [if_pos (Or.inr ⟨c2.symm, c3⟩), if_neg (by omega)]
              · rw [if_neg (by omega), if_pos (by omega)]
            have hw3 : vO (Vn3 K T hd) mL (lsr (some b) (some p)) = lN (Vn3 K T hd b) := by
              simp only [lsr]
              by_cases c3 : pc b < pc p ∨ pc b = pc p ∧ b < p
              · rw [if_pos c3]
                rfl
              · rw [if_neg c3]
                exact congrArg lN c2
            rw [hm, hw3] at hrec
            simp (disch := omega) only [pw_lt, pw_cb, pw_cbx, pw_cbxr, pw_lit, pw_litL, pw_oi, pw_oim, pw_oi8, pw_m, pw_ldI, pw_ldL, pw_ldR, pw_stI, pw_stL, pw_nz, pw_ltI, pw_leI, pw_eqI, pw_eqm, pw_eqm2, pw_ltm, pw_mlt, pw_lem, pw_mle, pw_mm, pw_dec, pw_nar0, pw_nar1, nI_add, pw_sub, pw_mul, pw_and, pw_or, pw_andn, pw_shl1, pw_shl, pw_shr, pw_dv, nI_l, lN_i, Bool.false_eq_true, reduceCtorEq, if_false, if_true, ↓reduceIte, if_pos, if_neg, c_power, hV, vO, oI, pw_cle, pw_ce, lN_le', lN_eq', c2, hls, v34', r_33_3, Nat.le_refl]
            exact hrec
          · have hm : bcs K T hd (some b) p = some b := by
              rw [bcs, if_neg h3, bc2]
              exact if_neg (by omega)
            rw [hm] at hrec
            simp (disch := omega) only [pw_lt, pw_cb, pw_cbx, pw_cbxr, pw_lit, pw_litL, pw_oi, pw_oim, pw_oi8, pw_m, pw_ldI, pw_ldL, pw_ldR, pw_stI, pw_stL, pw_nz, pw_ltI, pw_leI, pw_eqI, pw_eqm, pw_eqm2, pw_ltm, pw_mlt, pw_lem, pw_mle, pw_mm, pw_dec, pw_nar0, pw_nar1, nI_add, pw_sub, pw_mul, pw_and, pw_or, pw_andn, pw_shl1, pw_shl, pw_shr, pw_dv, nI_l, lN_i, Bool.false_eq_true, reduceCtorEq, if_false, if_true, ↓reduceIte, if_pos, if_neg, c_power, hV, vO, pw_cle, pw_ce, lN_le', lN_eq', v34', r_33_3]
            exact hrec
  · intro rec s h' e1 R1 v4 hl hs
    unfold b_X2_bestByChance_9
    simp (disch := omega) only [pw_lt, pw_cb, pw_cbx, pw_cbxr, pw_lit, pw_litL, pw_oi, pw_oim, pw_oi8, pw_m, pw_ldI, pw_ldL, pw_ldR, pw_stI, pw_stL, pw_nz, pw_ltI, pw_leI, pw_eqI, pw_eqm, pw_eqm2, pw_ltm, pw_mlt, pw_lem, pw_mle, pw_mm, pw_dec, pw_nar0, pw_nar1, nI_add, pw_sub, pw_mul, pw_and, pw_or, pw_andn, pw_shl1, pw_shl, pw_shr, pw_dv, nI_l, lN_i, Bool.false_eq_true, reduceCtorEq, if_false, if_true, ↓reduceIte, if_pos, if_neg, v4, Nat.le_refl]
    exact ok_some ⟨by rw [hs]; rfl, e1, R1⟩

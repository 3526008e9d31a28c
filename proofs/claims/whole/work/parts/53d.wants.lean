/-! ===== wants: the calls ===== -/
/- numbers that tell a weather -/
def isV (K : Nat → Int32) (v : Int64) : Prop := ∃ x, x ≤ 2 * ga K + 1 ∧ v = lN x
set_option maxRecDepth 16384 in
theorem l_pos {v : Int64} (h : ¬ v < lN 0) : ∃ x, x < 9223372036854775808 ∧ v = lN x := by
  have h1 : lN 0 ≤ v := Int64.not_lt.mp h
  rw [Int64.le_iff_toInt_le, lN_toInt (by decide)] at h1
  have h2 := Int64.toInt_lt v
  have e : (2 : Int) ^ 63 = 9223372036854775808 := rfl
  have h3 : v.toInt < 9223372036854775808 := h2
  refine ⟨v.toInt.toNat, by omega, Int64.toInt_inj.mp ?_⟩
  rw [lN_tI (by omega)]
  omega
set_option maxRecDepth 16384 in
theorem lN_bit {x i : Nat} (hi : i < 64) : (lN x).toBitVec.getLsbD i = x.testBit i := by
  show (BitVec.ofNat 64 x).getLsbD i = _
  rw [BitVec.getLsbD_ofNat]
  simp [hi]
set_option maxRecDepth 16384 in
theorem l_sh1 {x : Nat} (hx : x < 9223372036854775808) : lN x >>> lN 1 = lN (x / 2) := Int64.toBitVec_inj.mp (BitVec.eq_of_getLsbD_eq (fun i hi => by
  rw [b64_sshr (by decide) _ hi, lN_bit hi]
  have e : (2 : Nat) ^ 63 = 9223372036854775808 := rfl
  by_cases h : 1 + i < 64
  · rw [if_pos h, lN_bit h, Nat.add_comm, Nat.testBit_succ]
  · rw [if_neg h, lN_bit (by omega), Nat.testBit_lt_two_pow (show x < 2 ^ 63 by omega), Nat.testBit_lt_two_pow (show x / 2 < 2 ^ i by rw [show i = 63 by omega]; omega)]))
set_option maxRecDepth 16384 in
theorem sh1_c : ((1 : Int32).toInt64 &&& lN 63) = lN 1 := by decide +kernel
set_option maxRecDepth 16384 in
theorem isV_iff {K : Nat → Int32} (H : RK K) {v : Int64} : isV K v ↔ (¬ v < lN 0 ∧ v >>> lN 1 ≤ lN (ga K)) := by
  have hb := rk_b H
  have hga : ga K < 4096 := hb.2.2.2.2.2.2.2.2.2.1
  constructor
  · rintro ⟨x, hx, rfl⟩
    refine ⟨?_, ?_⟩
    · rw [lN_lt' (by omega) (by omega)]
      omega
    · rw [l_sh1 (by omega), lN_le' (by omega) (by omega)]
      omega
  · rintro ⟨h1, h2⟩
    obtain ⟨x, hx, rfl⟩ := l_pos h1
    rw [l_sh1 hx, lN_le' (by omega) (by omega)] at h2
    exact ⟨x, by omega, rfl⟩
set_option maxRecDepth 16384 in
theorem c_take5 {K : Nat → Int32} {h : PH} {t m : Nat} {f : Nat → Int64} (H : RK K) (h8 : h.1 3 8 = nI (ga K)) (ht : t < 4) (h1 : 1 ≤ m) (hm : m ≤ 12) (hmany : h.1 (85 + 2 * t) 1 = nI m) (hrow : ∀ k, k < 30 → h.2 (86 + 2 * t) k = f k) (hW : ∀ k, k < m → isV K (f k)) : ok (f_X5_take 40 (85 + 2 * t) h) (fun r h' => r = bI true ∧ eqx [40, 41] h h' ∧ h'.1 40 2 = nI m ∧ ∀ k, k < m → h'.1 41 k = (f k).toInt32) := by
  have hb := rk_b H
  have hga : ga K < 4096 := hb.2.2.2.2.2.2.2.2.2.1
  unfold f_X5_take
  refine ok_lt (ok_lt ?_)
  have e0 : eqx [40] h (pI h 40 2 (nI m)) := eqx_pI (by simp)
  simp (disch := omega) only [hmany, pw_lit, pw_pIs, pw_ltI, pw_leI, if_pos, if_neg]
  refine ok_lt (ok_lt ?_)
  refine lp_ok (fun n st h2 => n ≤ m ∧ st = nI (m - n) ∧ eqx [40, 41] h h2 ∧ h2.1 40 2 = nI m ∧ ∀ k, k < m - n → h2.1 41 k = (f k).toInt32) ?_ FU m _ _ ⟨Nat.le_refl _, by rw [Nat.sub_self], eqx_mono e0 (by decide), pw_pIs, fun k hk => absurd hk (by omega)⟩ (fu_lt (by omega))
  rintro n rec st h2 ⟨hn, rfl, e2, y1, y2⟩ hrec
  unfold b_X5_take_29
  by_cases h0 : n = 0
  · subst h0
    simp (disch := omega) only [pw_lt, pw_cb, pw_cbx, pw_cbxr, pw_lit, pw_litL, pw_oi, pw_oim, pw_oi8, pw_m, pw_ldI, pw_ldL, pw_ldR, pw_stI, pw_stL, pw_nz, pw_ltI, pw_leI, pw_eqI, pw_eqm, pw_eqm2, pw_ltm, pw_mlt, pw_lem, pw_mle, pw_mm, pw_dec, pw_nar0, pw_nar1, nI_add, pw_sub, pw_mul, pw_and, pw_or, pw_andn, pw_shl1, pw_shl, pw_shr, pw_dv, nI_l, lN_i, Bool.false_eq_true, reduceCtorEq, if_false, if_true, ↓reduceIte, if_pos, if_neg, y1, Nat.sub_zero, Nat.le_refl]
    exact ok_some ⟨rfl, e2, y1, y2⟩
  · generalize hk : m - n = k at *
    have e9 : m - (n - 1) = k + 1 := by omega
    have v : h2.2 (86 + 2 * t) k = f k := by rw [(e2 _ (by simp; omega)).2]; exact hrow k (by omega)
    have v8 : (h2.1 3 8).toInt64 = lN (ga K) := by rw [(e2 3 (by decide)).1, h8, nI_l (by omega)]
    obtain ⟨q1, q2⟩ := (isV_iff H).mp (hW k (by omega))
    simp (disch := omega) only [y1, pw_leI, if_neg, r_tr, pw_ldL, v, pw_lt, sh1_c, r_40_0, v8, r_40_1, pw_stI, pw_litL]
    rw [if_neg (fun z => q1 ((lg_cmp_lt _ _).mp z)), if_pos ((lg_cmp_le _ _).mpr q2)]
    simp only [pw_oi, nI_add]
    refine hrec (n - 1) _ _ (by omega) ⟨by omega, by rw [e9], eqx_trans e2 (eqx_pI (by decide)), by rw [pw_pIo (by omega)]; exact y1, fun x hx => ?_⟩
    rw [e9] at hx
    by_cases ex : x = k
    · subst ex
      rw [pw_pIs]
    · rw [pw_pIo (by omega)]
      exact y2 x (by omega)
set_option maxRecDepth 16384 in
theorem c_take5n {K : Nat → Int32} {h : PH} {t m : Nat} {f : Nat → Int64} (H : RK K) (h8 : h.1 3 8 = nI (ga K)) (ht : t < 4) (hm : m ≤ 30) (hmany : h.1 (85 + 2 * t) 1 = nI m) (hrow : ∀ k, k < 30 → h.2 (86 + 2 * t) k = f k) (hW : ¬ (1 ≤ m ∧ m ≤ 12 ∧ ∀ k, k < m → isV K (f k))) : ok (f_X5_take 40 (85 + 2 * t) h) (fun r h' => r = bI false ∧ eqx [40, 41] h h') := by
  have hb := rk_b H
  have hga : ga K < 4096 := hb.2.2.2.2.2.2.2.2.2.1
  unfold f_X5_take
  refine ok_lt ?_
  have e0 : eqx [40] h (pI h 40 2 (nI m)) := eqx_pI (by simp)
  refine ok_join (fun h2 => eqx [40, 41] h h2) (fun h2 e2 => ok_some ⟨rfl, e2⟩) (fun j hj => ?_)
  simp (disch := omega) only [hmany, pw_lit, pw_pIs]
  by_cases c1 : 1 ≤ m
  · by_cases c2 : m ≤ 12
    · simp (disch := omega) only [pw_ltI, pw_leI, if_pos, if_neg]
      refine ok_lt ?_
      refine ok_join (fun h2 => eqx [40, 41] h h2) (fun h2 e2 => ok_some ⟨rfl, e2⟩) (fun j2 hj2 => ?_)
      refine lp_ok (fun n st h2 => n ≤ m ∧ st = nI (m - n) ∧ eqx [40, 41] h h2 ∧ h2.1 40 2 = nI m ∧ ∀ k, k < m - n → isV K (f k)) ?_ FU m _ _ ⟨Nat.le_refl _, by rw [Nat.sub_self], eqx_mono e0 (by decide), pw_pIs, fun k hk => absurd hk (by omega)⟩ (fu_lt (by omega))
      rintro n rec st h2 ⟨hn, rfl, e2, y1, y2⟩ hrec
      unfold b_X5_take_29
      by_cases h0 : n = 0
      · exact absurd ⟨c1, c2, fun k hk => y2 k (by omega)⟩ hW
      · generalize hk : m - n = k at *
        have e9 : m - (n - 1) = k + 1 := by omega
        have v : h2.2 (86 + 2 * t) k = f k := by rw [(e2 _ (by simp; omega)).2]; exact hrow k (by omega)
        have v8 : (h2.1 3 8).toInt64 = lN (ga K) := by rw [(e2 3 (by decide)).1, h8, nI_l (by omega)]
        simp (disch := omega) only [y1, pw_leI, if_neg, r_tr, pw_ldL, v, pw_lt, sh1_c, r_40_0, v8, r_40_1, pw_stI, pw_litL]
        by_cases q : isV K (f k)
        · obtain ⟨q1, q2⟩ := (isV_iff H).mp q
          rw [if_neg (fun z => q1 ((lg_cmp_lt _ _).mp z)), if_pos ((lg_cmp_le _ _).mpr q2)]
          simp only [pw_oi, nI_add]
          refine hrec (n - 1) _ _ (by omega) ⟨by omega, by rw [e9], eqx_trans e2 (eqx_pI (by decide)), by rw [pw_pIo (by omega)]; exact y1, fun x hx => ?_⟩
          rw [e9] at hx
          by_cases ex : x = k
          · subst ex
            exact q
          · exact y2 x (by omega)
        · by_cases q1 : f k < lN 0
          · rw [if_pos ((lg_cmp_lt _ _).mpr q1)]
            exact hj2 h2 e2
          · have q2 : ¬ f k >>> lN 1 ≤ lN (ga K) := fun z => q ((isV_iff H).mpr ⟨q1, z⟩)
            rw [if_neg (fun z => q1 ((lg_cmp_lt _ _).mp z)), if_neg (fun z => q2 ((lg_cmp_le _ _).mp z))]
            exact hj2 h2 e2
    · simp (disch := omega) only [pw_ltI, pw_leI, if_neg]
      exact hj _ (eqx_mono e0 (by decide))
  · simp (disch := omega) only [pw_ltI, if_pos]
    exact hj _ (eqx_mono e0 (by decide))
set_option maxRecDepth 16384 in
theorem e_wantsLp {K : Nat → Int32} {h : PH} {t m : Nat} {f : Nat → Int64} (H : RK K) (k153 : h.1 153 = K) (ht : t < 4) (hm : m ≤ 30) (h5 : h.1 175 t = nI m) (hrow : ∀ k, k < 30 → h.2 176 (30 * t + k) = f k) : (∀ k, k < m → isV K (f k)) ∧ lp (b_X12_wantsFault_69 152 (nI t)) FU (nI 0) h = some (nI 0, h) ∨ (¬ ∀ k, k < m → isV K (f k)) ∧ lp (b_X12_wantsFault_69 152 (nI t)) FU (nI 0) h = some (nI 3, h) := by
  have hb := rk_b H
  have hga : ga K < 4096 := hb.2.2.2.2.2.2.2.2.2.1
  have hev := e_everywhere (h := h) (by rw [k153]; exact H)
  rw [k153] at hev
  have hsum : lN 2 * lN (ga K) + lN 1 = lN (2 * ga K + 1) := by rw [lN_mul, lN_add]
  by_cases q : ∀ k, k < m → isV K (f k)
  · refine Or.inl ⟨q, ?_⟩
    refine lp_run (fun i => nI i) (fun _ => h) m _ ?_ ?_ FU (fu_lt (by omega))
    · intro i hi rec
      have v := hrow i (by omega)
      have hq := e_withinL (h := h) (n := 2 * ga K + 1) (by omega) (q i hi)
      unfold b_X12_wantsFault_69
      simp (disch := omega) only [pw_lt, pw_cb, pw_cbx, pw_cbxr, pw_lit, pw_litL, pw_oi, pw_oim, pw_oi8, pw_m, pw_ldI, pw_ldL, pw_ldR, pw_stI, pw_stL, pw_nz, pw_ltI, pw_leI, pw_eqI, pw_eqm, pw_eqm2, pw_ltm, pw_mlt, pw_lem, pw_mle, pw_mm, pw_dec, pw_nar0, pw_nar1, nI_add, pw_sub, pw_mul, pw_and, pw_or, pw_andn, pw_shl1, pw_shl, pw_shr, pw_dv, nI_l, lN_i, Bool.false_eq_true, reduceCtorEq, if_false, if_true, ↓reduceIte, if_pos, if_neg, r_152_37, h5, r_152_38, v, hev, hsum, hq, bI_0', Bool.true_eq_false]
    · intro rec
      unfold b_X12_wantsFault_69
      simp (disch := omega) only [pw_lt, pw_cb, pw_cbx, pw_cbxr, pw_lit, pw_litL, pw_oi, pw_oim, pw_oi8, pw_m, pw_ldI, pw_ldL, pw_ldR, pw_stI, pw_stL, pw_nz, pw_ltI, pw_leI, pw_eqI, pw_eqm, pw_eqm2, pw_ltm, pw_mlt, pw_lem, pw_mle, pw_mm, pw_dec, pw_nar0, pw_nar1, nI_add, pw_sub, pw_mul, pw_and, pw_or, pw_andn, pw_shl1, pw_shl, pw_shr, pw_dv, nI_l, lN_i, Bool.false_eq_true, reduceCtorEq, if_false, if_true, ↓reduceIte, if_pos, if_neg, r_152_37, h5, Nat.le_refl]
  · refine Or.inr ⟨q, ?_⟩
    obtain ⟨r, x, hx, y1, y2⟩ : ok (lp (b_X12_wantsFault_69 152 (nI t)) FU (nI 0) h) (fun r h' => r = nI 3 ∧ h' = h) := by
      refine lp_ok (fun n st h1 => n ≤ m ∧ st = nI (m - n) ∧ h1 = h ∧ ∀ k, k < m - n → isV K (f k)) ?_ FU m _ _ ⟨Nat.le_refl _, by rw [Nat.sub_self], rfl, fun k hk => absurd hk (by omega)⟩ (fu_lt (by omega))
      rintro n rec st h1 ⟨hn, rfl, rfl, y1⟩ hrec
      unfold b_X12_wantsFault_69
      by_cases h0 : n = 0
      · exact absurd (fun k hk => y1 k (by omega)) q
      · generalize hk : m - n = k at *
        have e9 : m - (n - 1) = k + 1 := by omega
        have v := hrow k (by omega)
        by_cases qk : isV K (f k)
        · have hq := e_withinL (h := h1) (n := 2 * ga K + 1) (by omega) qk
          simp (disch := omega) only [pw_lt, pw_cb, pw_cbx, pw_cbxr, pw_lit, pw_litL, pw_oi, pw_oim, pw_oi8, pw_m, pw_ldI, pw_ldL, pw_ldR, pw_stI, pw_stL, pw_nz, pw_ltI, pw_leI, pw_eqI, pw_eqm, pw_eqm2, pw_ltm, pw_mlt, pw_lem, pw_mle, pw_mm, pw_dec, pw_nar0, pw_nar1, nI_add, pw_sub, pw_mul, pw_and, pw_or, pw_andn, pw_shl1, pw_shl, pw_shr, pw_dv, nI_l, lN_i, Bool.false_eq_true, reduceCtorEq, if_false, if_true, ↓reduceIte, if_pos, if_neg, r_152_37, h5, r_152_38, v, hev, hsum, hq, bI_0', Bool.true_eq_false]
          refine hrec (n - 1) _ _ (by omega) ⟨by omega, by rw [e9], rfl, fun x hx => ?_⟩
          rw [e9] at hx
          by_cases ex : x = k
          · subst ex
            exact qk
          · exact y1 x (by omega)
        · have hq := e_withinL1 (h := h1) (n := 2 * ga K + 1) (by omega) qk
          simp (disch := omega) only [pw_lt, pw_cb, pw_cbx, pw_cbxr, pw_lit, pw_litL, pw_oi, pw_oim, pw_oi8, pw_m, pw_ldI, pw_ldL, pw_ldR, pw_stI, pw_stL, pw_nz, pw_ltI, pw_leI, pw_eqI, pw_eqm, pw_eqm2, pw_ltm, pw_mlt, pw_lem, pw_mle, pw_mm, pw_dec, pw_nar0, pw_nar1, nI_add, pw_sub, pw_mul, pw_and, pw_or, pw_andn, pw_shl1, pw_shl, pw_shr, pw_dv, nI_l, lN_i, Bool.false_eq_true, reduceCtorEq, if_false, if_true, ↓reduceIte, if_pos, if_neg, r_152_37, h5, r_152_38, v, hev, hsum, hq, bI_0']
          exact ok_some ⟨rfl, rfl⟩
    rw [hx, y1, y2]
/- what the reference answers -/
def wAns (m : Nat) (v : Nat → Nat) (g w : Nat) : Int32 := match wfd m v g 4 with
  | none => mI
  | some l => if w = 0 then nI l else if w = 1 then nI (Rw m v g l).2 else if w - 10 < l then nI (nth (Rw m v g l).1 (w - 10)) else mI
set_option maxRecDepth 16384 in
theorem e_wants_lp {K : Nat → Int32} {h : PH} {t m : Nat} {v : Nat → Nat} {Q : Int32 → PH → Prop} {j : Int32 → PH → Option (Int32 × PH)} (H : RK K) (k153 : h.1 153 = K) (ht : t < 4) (hm : m ≤ 12) (hv : ∀ k, k < m → v k < 8192) (N : NV t m v h) (z : h.1 152 29 = nI 0) (hn : wfd m v (gc K) 4 = none → ∀ h', eqx [152, 168, 169] h h' → (∀ j, j ≠ 29 → h'.1 152 j = h.1 152 j) → Q mI h') (hj : ∀ l h', wfd m v (gc K) 4 = some l → eqx [152, 168, 169] h h' → (∀ j, j ≠ 29 → h'.1 152 j = h.1 152 j) → SRf (Rw m v (gc K) l) h' → ok (j (nI l) h') Q) : ok (lp (b_X12_wants_26 152 (nI t) j) FU (nI 0) h) Q := by
  have hgc := (rk_b H).2.2.2.1
  refine lp_ok (fun n s h1 => ∃ k, k + n = 4 ∧ s = nI k ∧ eqx [152, 168, 169] h h1 ∧ (∀ j, j ≠ 29 → h1.1 152 j = h.1 152 j) ∧ h1.1 152 29 = nI 0 ∧ wfd m v (gc K) n = wfd m v (gc K) 4) ?_ FU 4 _ h ⟨0, rfl, rfl, eqx_rfl _ _, fun _ _ => rfl, z, rfl⟩ (fu_lt (by omega))
  rintro n rec s h1 ⟨k, hk, rfl, e1, o1, z1, q⟩ hrec
  unfold b_X12_wants_26
  by_cases h0 : n = 0
  · have hk4 : k = 4 := by omega
    subst h0
    subst hk4
    rw [if_pos (by decide)]
    exact ok_some (hn (by rw [← q]; rfl) h1 e1 o1)
  · have hk3 : ¬ ((3 : Int32) < nI k) := by
      rw [pw_lit, pw_ltI (by omega) (by omega)]
      omega
    rw [if_neg hk3]
    obtain ⟨n, rfl⟩ : ∃ d, n = d + 1 := ⟨n - 1, by omega⟩
    have hkn : 3 - n = k := by omega
    have h24 := pow24 (l := k) (by omega)
    have hg := e_goes (N := k) (v := v) H ht hm hv (by omega) k 8 h1 [] 0 0 ([], 0) (by omega) (by simp) (by rw [(e1 153 (by decide)).1]; exact k153) (NV_to e1 (by decide) (by decide) N) (fun j hj => absurd hj (by simp)) ⟨z1, fun z => absurd rfl z⟩ (by simp only []; omega) ⟨List.Pairwise.nil, fun t ht => absurd ht (by simp)⟩ (fun u hu => absurd hu (by simp)) (by omega) (Or.inl rfl)
    refine ok_cb hg ?_
    rintro r h2 ⟨e2, o2, p2, S2⟩
    have S2 : SRf (Rw m v (gc K) k) h2 := S2
    have hb := Rw_b (m := m) (v := v) hgc (show k ≤ 3 by omega)
    have e02 := eqx_trans e1 e2
    have o02 : ∀ j, j ≠ 29 → h2.1 152 j = h.1 152 j := fun j hj => by rw [o2 j hj]; exact o1 j hj
    rw [wfd, hkn] at q
    by_cases c : (Rw m v (gc K) k).2 ≠ 0
    · rw [if_pos c] at q
      have hc : ¬ h2.1 152 29 ≤ 0 := by
        rw [S2.1, pw_lit, pw_leI (by omega) (by omega)]
        omega
      rw [if_neg hc]
      exact hj k h2 q.symm e02 o02 S2
    · rw [if_neg c] at q
      have hz : (Rw m v (gc K) k).2 = 0 := by omega
      have v29 : h2.1 152 29 = nI 0 := by rw [S2.1, hz]
      rw [if_pos (by rw [v29]; exact Int32.le_refl _)]
      simp only [pw_lt, pw_oi, nI_add]
      exact hrec n _ h2 (by omega) ⟨k + 1, by omega, rfl, e02, o02, v29, q⟩
set_option maxRecDepth 16384 in
theorem RQ_29 {h h' : PH} (e : eqx [152, 168, 169] h h') (o : ∀ j, j ≠ 29 → h'.1 152 j = h.1 152 j) : RQ h h' := ⟨eqx_mono e (by decide), o 7 (by decide), o 15 (by decide), o 16 (by decide)⟩
set_option maxRecDepth 16384 in
theorem call_wants {h : PH} {a b : Int32} (I : INV h) : PC hs_L_wants (f_X11_wants 0 a b) (f_X12_wants 152 a b) h := by
  have H := I.1.1
  obtain ⟨b0, b1, b2, b3, b4, b5, b6, b7, b8, b9, b10⟩ := rk_b H
  obtain ⟨k0, k1, k2, k3, k4, k5, k6, k7⟩ := rk_e H
  have s1 : h.1 3 1 = nI (gv (h.1 153) 1) := by rw [I.2.2.2.1.1.2.1]; exact k1
  have hfault : ∀ (k : Nat) (q : Nat × Int32), hs_L_wants.find? (fun q => q.1 == k) = some q → q.2 ≠ nI 0 → ok (f_X11_wants 0 a b h) (fun x h' => x = .inr k ∧ CQ h h') → (∀ h2, eqx (177 :: clL) h h2 → f_X12_wantsFault 152 a b h2 = some (q.2, h2)) → PC hs_L_wants (f_X11_wants 0 a b) (f_X12_wants 152 a b) h := by
    intro k q q1 q2 hc hr
    refine PC_q2 (.inr k) hc (fun h2 R2 I2 e2 => ?_)
    unfold f_X12_wants
    simp only [hr h2 e2, pw_cb, pw_lit]
    refine ok_lt ?_
    simp only [th_pI]
    have hq : ¬ q.2 ≤ nI 0 := by
      intro z
      have : q ∈ hs_L_wants := List.mem_of_find?_eq_some q1
      revert z
      exact (by decide : ∀ q, q ∈ hs_L_wants → ¬ q.2 ≤ nI 0) q this
    rw [if_neg hq]
    exact ok_some ⟨⟨q, q1, q2, th_pI⟩, RQ_th⟩
  rcases tray_cases a I with ⟨c, r⟩ | ⟨c, r⟩ | ⟨t, s, m, ht, rfl, ⟨d1, d2, d3, d4, d5, d6, d7⟩, c, r⟩
  · refine hfault 1 (1, 1) rfl (by decide) ?_ (fun h2 e2 => ?_)
    · unfold f_X11_wants
      simp only [c, pw_cbxr]
      exact ok_some ⟨rfl, CQ_rfl I⟩
    · unfold f_X12_wantsFault
      simp only [r h2 (e2 174 (by decide)).1, pw_cb, pw_lt, pw_lit]
      rw [if_neg (by decide)]
  · refine hfault 2 (2, 2) rfl (by decide) ?_ (fun h2 e2 => ?_)
    · unfold f_X11_wants
      simp only [c, pw_cbxr]
      exact ok_some ⟨rfl, CQ_rfl I⟩
    · unfold f_X12_wantsFault
      simp only [r h2 (e2 174 (by decide)).1, pw_cb, pw_lt, pw_lit]
      rw [if_neg (by decide)]
  · by_cases p0 : gv (h.1 153) 1 = 0
    · refine hfault 2 (2, 2) rfl (by decide) ?_ (fun h2 e2 => ?_)
      · unfold f_X11_wants
        simp only [c, pw_cbx, gk_tr ht, r_0_2, s1, p0]
        rw [if_pos (show nI 0 = (0 : Int32) from rfl)]
        exact ok_some ⟨rfl, CQ_rfl I⟩
      · have w1 : h2.1 153 1 = nI 0 := by rw [(e2 153 (by decide)).1, k1, p0]
        unfold f_X12_wantsFault
        simp (disch := omega) only [r h2 (e2 174 (by decide)).1, pw_cb, pw_lt, pw_lit, if_true, r_152_0, pw_ldI, w1]
    · have hs1 : ¬ (h.1 3 1 = 0) := by rw [s1]; exact nI_ne0 (by omega) (by omega)
      have hw1 : ∀ h2, eqx (177 :: clL) h h2 → ¬ (h2.1 153 1 = nI 0) := fun h2 e2 => by
        rw [(e2 153 (by decide)).1, k1]
        exact nI_ne0 (by omega) (by omega)
      by_cases qb : inN 2 b ∨ inR 10 12 b
      · -- the class comes to its take with 'usual' or not
        have hcl : ∀ (Q : Int32 ⊕ Nat → PH → Prop), (∀ x5 : Int32, (x5 = nI 1 ∧ inN 2 b ∨ x5 = nI 0 ∧ inR 10 12 b) → ok (cb (f_X5_take 40 (85 + 2 * t) h) (fun (r7 : Int32) (h8 : PH) => if r7 = 0 then (some (.inr 0, h8)) else (cb (f_X5_find 40 h8) (fun (r9 : Unit) (h10 : PH) => if x5 = 0 then (cb (f_X5_numberAt 40 (b - (10 : Int32)) h10) (fun (r11 : Int32) (h12 : PH) => some (.inl r11, h12))) else (lt (fun (t13 : Int32) (h14 : PH) => some (.inl t13, h14)) (fun (j125 : Int32 → PH → Option ((Int32 ⊕ Nat) × PH)) => if b = 0 then (j125 (h10.1 40 5) h10) else (j125 (h10.1 40 6) h10))))))) Q) → ok (f_X11_wants 0 (nI t) b h) Q := by
          intro Q hQ
          unfold f_X11_wants
          simp only [c, pw_cbx, gk_tr ht, r_0_2, r_0_9]
          rw [if_neg hs1]
          refine ok_joinT (fun x h4 => h4 = h ∧ (x = nI 1 ∧ inN 2 b ∨ x = nI 0 ∧ inR 10 12 b)) ?_ (fun j hj => ?_)
          · rintro x h4 ⟨rfl, hx⟩
            refine ok_lt ?_
            refine ok_join (fun h6 => h6 = h4) (fun h6 q6 => by rw [q6]; exact hQ x hx) (fun j70 hj70 => ?_)
            rcases hx with ⟨rfl, hx⟩ | ⟨rfl, hx⟩
            · rw [if_neg (by decide)]
              exact hj70 _ rfl
            · rw [if_pos (by decide)]
              refine ok_join (fun _ => False) (fun _ q => q.elim) (fun j60 hj60 => ?_)
              obtain ⟨k, l1, l2, rfl⟩ := hx
              simp (disch := omega) only [pw_lit, pw_ltI, pw_leI, if_neg, if_pos]
              exact hj70 _ rfl
          · refine ok_join (fun h6 => h6 = h ∧ inN 2 b) (fun h6 q6 => by rw [q6.1]; exact hj _ _ ⟨rfl, Or.inl ⟨rfl, q6.2⟩⟩) (fun j36 hj36 => ?_)
            rcases qb with q | q
            · obtain ⟨k, hk, rfl⟩ := id q
              rcases (show k = 0 ∨ k = 1 by omega) with rfl | rfl
              · rw [if_pos (by decide)]
                exact hj36 _ ⟨rfl, q⟩
              · rw [if_neg (by decide), if_pos (by decide)]
                exact hj36 _ ⟨rfl, q⟩
            · obtain ⟨k, l1, l2, rfl⟩ := id q
              simp (disch := omega) only [pw_lit, pw_eqI, if_neg]
              exact hj _ _ ⟨rfl, Or.inr ⟨rfl, q⟩⟩

        have hrf : ∀ h2, eqx (177 :: clL) h h2 → f_X12_wantsFault 152 (nI t) b h2 = cb (f_X12_within (nI m).toInt64 (lN 1) (lN 12) h2) (fun (r10 : Int32) (h11 : PH) => if r10 = nI 0 then (some (nI 3, h11)) else (lp (b_X12_wantsFault_69 152 (nI t)) FU (nI 0) h11)) := fun h2 e2 => by
          have v5 : h2.1 175 t = nI m := by rw [(e2 175 (by decide)).1]; exact d6
          have w1 := hw1 h2 e2
          unfold f_X12_wantsFault
          rcases Classical.em (inN 2 b) with q | q
          · have hq := e_withinI (h := h2) (n := 1) (by decide) q
            simp (disch := omega) only [r h2 (e2 174 (by decide)).1, pw_cb, pw_lt, pw_lit, pw_litL, if_true, r_152_0, pw_ldI, w1, if_false, hq, bI_0', Bool.true_eq_false, r_152_37, v5]
          · have q2 : inR 10 12 b := qb.resolve_left q
            have hq := e_withinI1 (h := h2) (n := 1) (by decide) q
            have hq2 := e_withinR (h := h2) (lo := 10) (hi := 12) (by decide) (by decide) q2
            simp (disch := omega) only [r h2 (e2 174 (by decide)).1, pw_cb, pw_lt, pw_lit, pw_litL, if_true, r_152_0, pw_ldI, w1, if_false, hq, hq2, bI_0', Bool.true_eq_false, r_152_37, v5]
        by_cases qw : 1 ≤ m ∧ m ≤ 12 ∧ ∀ k, k < m → isV (h.1 153) (h.2 (86 + 2 * t) k)
        · obtain ⟨m1, m12, mw⟩ := qw
          have hvk : ∀ k, k < m → pn (h.2 (86 + 2 * t) k) < 8192 ∧ h.2 (86 + 2 * t) k = lN (pn (h.2 (86 + 2 * t) k)) := fun k hk => by
            obtain ⟨x, hx, e⟩ := mw k hk
            rw [e, pn_lN (by omega)]
            exact ⟨by omega, rfl⟩
          have hv8 := fun k hk => (hvk k hk).1
          have hwb : ∃ w, (w < 2 ∨ 10 ≤ w ∧ w ≤ 12) ∧ b = nI w := by
            rcases qb with ⟨k, hk, e⟩ | ⟨k, l1, l2, e⟩
            · exact ⟨k, Or.inl hk, e⟩
            · exact ⟨k, Or.inr ⟨l1, l2⟩, e⟩
          obtain ⟨w, hw, hbw⟩ := hwb
          refine PC_q2 (.inl (wAns m (fun k => pn (h.2 (86 + 2 * t) k)) (gc (h.1 153)) w)) ?_ (fun h2 R2 I2 e2 => ?_)
          · refine hcl _ (fun x5 hx5 => ?_)
            refine ok_cb (c_take5 H I.s8 ht m1 m12 d5 (fun k hk => rfl) mw) ?_
            rintro r7 h1 ⟨rfl, e1, y1, y2⟩
            simp only [pw_lit, bI_0', Bool.true_eq_false, if_false]
            have C1 : CM m (fun k => pn (h.2 (86 + 2 * t) k)) (gc (h.1 153)) h1 := ⟨y1, fun k hk => by rw [y2 k hk, (hvk k hk).2, lN_i], by rw [(e1 3 (by decide)).1]; exact I.2.2.2.1.1.2.2.2.2.2.2.2.1⟩
            refine ok_cb (c_find m12 hv8 b3 C1) ?_
            rintro r9 h3 ⟨e3, F⟩
            have e13 : eqx [40, 41] h h3 := eqx_trans e1 (eqx_mono e3 (by decide))
            have cq : CQ h h3 := CQ_sc I e13 (by decide) (by decide) (by decide) (by decide) (by decide)
            unfold FdC at F
            unfold wAns
            cases hf : wfd m (fun k => pn (h.2 (86 + 2 * t) k)) (gc (h.1 153)) 4 with
            | none =>
              rw [hf] at F
              rcases hx5 with ⟨rfl, hx⟩ | ⟨rfl, hx⟩
              · rw [if_neg (by decide)]
                simp only [pw_lt, F.1, F.2, ite_self]
                exact ok_some ⟨rfl, cq⟩
              · obtain ⟨k, l1, l2, rfl⟩ := hx
                rw [if_pos rfl]
                have hnum : f_X5_numberAt 40 (nI k - nI 10) h3 = some (mI, h3) := by
                  unfold f_X5_numberAt
                  simp (disch := omega) only [F.1, pw_sub, pw_ltm, if_false, pw_lit, pw_m]
                rw [hnum]
                exact ok_some ⟨rfl, cq⟩
            | some l =>
              rw [hf] at F
              obtain ⟨l3, lz⟩ := wfd_at 4 l hf
              obtain ⟨gd, gl⟩ := Rw_gd lz
              obtain ⟨F5, F6, F34⟩ := F
              have hb := Rw_b (m := m) (v := fun k => pn (h.2 (86 + 2 * t) k)) b3 l3
              rcases hx5 with ⟨rfl, hx⟩ | ⟨rfl, hx⟩
              · rw [if_neg (by decide)]
                obtain ⟨k, hk, e⟩ := hx
                have : w = k := by
                  rw [hbw, pw_eqI (by omega) (by omega)] at e
                  exact e
                subst this
                refine ok_lt ?_
                rcases (show w = 0 ∨ w = 1 by omega) with rfl | rfl
                · rw [hbw, if_pos rfl, F5]
                  exact ok_some ⟨rfl, cq⟩
                · rw [hbw, if_neg (by decide), F6]
                  exact ok_some ⟨rfl, cq⟩
              · obtain ⟨k, l1, l2, e⟩ := hx
                have : w = k := by
                  rw [hbw, pw_eqI (by omega) (by omega)] at e
                  exact e
                subst this
                rw [if_pos rfl, hbw, pw_sub l1]
                simp only [show ¬ w = 0 by omega, show ¬ w = 1 by omega, if_false]
                by_cases hk : w - 10 < l
                · have hn := c_numberAt (h := h3) (k := w - 10) b3 gd (by omega) (by rw [gl]; exact hk) (F34 lz).1 (F34 lz).2 (by rw [gl]; exact F5) (by rw [(e13 3 (by decide)).1]; exact I.2.2.2.1.1.2.2.2.2.2.2.2.1)
                  rw [hn, if_pos hk]
                  exact ok_some ⟨rfl, cq⟩
                · have hnum : f_X5_numberAt 40 (nI (w - 10)) h3 = some (mI, h3) := by
                    unfold f_X5_numberAt
                    simp (disch := omega) only [F5, pw_ltI, if_neg, pw_lit, pw_m]
                  rw [hnum, if_neg hk]
                  exact ok_some ⟨rfl, cq⟩
          · have hlp := e_wantsLp (h := h2) (t := t) (m := m) (f := fun k => h.2 (86 + 2 * t) k) H R2.2.1 ht d2 (by rw [(e2 175 (by decide)).1]; exact d6) (fun k hk => by rw [(e2 176 (by decide)).2]; exact (d7 k hk).symm)
            have hlp2 : lp (b_X12_wantsFault_69 152 (nI t)) FU (nI 0) h2 = some (nI 0, h2) := by
              rcases hlp with ⟨-, z⟩ | ⟨z, -⟩
              · exact z
              · exact absurd mw z
            have hem := e_withinR (a := nI m) (h := h2) (lo := 1) (hi := 12) (by decide) (by decide) ⟨m, m1, m12, rfl⟩
            have hf0 : f_X12_wantsFault 152 (nI t) b h2 = some (nI 0, h2) := by
              rw [hrf h2 e2, hem]
              simp only [pw_cb, bI_0', Bool.true_eq_false, if_false, hlp2]
            unfold f_X12_wants
            simp only [hf0, pw_cb, pw_lit]
            refine ok_lt ?_
            simp only [th_pI, Int32.le_refl, if_true]
            refine ok_lt (ok_lt ?_)
            have ep : eqx [152] h2 (pI (pI h2 152 5 (nI 0)) 152 29 (nI 0)) := eqx_trans (eqx_pI (by simp)) (eqx_pI (by simp))
            have rq : RQ h2 (pI (pI h2 152 5 (nI 0)) 152 29 (nI 0)) := RQ_trans RQ_th (RQ_pI (by decide) (by decide) (by decide))
            have th5 : (pI (pI h2 152 5 (nI 0)) 152 29 (nI 0)).1 152 5 = nI 0 := by rw [pw_pIo (by omega), th_pI]
            have z29 : (pI (pI h2 152 5 (nI 0)) 152 29 (nI 0)).1 152 29 = nI 0 := pw_pIs
            generalize pI (pI h2 152 5 (nI 0)) 152 29 (nI 0) = h4 at *
            have k4 : h4.1 153 = h.1 153 := by rw [(ep 153 (by decide)).1]; exact R2.2.1
            have N4 : NV t m (fun k => pn (h.2 (86 + 2 * t) k)) h4 := ⟨by rw [(ep 175 (by decide)).1, (e2 175 (by decide)).1]; exact d6, fun k hk => by rw [(ep 176 (by decide)).2, (e2 176 (by decide)).2, ← d7 k (by omega)]; exact (hvk k hk).2⟩
            refine ok_joinT (fun x h7 => ∃ l, x = nI l ∧ wfd m (fun k => pn (h.2 (86 + 2 * t) k)) (gc (h.1 153)) 4 = some l ∧ eqx [152, 168, 169] h4 h7 ∧ (∀ j, j ≠ 29 → h7.1 152 j = h4.1 152 j) ∧ SRf (Rw m (fun k => pn (h.2 (86 + 2 * t) k)) (gc (h.1 153)) l) h7) ?_ (fun j hj => ?_)
            · rintro x h7 ⟨l, rfl, hf, e7, o7, S7⟩
              obtain ⟨l3, lz⟩ := wfd_at 4 l hf
              obtain ⟨gd, gl⟩ := Rw_gd lz
              have hb := Rw_b (m := m) (v := fun k => pn (h.2 (86 + 2 * t) k)) b3 l3
              have rq7 : RQ h2 h7 := RQ_trans rq (RQ_29 e7 o7)
              have th7 : h7.1 152 5 = nI 0 := by rw [o7 5 (by decide)]; exact th5
              unfold wAns
              rw [hf]
              refine ok_lt ?_
              rcases hw with hw | ⟨hw1', hw2⟩
              · rcases (show w = 0 ∨ w = 1 by omega) with rfl | rfl
                · rw [hbw, if_pos rfl]
                  exact ok_some ⟨⟨th7, rfl⟩, rq7⟩
                · rw [hbw, if_neg (by decide), if_pos (by decide), S7.1]
                  exact ok_some ⟨⟨th7, rfl⟩, rq7⟩
              · simp (disch := omega) only [hbw, pw_lit, pw_eqI, if_neg, pw_sub, pw_leI]
                by_cases hk : w - 10 < l
                · have v := S7.2 lz (w - 10) (by rw [gl]; exact hk)
                  simp (disch := omega) only [if_neg, if_pos, r_152_28, pw_ldI, v]
                  exact ok_some ⟨⟨th7, rfl⟩, rq7⟩
                · simp (disch := omega) only [if_neg, if_pos]
                  exact ok_some ⟨⟨th7, rfl⟩, rq7⟩
            · refine e_wants_lp H k4 ht m12 hv8 N4 z29 (fun hf h7 e7 o7 => ?_) (fun l h7 hf e7 o7 S7 => hj _ _ ⟨l, rfl, hf, e7, o7, S7⟩)
              unfold wAns
              rw [hf]
              exact ⟨⟨by rw [o7 5 (by decide)]; exact th5, rfl⟩, RQ_trans rq (RQ_29 e7 o7)⟩
        · refine hfault 0 (0, 3) rfl (by decide) ?_ (fun h2 e2 => ?_)
          · refine hcl _ (fun x5 hx5 => ?_)
            refine ok_cb (c_take5n H I.s8 ht d2 d5 (fun k hk => rfl) qw) ?_
            rintro r7 h1 ⟨rfl, e1⟩
            rw [if_pos (show bI false = (0 : Int32) from rfl)]
            exact ok_some ⟨rfl, CQ_sc I e1 (by decide) (by decide) (by decide) (by decide) (by decide)⟩
          · rw [hrf h2 e2]
            by_cases qm : inR 1 12 (nI m)
            · rw [e_withinR (by decide) (by decide) qm]
              have hlp := e_wantsLp (h := h2) (t := t) (m := m) (f := fun k => h.2 (86 + 2 * t) k) H (by rw [(e2 153 (by decide)).1]) ht d2 (by rw [(e2 175 (by decide)).1]; exact d6) (fun k hk => by rw [(e2 176 (by decide)).2]; exact (d7 k hk).symm)
              have hlp2 : lp (b_X12_wantsFault_69 152 (nI t)) FU (nI 0) h2 = some (nI 3, h2) := by
                rcases hlp with ⟨z, -⟩ | ⟨-, z⟩
                · obtain ⟨m', g1, g2, g3⟩ := qm
                  have : m = m' := by
                    have := g3
                    rw [pw_eqI (by omega) (by omega)] at this
                    exact this
                  exact absurd ⟨by omega, by omega, z⟩ qw
                · exact z
              simp only [pw_cb, bI_0', Bool.true_eq_false, if_false, hlp2]
              rfl
            · rw [e_withinR1 (by decide) (by decide) qm]
              simp only [pw_cb, bI_0', if_true]
              rfl
      · have qb1 : ¬ inN 2 b := fun z => qb (Or.inl z)
        have qb2 : ¬ inR 10 12 b := fun z => qb (Or.inr z)
        refine hfault 0 (0, 3) rfl (by decide) ?_ (fun h2 e2 => ?_)
        · unfold f_X11_wants
          simp only [c, pw_cbx, gk_tr ht, r_0_2, r_0_9]
          rw [if_neg hs1]
          refine ok_joinT (fun x h4 => h4 = h ∧ x = nI 0) ?_ (fun j hj => ?_)
          · rintro x h4 ⟨rfl, rfl⟩
            refine ok_lt ?_
            refine ok_join (fun _ => False) (fun _ q => q.elim) (fun j70 hj70 => ?_)
            rw [if_pos (by decide)]
            refine ok_join (fun h6 => h6 = h4) (fun h6 q6 => by rw [q6]; exact ok_some ⟨rfl, CQ_rfl I⟩) (fun j60 hj60 => ?_)
            by_cases c1 : b < (10 : Int32)
            · rw [if_pos c1]
              exact hj60 _ rfl
            · rw [if_neg c1]
              by_cases c2 : b ≤ (12 : Int32)
              · have := c_rngR (a := b) (x := false) (y := true) (lo := 10) (hi := 12) (by decide) (by decide) qb2
                have c1' : ¬ b < nI 10 := c1
                have c2' : b ≤ nI 12 := c2
                rw [if_neg c1', if_pos c2'] at this
                cases this
              · rw [if_neg c2]
                exact hj60 _ rfl
          · refine ok_join (fun _ => False) (fun _ q => q.elim) (fun j36 hj36 => ?_)
            rw [if_neg (show ¬ b = (0 : Int32) from fun z => qb1 ⟨0, by omega, z⟩), if_neg (show ¬ b = (1 : Int32) from fun z => qb1 ⟨1, by omega, z⟩)]
            exact hj _ _ ⟨rfl, rfl⟩
        · have hq := e_withinI1 (h := h2) (n := 1) (by decide) qb1
          have hq2 := e_withinR1 (h := h2) (lo := 10) (hi := 12) (by decide) (by decide) qb2
          have w1 := hw1 h2 e2
          unfold f_X12_wantsFault
          simp (disch := omega) only [r h2 (e2 174 (by decide)).1, pw_cb, pw_lt, pw_lit, pw_litL, if_true, r_152_0, pw_ldI, w1, if_false, hq, hq2, bI_0']

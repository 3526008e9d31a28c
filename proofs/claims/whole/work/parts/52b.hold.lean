/-! the reference -/
def TW (m : Nat) (w : Nat → Nat) (q c : Nat) (h : PH) : Prop := ∀ i d, d < 7 → (i < q ∨ i = q ∧ d < c) → h.2 173 (7 * i + d) = lN (Wt m w i d)
def NU (t m : Nat) (w : Nat → Nat) (h : PH) : Prop := h.1 175 t = nI m ∧ ∀ k, k < m → h.2 176 (30 * t + k) = lN (w k)
set_option maxRecDepth 16384 in
theorem NU_to {t m : Nat} {w : Nat → Nat} {h h' : PH} {S : List Nat} (e : eqx S h h') (a : 175 ∉ S) (b : 176 ∉ S) (n : NU t m w h) : NU t m w h' := ⟨by rw [(e 175 a).1]; exact n.1, fun k hk => by rw [(e 176 b).2]; exact n.2 k hk⟩
set_option maxRecDepth 16384 in
theorem e_grantsNow {h : PH} {t m x n c : Nat} {w : Nat → Nat} (ht : t < 4) (hn : n < 7) (hc : c < 6) (hm : m ≤ 6) (N : h.1 175 t = nI m) (v : h.2 173 (7 * n + c) = lN (Wt m w n c)) : f_X12_grantsNow 152 (nI t) (lN x) (nI n) (nI (c + 1)) h = some (lN (x * m ^ n + Wt m w n c), h) := by
  have e : 7 * n + (c + 1) - 1 = 7 * n + c := by omega
  unfold f_X12_grantsNow
  simp (disch := omega) only [pw_lt, pw_cb, pw_cbx, pw_cbxr, pw_lit, pw_litL, pw_oi, pw_oim, pw_oi8, pw_m, pw_ldI, pw_ldL, pw_ldR, pw_stI, pw_stL, pw_nz, pw_ltI, pw_leI, pw_eqI, pw_eqm, pw_eqm2, pw_ltm, pw_mlt, pw_lem, pw_mle, pw_mm, pw_dec, pw_nar0, pw_nar1, nI_add, pw_sub, pw_mul, pw_and, pw_or, pw_andn, pw_shl1, pw_shl, pw_shr, pw_dv, nI_l, lN_i, Bool.false_eq_true, reduceCtorEq, if_false, if_true, ↓reduceIte, if_pos, if_neg, r_152_37, N, e_power, r_152_35, e, v, lN_mul, lN_add]
set_option maxRecDepth 16384 in
theorem e_worthK {h : PH} {t m n c : Nat} {w : Nat → Nat} {j : Int64 → PH → Option (Unit × PH)} (ht : t < 4) (hm : m ≤ 6) (hw : ∀ k, w k ≤ 99) (hn : n < 6) (hc : c < 7) (N : NU t m w h) (v : TW m w (n + 1) 0 h) : lp (b_X12_laysWorth_43 152 (nI t) (nI (n + 1)) (nI c) j) FU (lN 0, nI 0) h = j (lN (Wt m w (n + 1) c)) h := by
  by_cases c0 : c = 0
  · subst c0
    rw [Wt_c0]
    refine lp_run (fun i => (lN 0, nI i)) (fun _ => h) m _ ?_ ?_ FU (fu_lt (by omega))
    · intro i hi rec
      have h1 := N.1
      have v0 := v n 0 (by omega) (Or.inl (by omega))
      rw [Wt_c0] at v0
      unfold b_X12_laysWorth_43
      simp (disch := omega) only [pw_lt, pw_cb, pw_cbx, pw_cbxr, pw_lit, pw_litL, pw_oi, pw_oim, pw_oi8, pw_m, pw_ldI, pw_ldL, pw_ldR, pw_stI, pw_stL, pw_nz, pw_ltI, pw_leI, pw_eqI, pw_eqm, pw_eqm2, pw_ltm, pw_mlt, pw_lem, pw_mle, pw_mm, pw_dec, pw_nar0, pw_nar1, nI_add, pw_sub, pw_mul, pw_and, pw_or, pw_andn, pw_shl1, pw_shl, pw_shr, pw_dv, nI_l, lN_i, Bool.false_eq_true, reduceCtorEq, if_false, if_true, ↓reduceIte, if_pos, if_neg, r_152_37, h1, r_152_35, Nat.add_sub_cancel, v0, lN_add]
    · intro rec
      have h1 := N.1
      unfold b_X12_laysWorth_43
      simp (disch := omega) only [pw_lt, pw_cb, pw_cbx, pw_cbxr, pw_lit, pw_litL, pw_oi, pw_oim, pw_oi8, pw_m, pw_ldI, pw_ldL, pw_ldR, pw_stI, pw_stL, pw_nz, pw_ltI, pw_leI, pw_eqI, pw_eqm, pw_eqm2, pw_ltm, pw_mlt, pw_lem, pw_mle, pw_mm, pw_dec, pw_nar0, pw_nar1, nI_add, pw_sub, pw_mul, pw_and, pw_or, pw_andn, pw_shl1, pw_shl, pw_shr, pw_dv, nI_l, lN_i, Bool.false_eq_true, reduceCtorEq, if_false, if_true, ↓reduceIte, if_pos, if_neg, r_152_37, h1, Nat.le_refl]
  · obtain ⟨d, rfl⟩ : ∃ d, c = d + 1 := ⟨c - 1, by omega⟩
    rw [Wt_s]
    refine lp_run (fun i => (lN (sumTo i (fun k => max (w k * m ^ n + Wt m w n d) (Wt m w n (d + 1)))), nI i)) (fun _ => h) m _ ?_ ?_ FU (fu_lt (by omega))
    · intro i hi rec
      have h1 := N.1
      have h2 := N.2 i hi
      have hwi := hw i
      have hb1 := Wk_b (m := m) (w := w) (n := n) (c := d) (k := i) hm (by omega) hw
      have hb2 := Wt_b (m := m) (w := w) (n := n) (c := d + 1) hm (by omega) hw
      have v1 := v n (d + 1) (by omega) (Or.inl (by omega))
      have hg := e_grantsNow (h := h) (x := w i) ht (show n < 7 by omega) (show d < 6 by omega) hm h1 (v n d (by omega) (Or.inl (by omega)))
      have hx := mx_l (show w i * m ^ n + Wt m w n d < 2147483648 by omega) (show Wt m w n (d + 1) < 2147483648 by omega)
      rw [Nat.max_comm] at hx
      unfold b_X12_laysWorth_43
      simp (disch := omega) only [pw_lt, pw_cb, pw_cbx, pw_cbxr, pw_lit, pw_litL, pw_oi, pw_oim, pw_oi8, pw_m, pw_ldI, pw_ldL, pw_ldR, pw_stI, pw_stL, pw_nz, pw_ltI, pw_leI, pw_eqI, pw_eqm, pw_eqm2, pw_ltm, pw_mlt, pw_lem, pw_mle, pw_mm, pw_dec, pw_nar0, pw_nar1, nI_add, pw_sub, pw_mul, pw_and, pw_or, pw_andn, pw_shl1, pw_shl, pw_shr, pw_dv, nI_l, lN_i, Bool.false_eq_true, reduceCtorEq, if_false, if_true, ↓reduceIte, if_pos, if_neg, r_152_37, h1, r_152_35, r_152_38, Nat.add_sub_cancel, v1, h2, hg, hx, lN_add, sumTo]
    · intro rec
      have h1 := N.1
      unfold b_X12_laysWorth_43
      simp (disch := omega) only [pw_lt, pw_cb, pw_cbx, pw_cbxr, pw_lit, pw_litL, pw_oi, pw_oim, pw_oi8, pw_m, pw_ldI, pw_ldL, pw_ldR, pw_stI, pw_stL, pw_nz, pw_ltI, pw_leI, pw_eqI, pw_eqm, pw_eqm2, pw_ltm, pw_mlt, pw_lem, pw_mle, pw_mm, pw_dec, pw_nar0, pw_nar1, nI_add, pw_sub, pw_mul, pw_and, pw_or, pw_andn, pw_shl1, pw_shl, pw_shr, pw_dv, nI_l, lN_i, Bool.false_eq_true, reduceCtorEq, if_false, if_true, ↓reduceIte, if_pos, if_neg, r_152_37, h1, Nat.le_refl]
set_option maxRecDepth 16384 in
theorem TW_0 {m : Nat} {w : Nat → Nat} {q : Nat} {h : PH} (y : TW m w q 7 h) : TW m w (q + 1) 0 h := fun i d hd hi => y i d hd (by omega)
set_option maxRecDepth 16384 in
theorem e_worthC {h : PH} {t m n : Nat} {w : Nat → Nat} {Q : Unit → PH → Prop} {j : PH → Option (Unit × PH)} (ht : t < 4) (hm : m ≤ 6) (hw : ∀ k, w k ≤ 99) (hn : n < 6) (N : NU t m w h) (v : TW m w (n + 1) 0 h) (hj : ∀ h', eqx [173] h h' → TW m w (n + 2) 0 h' → ok (j h') Q) : ok (lp (b_X12_laysWorth_31 152 (nI t) (nI (n + 1)) j) FU (nI 0) h) Q := by
  refine lp_ok (fun d st h1 => d ≤ 7 ∧ st = nI (7 - d) ∧ eqx [173] h h1 ∧ TW m w (n + 1) (7 - d) h1) ?_ FU 7 _ h ⟨Nat.le_refl _, rfl, eqx_rfl _ _, by rw [Nat.sub_self]; exact v⟩ (fu_lt (by omega))
  rintro d rec st h1 ⟨hd, rfl, e1, y1⟩ hrec
  unfold b_X12_laysWorth_31
  by_cases h0 : d = 0
  · subst h0
    simp (disch := omega) only [pw_lt, pw_cb, pw_cbx, pw_cbxr, pw_lit, pw_litL, pw_oi, pw_oim, pw_oi8, pw_m, pw_ldI, pw_ldL, pw_ldR, pw_stI, pw_stL, pw_nz, pw_ltI, pw_leI, pw_eqI, pw_eqm, pw_eqm2, pw_ltm, pw_mlt, pw_lem, pw_mle, pw_mm, pw_dec, pw_nar0, pw_nar1, nI_add, pw_sub, pw_mul, pw_and, pw_or, pw_andn, pw_shl1, pw_shl, pw_shr, pw_dv, nI_l, lN_i, Bool.false_eq_true, reduceCtorEq, if_false, if_true, ↓reduceIte, if_pos, if_neg]
    exact hj h1 e1 (TW_0 (fun i d hd hi => y1 i d hd (by omega)))
  · generalize hk : 7 - d = c at *
    have e9 : 7 - (d - 1) = c + 1 := by omega
    have hkk := e_worthK (h := h1) (j := fun y9 h10 => stL h10 (rt 152 35) 49 (((7 : Int32) * nI (n + 1)) + nI c) y9 (fun h11 => lt (nI c + Int32.ofInt 1) (fun x12 => rec x12 h11))) ht hm hw hn (show c < 7 by omega) (NU_to e1 (by decide) (by decide) N) (fun i d hd hi => y1 i d hd (by omega))
    simp (disch := omega) only [pw_lit, pw_litL, pw_ltI, if_neg]
    refine ok_lt (ok_lt (ok_lt ?_))
    simp only [pw_lit, pw_litL] at hkk
    rw [hkk]
    simp (disch := omega) only [r_152_35, pw_mul, nI_add, pw_stL, pw_lt, pw_oi]
    refine hrec (d - 1) _ _ (by omega) ⟨by omega, by rw [e9], eqx_trans e1 (eqx_pL (by simp)), fun i x hx hi => ?_⟩
    rw [e9] at hi
    by_cases ex : i = n + 1 ∧ x = c
    · obtain ⟨rfl, rfl⟩ := ex
      rw [pw_pLs]
    · rw [pw_pLo (by omega)]
      exact y1 i x hx (by omega)
set_option maxRecDepth 16384 in
theorem e_laysWorth {h : PH} {t m : Nat} {w : Nat → Nat} (ht : t < 4) (hm : m ≤ 6) (hw : ∀ k, w k ≤ 99) (N : NU t m w h) : ok (f_X12_laysWorth 152 (nI t) h) (fun _ h' => eqx [173] h h' ∧ TW m w 7 0 h') := by
  unfold f_X12_laysWorth
  refine ok_lt (ok_lt ?_)
  simp only [pw_lit]
  refine lp_ok (fun d st h1 => d ≤ 7 ∧ st = nI (7 - d) ∧ eqx [173] h h1 ∧ TW m w 0 (7 - d) h1) ?_ FU 7 _ h ⟨Nat.le_refl _, rfl, eqx_rfl _ _, fun i d hd hi => absurd hi (by omega)⟩ (fu_lt (by omega))
  rintro d rec st h1 ⟨hd, rfl, e1, y1⟩ hrec
  unfold b_X12_laysWorth_2
  by_cases h0 : d = 0
  · subst h0
    simp (disch := omega) only [pw_lit, pw_ltI, if_pos]
    refine ok_lt ?_
    refine lp_ok (fun d st h2 => ∃ q, q + d = 6 ∧ st = nI (q + 1) ∧ eqx [173] h h2 ∧ TW m w (q + 1) 0 h2) ?_ FU 6 _ h1 ⟨0, by omega, rfl, e1, TW_0 (fun i d hd hi => y1 i d hd (by omega))⟩ (fu_lt (by omega))
    rintro d rec2 st h2 ⟨q, hq, rfl, e2, y2⟩ hrec2
    unfold b_X12_laysWorth_23
    by_cases h6 : d = 0
    · have eq : q = 6 := by omega
      subst eq
      simp (disch := omega) only [pw_lt, pw_cb, pw_cbx, pw_cbxr, pw_lit, pw_litL, pw_oi, pw_oim, pw_oi8, pw_m, pw_ldI, pw_ldL, pw_ldR, pw_stI, pw_stL, pw_nz, pw_ltI, pw_leI, pw_eqI, pw_eqm, pw_eqm2, pw_ltm, pw_mlt, pw_lem, pw_mle, pw_mm, pw_dec, pw_nar0, pw_nar1, nI_add, pw_sub, pw_mul, pw_and, pw_or, pw_andn, pw_shl1, pw_shl, pw_shr, pw_dv, nI_l, lN_i, Bool.false_eq_true, reduceCtorEq, if_false, if_true, ↓reduceIte, if_pos, if_neg]
      exact ok_some ⟨e2, y2⟩
    · simp (disch := omega) only [pw_lit, pw_ltI, if_neg]
      refine ok_lt (ok_lt ?_)
      refine e_worthC ht hm hw (show q < 6 by omega) (NU_to e2 (by decide) (by decide) N) y2 (fun h3 e3 y3 => ?_)
      simp only [pw_lt, pw_oi, nI_add]
      exact hrec2 (d - 1) _ h3 (by omega) ⟨q + 1, by omega, rfl, eqx_trans e2 e3, y3⟩
  · generalize hk : 7 - d = c at *
    have e9 : 7 - (d - 1) = c + 1 := by omega
    simp (disch := omega) only [pw_lt, pw_cb, pw_cbx, pw_cbxr, pw_lit, pw_litL, pw_oi, pw_oim, pw_oi8, pw_m, pw_ldI, pw_ldL, pw_ldR, pw_stI, pw_stL, pw_nz, pw_ltI, pw_leI, pw_eqI, pw_eqm, pw_eqm2, pw_ltm, pw_mlt, pw_lem, pw_mle, pw_mm, pw_dec, pw_nar0, pw_nar1, nI_add, pw_sub, pw_mul, pw_and, pw_or, pw_andn, pw_shl1, pw_shl, pw_shr, pw_dv, nI_l, lN_i, Bool.false_eq_true, reduceCtorEq, if_false, if_true, ↓reduceIte, if_pos, if_neg, r_152_35]
    refine hrec (d - 1) _ _ (by omega) ⟨by omega, by rw [e9], eqx_trans e1 (eqx_pL (by simp)), fun i x hx hi => ?_⟩
    rw [e9] at hi
    by_cases ex : x = c
    · subst ex
      rw [show i = 0 by omega, show 7 * 0 + x = x by omega, pw_pLs, Wt_0]
    · rw [pw_pLo (by omega)]
      exact y1 i x hx (by omega)
/-! the faults -/
set_option maxRecDepth 16384 in
theorem pw_wt (a : Bool) : bI a = nI 0 ↔ a = false := by rw [bI_0']
set_option maxRecDepth 16384 in
theorem e_withinL {v : Int64} {n : Nat} {h : PH} (hn : n < 2147483648) (q : ∃ k, k ≤ n ∧ v = lN k) : f_X12_within v (lN 0) (lN n) h = some (bI true, h) := by
  rw [e_within]
  have hb : (decide ((0 : Int64) ≤ v) && decide (v ≤ lN n)) = true := (in_lN hn).mpr q
  have hb : (decide (lN 0 ≤ v) && decide (v ≤ lN n)) = true := hb
  rw [hb]
set_option maxRecDepth 16384 in
theorem e_withinL1 {v : Int64} {n : Nat} {h : PH} (hn : n < 2147483648) (q : ¬ ∃ k, k ≤ n ∧ v = lN k) : f_X12_within v (lN 0) (lN n) h = some (bI false, h) := by
  rw [e_within]
  have hb : (decide (lN 0 ≤ v) && decide (v ≤ lN n)) = false := by
    cases hb : (decide (lN 0 ≤ v) && decide (v ≤ lN n))
    · rfl
    · have hb : (decide ((0 : Int64) ≤ v) && decide (v ≤ lN n)) = true := hb
      exact absurd ((in_lN hn).mp hb) q
  rw [hb]
set_option maxRecDepth 16384 in
theorem e_holdLp {h : PH} {t m : Nat} {f : Nat → Int64} (ht : t < 4) (hm : m ≤ 30) (h5 : h.1 175 t = nI m) (hrow : ∀ k, k < 30 → h.2 176 (30 * t + k) = f k) : (∀ k, k < m → isW (f k)) ∧ lp (b_X12_holdFault_61 152 (nI t)) FU (nI 0) h = some (nI 0, h) ∨ (¬ ∀ k, k < m → isW (f k)) ∧ lp (b_X12_holdFault_61 152 (nI t)) FU (nI 0) h = some (nI 3, h) := by
  by_cases q : ∀ k, k < m → isW (f k)
  · refine Or.inl ⟨q, ?_⟩
    refine lp_run (fun i => nI i) (fun _ => h) m _ ?_ ?_ FU (fu_lt (by omega))
    · intro i hi rec
      have v := hrow i (by omega)
      have hq := e_withinL (h := h) (n := 99) (by decide) (q i hi)
      unfold b_X12_holdFault_61
      simp (disch := omega) only [pw_lt, pw_cb, pw_cbx, pw_cbxr, pw_lit, pw_litL, pw_oi, pw_oim, pw_oi8, pw_m, pw_ldI, pw_ldL, pw_ldR, pw_stI, pw_stL, pw_nz, pw_ltI, pw_leI, pw_eqI, pw_eqm, pw_eqm2, pw_ltm, pw_mlt, pw_lem, pw_mle, pw_mm, pw_dec, pw_nar0, pw_nar1, nI_add, pw_sub, pw_mul, pw_and, pw_or, pw_andn, pw_shl1, pw_shl, pw_shr, pw_dv, nI_l, lN_i, Bool.false_eq_true, reduceCtorEq, if_false, if_true, ↓reduceIte, if_pos, if_neg, r_152_37, h5, r_152_38, v, hq, bI_0', Bool.true_eq_false]
    · intro rec
      unfold b_X12_holdFault_61
      simp (disch := omega) only [pw_lt, pw_cb, pw_cbx, pw_cbxr, pw_lit, pw_litL, pw_oi, pw_oim, pw_oi8, pw_m, pw_ldI, pw_ldL, pw_ldR, pw_stI, pw_stL, pw_nz, pw_ltI, pw_leI, pw_eqI, pw_eqm, pw_eqm2, pw_ltm, pw_mlt, pw_lem, pw_mle, pw_mm, pw_dec, pw_nar0, pw_nar1, nI_add, pw_sub, pw_mul, pw_and, pw_or, pw_andn, pw_shl1, pw_shl, pw_shr, pw_dv, nI_l, lN_i, Bool.false_eq_true, reduceCtorEq, if_false, if_true, ↓reduceIte, if_pos, if_neg, r_152_37, h5, Nat.le_refl]
  · refine Or.inr ⟨q, ?_⟩
    obtain ⟨r, x, hx, y1, y2⟩ : ok (lp (b_X12_holdFault_61 152 (nI t)) FU (nI 0) h) (fun r h' => r = nI 3 ∧ h' = h) := by
      refine lp_ok (fun n st h1 => n ≤ m ∧ st = nI (m - n) ∧ h1 = h ∧ ∀ k, k < m - n → isW (f k)) ?_ FU m _ _ ⟨Nat.le_refl _, by rw [Nat.sub_self], rfl, fun k hk => absurd hk (by omega)⟩ (fu_lt (by omega))
      rintro n rec st h1 ⟨hn, rfl, rfl, y1⟩ hrec
      unfold b_X12_holdFault_61
      by_cases h0 : n = 0
      · exact absurd (fun k hk => y1 k (by omega)) q
      · generalize hk : m - n = k at *
        have e9 : m - (n - 1) = k + 1 := by omega
        have v := hrow k (by omega)
        by_cases qk : isW (f k)
        · have hq := e_withinL (h := h1) (n := 99) (by decide) qk
          simp (disch := omega) only [pw_lt, pw_cb, pw_cbx, pw_cbxr, pw_lit, pw_litL, pw_oi, pw_oim, pw_oi8, pw_m, pw_ldI, pw_ldL, pw_ldR, pw_stI, pw_stL, pw_nz, pw_ltI, pw_leI, pw_eqI, pw_eqm, pw_eqm2, pw_ltm, pw_mlt, pw_lem, pw_mle, pw_mm, pw_dec, pw_nar0, pw_nar1, nI_add, pw_sub, pw_mul, pw_and, pw_or, pw_andn, pw_shl1, pw_shl, pw_shr, pw_dv, nI_l, lN_i, Bool.false_eq_true, reduceCtorEq, if_false, if_true, ↓reduceIte, if_pos, if_neg, r_152_37, h5, r_152_38, v, hq, bI_0', Bool.true_eq_false]
          refine hrec (n - 1) _ _ (by omega) ⟨by omega, by rw [e9], rfl, fun x hx => ?_⟩
          rw [e9] at hx
          by_cases ex : x = k
          · subst ex
            exact qk
          · exact y1 x (by omega)
        · have hq := e_withinL1 (h := h1) (n := 99) (by decide) qk
          simp (disch := omega) only [pw_lt, pw_cb, pw_cbx, pw_cbxr, pw_lit, pw_litL, pw_oi, pw_oim, pw_oi8, pw_m, pw_ldI, pw_ldL, pw_ldR, pw_stI, pw_stL, pw_nz, pw_ltI, pw_leI, pw_eqI, pw_eqm, pw_eqm2, pw_ltm, pw_mlt, pw_lem, pw_mle, pw_mm, pw_dec, pw_nar0, pw_nar1, nI_add, pw_sub, pw_mul, pw_and, pw_or, pw_andn, pw_shl1, pw_shl, pw_shr, pw_dv, nI_l, lN_i, Bool.false_eq_true, reduceCtorEq, if_false, if_true, ↓reduceIte, if_pos, if_neg, r_152_37, h5, r_152_38, v, hq, bI_0']
          exact ok_some ⟨rfl, rfl⟩
    rw [hx, y1, y2]
def hsH : List (Nat × Int32) := [(1, 1), (2, 2), (0, 3)]
def trSame (h h2 : PH) : Prop := h2.1 174 = h.1 174 ∧ h2.1 175 = h.1 175 ∧ h2.2 176 = h.2 176
/- what the class has behind its reckoning -/
def HG (m : Nat) (w : Nat → Nat) (n : Nat) (h h' : PH) : Prop := eqx (73 :: 74 :: 83 :: woL) h h' ∧ WO h' ∧ HH m w h' ∧ (∀ i, i ≤ n → h'.2 83 i = lN (m ^ i)) ∧ ∀ i, i ≤ n → ∀ c, c < 7 → h'.2 (76 + i) c = lN (Wt m w i c)
set_option maxRecDepth 16384 in
theorem hold_cases {h : PH} (a n c : Int32) (I : INV h) :
    (∃ k q, hsH.find? (fun q => q.1 == k) = some q ∧ q.2 ≠ nI 0 ∧ ok (f_X11_takeReserve 0 a n c h) (fun x h' => x = .inr k ∧ CQ h h') ∧ ∀ h2, trSame h h2 → f_X12_holdFault 152 a n c h2 = some (q.2, h2)) ∨
    (∃ t m n' c', ∃ w : Nat → Nat, t < 4 ∧ a = nI t ∧ 1 ≤ m ∧ m ≤ 6 ∧ (∀ k, w k ≤ 99) ∧ n' < 6 ∧ n = nI (n' + 1) ∧ c' < 7 ∧ c = nI c' ∧ NU t m w h ∧ ok (f_X11_takeReserve 0 a n c h) (fun x h' => x = .inl () ∧ HG m w (n' + 1) h h') ∧ ∀ h2, trSame h h2 → f_X12_holdFault 152 a n c h2 = some (nI 0, h2)) := by
  rcases tray_cases a I with ⟨tc, tr⟩ | ⟨tc, tr⟩ | ⟨t, s, m, ht, rfl, ⟨d1, d2, d3, d4, d5, d6, d7⟩, tc, tr⟩
  · refine Or.inl ⟨1, (1, 1), rfl, by decide, ?_, fun h2 ⟨e2, _, _⟩ => ?_⟩
    · unfold f_X11_takeReserve
      simp only [tc, pw_cbxr]
      exact ok_some ⟨rfl, CQ_rfl I⟩
    · unfold f_X12_holdFault
      simp only [tr h2 e2, pw_cb, pw_lt, pw_lit]
      rw [if_neg (by decide)]
  · refine Or.inl ⟨2, (2, 2), rfl, by decide, ?_, fun h2 ⟨e2, _, _⟩ => ?_⟩
    · unfold f_X11_takeReserve
      simp only [tc, pw_cbxr]
      exact ok_some ⟨rfl, CQ_rfl I⟩
    · unfold f_X12_holdFault
      simp only [tr h2 e2, pw_cb, pw_lt, pw_lit]
      rw [if_neg (by decide)]
  · by_cases qn : inR 1 6 n
    · by_cases qc : inN 7 c
      · by_cases qw : 1 ≤ m ∧ m ≤ 6 ∧ ∀ k, k < m → isW (h.2 (86 + 2 * t) k)
        · have hen := fun h2 : PH => e_withinR (h := h2) (lo := 1) (hi := 6) (by decide) (by decide) qn
          have hec := fun h2 : PH => e_withinI (h := h2) (n := 6) (by decide) qc
          obtain ⟨m1, m6, mw⟩ := qw
          have hem := fun h2 : PH => e_withinR (a := nI m) (h := h2) (lo := 1) (hi := 6) (by decide) (by decide) ⟨m, m1, m6, rfl⟩
          obtain ⟨n1, l1, l2, rfl⟩ := qn
          obtain ⟨n', rfl⟩ : ∃ n', n1 = n' + 1 := ⟨n1 - 1, by omega⟩
          obtain ⟨c', hc', rfl⟩ := qc
          have hv : ∀ k, k < m → ∃ x, x ≤ 99 ∧ h.2 (86 + 2 * t) k = lN x := mw
          have hwk : ∀ k, k < m → (if k < m then pn (h.2 (86 + 2 * t) k) else 0) ≤ 99 ∧ h.2 (86 + 2 * t) k = lN (if k < m then pn (h.2 (86 + 2 * t) k) else 0) := fun k hk => by
            obtain ⟨x, hx, e⟩ := hv k hk
            rw [if_pos hk, e, pn_lN (by omega)]
            exact ⟨hx, rfl⟩
          refine Or.inr ⟨t, m, n', c', fun k => if k < m then pn (h.2 (86 + 2 * t) k) else 0, ht, rfl, m1, m6, fun k => ?_, by omega, rfl, hc', rfl, ⟨d6, fun k hk => by rw [← d7 k (by omega)]; exact (hwk k hk).2⟩, ?_, fun h2 ⟨e2, e3, e4⟩ => ?_⟩
          · by_cases hk : k < m
            · exact (hwk k hk).1
            · simp only [if_neg hk]
              omega
          · unfold f_X11_takeReserve
            simp only [tc, pw_cbx, gk_tr ht, pw_lit, r_0_11]
            refine ok_join (fun _ => False) (fun _ q => q.elim) (fun j hj => ?_)
            simp (disch := omega) only [pw_ltI, pw_leI, if_neg, if_pos]
            refine ok_cb (c_take4 ht m1 m6 d5 (fun k hk => rfl) mw) ?_
            rintro r h1 ⟨rfl, e1, y1, y2⟩
            simp only [bI_0', Bool.true_eq_false, if_false]
            have hH : HH m (fun k => if k < m then pn (h.2 (86 + 2 * t) k) else 0) h1 := ⟨y1, fun k hk => by rw [y2 k hk, (hwk k hk).2, lN_i]⟩
            refine ok_cb (c_reckon4 m6 (fun k => ?_) (by omega) hH (WO_to e1 (by decide) I.2.2.2.2.2.2.2.2.2.2.2)) ?_
            · by_cases hk : k < m
              · exact (hwk k hk).1
              · simp only [if_neg hk]
                omega
            · rintro r2 h2 ⟨e2, wo, z1, z2⟩
              refine ok_some ⟨rfl, eqx_trans (eqx_mono e1 (by decide)) (eqx_mono e2 (by decide)), wo, ⟨by rw [(e2 73 (by decide)).1]; exact hH.1, fun k hk => by rw [(e2 74 (by decide)).1]; exact hH.2 k hk⟩, z1, z2⟩
          · have v5 : h2.1 175 t = nI m := by rw [e3]; exact d6
            have hlp := e_holdLp (h := h2) (t := t) (m := m) (f := fun k => h.2 (86 + 2 * t) k) ht d2 v5 (fun k hk => by rw [e4]; exact (d7 k hk).symm)
            have hlp2 : lp (b_X12_holdFault_61 152 (nI t)) FU (nI 0) h2 = some (nI 0, h2) := by
              rcases hlp with ⟨-, z⟩ | ⟨z, -⟩
              · exact z
              · exact absurd mw z
            unfold f_X12_holdFault
            simp (disch := omega) only [tr h2 e2, pw_cb, pw_lt, pw_lit, pw_litL, if_true, hen, hec, hem, bI_0', Bool.true_eq_false, if_false, r_152_37, pw_ldI, v5, hlp2]
        · have hen := fun h2 : PH => e_withinR (h := h2) (lo := 1) (hi := 6) (by decide) (by decide) qn
          have hec := fun h2 : PH => e_withinI (h := h2) (n := 6) (by decide) qc
          obtain ⟨n1, l1, l2, rfl⟩ := qn
          obtain ⟨c', hc', rfl⟩ := qc
          refine Or.inl ⟨0, (0, 3), rfl, by decide, ?_, fun h2 ⟨e2, e3, e4⟩ => ?_⟩
          · unfold f_X11_takeReserve
            simp only [tc, pw_cbx, gk_tr ht, pw_lit, r_0_11]
            refine ok_join (fun _ => False) (fun _ q => q.elim) (fun j hj => ?_)
            simp (disch := omega) only [pw_ltI, pw_leI, if_neg, if_pos]
            refine ok_cb (c_take4n ht d2 d5 (fun k hk => rfl) qw) ?_
            rintro r h1 ⟨rfl, e1⟩
            simp only [bI_0', if_true]
            exact ok_some ⟨rfl, CQ_sc I e1 (by decide) (by decide) (by decide) (by decide) (by decide)⟩
          · have v5 : h2.1 175 t = nI m := by rw [e3]; exact d6
            unfold f_X12_holdFault
            by_cases qm : inR 1 6 (nI m)
            · have hem := fun h2 : PH => e_withinR (a := nI m) (h := h2) (lo := 1) (hi := 6) (by decide) (by decide) qm
              have hlp := e_holdLp (h := h2) (t := t) (m := m) (f := fun k => h.2 (86 + 2 * t) k) ht d2 v5 (fun k hk => by rw [e4]; exact (d7 k hk).symm)
              have hlp2 : lp (b_X12_holdFault_61 152 (nI t)) FU (nI 0) h2 = some (nI 3, h2) := by
                rcases hlp with ⟨z, -⟩ | ⟨-, z⟩
                · obtain ⟨m', g1, g2, g3⟩ := qm
                  have : m = m' := by
                    have := g3
                    rw [pw_eqI (by omega) (by omega)] at this
                    exact this
                  exact absurd ⟨by omega, by omega, z⟩ qw
                · exact z
              simp (disch := omega) only [tr h2 e2, pw_cb, pw_lt, pw_lit, pw_litL, if_true, hen, hec, hem, bI_0', Bool.true_eq_false, if_false, r_152_37, pw_ldI, v5, hlp2]
            · have hem := fun h2 : PH => e_withinR1 (a := nI m) (h := h2) (lo := 1) (hi := 6) (by decide) (by decide) qm
              simp (disch := omega) only [tr h2 e2, pw_cb, pw_lt, pw_lit, pw_litL, if_true, hen, hec, hem, bI_0', Bool.true_eq_false, if_false, r_152_37, pw_ldI, v5]
      · have hen := fun h2 : PH => e_withinR (h := h2) (lo := 1) (hi := 6) (by decide) (by decide) qn
        have hec := fun h2 : PH => e_withinI1 (h := h2) (n := 6) (by decide) qc
        obtain ⟨n1, l1, l2, rfl⟩ := qn
        refine Or.inl ⟨0, (0, 3), rfl, by decide, ?_, fun h2 ⟨e2, e3, e4⟩ => ?_⟩
        · unfold f_X11_takeReserve
          simp only [tc, pw_cbx, gk_tr ht, pw_lit, pw_lt]
          simp (disch := omega) only [pw_ltI, if_neg]
          rw [c_rngle (by decide) (fun z => qc (inN_le.mpr z))]
          exact ok_some ⟨rfl, CQ_rfl I⟩
        · unfold f_X12_holdFault
          simp (disch := omega) only [tr h2 e2, pw_cb, pw_lt, pw_lit, pw_litL, if_true, hen, hec, bI_0', Bool.true_eq_false, if_false]
    · have hen := fun h2 : PH => e_withinR1 (h := h2) (lo := 1) (hi := 6) (by decide) (by decide) qn
      refine Or.inl ⟨0, (0, 3), rfl, by decide, ?_, fun h2 ⟨e2, e3, e4⟩ => ?_⟩
      · unfold f_X11_takeReserve
        simp only [tc, pw_cbx, gk_tr ht, pw_lit]
        refine ok_join (fun h1 => h1 = h) (fun h1 q1 => by rw [q1]; exact ok_some ⟨rfl, CQ_rfl I⟩) (fun j hj => ?_)
        by_cases c1 : n < nI 1
        · rw [if_pos c1]
          exact hj h rfl
        · rw [if_neg c1]
          by_cases c2 : nI 6 < n
          · rw [if_pos c2]
            exact hj h rfl
          · have := c_rngR (a := n) (x := false) (y := true) (lo := 1) (hi := 6) (by decide) (by decide) qn
            rw [if_neg c1, if_pos (Int32.not_lt.mp c2)] at this
            cases this
      · unfold f_X12_holdFault
        simp (disch := omega) only [tr h2 e2, pw_cb, pw_lt, pw_lit, pw_litL, if_true, hen, bI_0', if_true]
/- the class reckoned, the reference laid: trays' worths changed alone -/
set_option maxRecDepth 16384 in
theorem INV.w {h h' : PH} (I : INV h) (e : eqx (woL ++ scL) h h') (f : f152 h h') (hd : HD (h.1 153) (h.1 159) (h'.1 31)) (cc : CHc (h.1 153) (h.1 159) h') (wo : WO h') : INV h' := by
  obtain ⟨i1, i2, i3, i4, i5, i6, i7, i8, i9, i10, i11, i12⟩ := I
  have e153 := (e 153 (by decide)).1
  have e159 := (e 159 (by decide)).1
  have e160 := (e 160 (by decide)).1
  unfold INV
  rw [e153, e159, e160]
  refine ⟨i1, i2, i3, SKY_to e (by decide) (by decide) (by decide) (by decide) (by decide) i4, BK_to e (by decide) (by decide) (by decide) (by decide) i5, hd, cc, TP_to e f.1 (by decide) (by decide) (by decide) i8, ?_, fun t ht => TR1_to e ((by decide : ∀ t, t < 4 → 85 + 2 * t ∉ (woL ++ scL)) t ht) ((by decide : ∀ t, t < 4 → 86 + 2 * t ∉ (woL ++ scL)) t ht) (by decide) (by decide) (by decide) (i10 t ht), fun i hi => IM1_to e (fun c h1 h2 => (by decide : ∀ c, c < 152 → 95 ≤ c → c ∉ (woL ++ scL)) c (by omega) (by omega)) (by decide) (by decide) (by decide) (i11 i hi), wo⟩
  rw [(e 13 (by decide)).1, f.2.1, f.2.2]
  exact i9
set_option maxRecDepth 16384 in
theorem INV.hold {m n : Nat} {w : Nat → Nat} {h h1 h2 h3 : PH} (I : INV h) (g : HG m w n h h1) (e2 : eqx [177] h1 h2) (e3 : eqx [152, 173] h2 h3) (f : f152 h2 h3) : INV h3 := by
  have e03 : eqx ([73, 74, 83, 152, 173, 177] ++ woL) h h3 := eqx_trans (eqx_mono g.1 (by decide)) (eqx_trans (eqx_mono e2 (by decide)) (eqx_mono e3 (by decide)))
  refine I.w (eqx_mono e03 (by decide)) (f152_trans (f152_eq g.1 (by decide)) (f152_trans (f152_eq e2 (by decide)) f)) (by rw [(e03 31 (by decide)).1]; exact I.2.2.2.2.2.1) (CHc_to e03 (by decide) (by decide) (by decide) I.2.2.2.2.2.2.1) (WO_to (S := [152, 173, 177]) (eqx_trans (eqx_mono e2 (by decide)) (eqx_mono e3 (by decide))) (by decide) g.2.1)
set_option maxRecDepth 16384 in
theorem call_holding {h : PH} {a n c : Int32} (I : INV h) : PC hs_L_holding (f_X11_holding 0 a n c) (f_X12_holding 152 a n c) h := by
  rcases hold_cases a n c I with ⟨k, q, q1, q2, cl, rf⟩ | ⟨t, m, n', c', w, ht, rfl, m1, m6, hw, hn, rfl, hc, rfl, N, cl, rf⟩
  · refine PC_q2 (.inr k) ?_ (fun h2 R2 I2 e2 => ?_)
    · unfold f_X11_holding
      obtain ⟨x, h', e, rfl, cq⟩ := cl
      rw [e, pw_cbxr]
      exact ok_some ⟨rfl, cq⟩
    · unfold f_X12_holding
      simp only [rf h2 ⟨(e2 174 (by decide)).1, (e2 175 (by decide)).1, (e2 176 (by decide)).2⟩, pw_cb, pw_lit]
      refine ok_lt ?_
      simp only [th_pI]
      have hq : ¬ q.2 ≤ nI 0 := by
        intro z
        have : q ∈ hsH := List.mem_of_find?_eq_some q1
        revert z
        exact (by decide : ∀ q, q ∈ hsH → ¬ q.2 ≤ nI 0) q this
      rw [if_neg hq]
      exact ok_some ⟨⟨q, q1, q2, th_pI⟩, RQ_th⟩
  · refine ok_mono (P := fun (x : Int64 ⊕ Nat) h' => x = .inl (lN (Wt m w (n' + 1) c')) ∧ HG m w (n' + 1) h h') ?_ ?_
    · unfold f_X11_holding
      obtain ⟨x, h', e, rfl, g⟩ := cl
      rw [e, pw_cbx, r_0_11, c_worthOf (by omega) hc (g.2.2.2.2 (n' + 1) (Nat.le_refl _) c' hc), pw_cb]
      exact ok_some ⟨rfl, g⟩
    · rintro x h1 ⟨rfl, g⟩ h2 e2
      have ts : trSame h h2 := ⟨by rw [(e2 174 (by decide)).1, (g.1 174 (by decide)).1], by rw [(e2 175 (by decide)).1, (g.1 175 (by decide)).1], by rw [(e2 176 (by decide)).2, (g.1 176 (by decide)).2]⟩
      have hx : eqx [152] h2 (pI h2 152 5 (nI 0)) := eqx_pI (by decide)
      unfold f_X12_holding
      simp only [rf h2 ts, pw_cb, pw_lit]
      refine ok_lt ?_
      simp only [th_pI, Int32.le_refl, if_true]
      refine ok_cb (e_laysWorth ht m6 hw ⟨by rw [(hx 175 (by decide)).1, ts.2.1]; exact N.1, fun k hk => by rw [(hx 176 (by decide)).2, ts.2.2]; exact N.2 k hk⟩) ?_
      rintro r h3 ⟨e3, tw⟩
      have v := tw (n' + 1) c' hc (Or.inl (by omega))
      simp (disch := omega) only [r_152_35, pw_mul, nI_add, pw_ldL, v]
      have e23 : eqx [152, 173] h2 h3 := eqx_trans (eqx_mono hx (by decide)) (eqx_mono e3 (by decide))
      exact ok_some ⟨by rw [(e23 177 (by decide)).2], ⟨by rw [lays_th e3 (by decide), th_pI], rfl⟩, I.hold g e2 e23 (f152_trans (f152_pI (j := 5) (v := nI 0) (by decide) (by decide) (by decide)) (f152_eq e3 (by decide)))⟩
set_option maxRecDepth 16384 in
theorem e_grants_lp {h : PH} {t m n c : Nat} {w : Nat → Nat} (ht : t < 4) (hm : m ≤ 6) (hw : ∀ k, w k ≤ 99) (hn : n < 6) (hc : c < 7) (N : NU t m w h) (tw : TW m w 7 0 h) : lp (b_X12_grants_33 152 (nI t) (nI (n + 1)) (nI c) (fun (y8 : Int64) (h9 : PH) => some (y8.toInt32, h9))) FU (mL, nI 0) h = some (if c = 0 then mI else oI (lo m w n (c - 1) m), h) := by
  by_cases c0 : c = 0
  · subst c0
    refine lp_run (fun _ => (mL, nI 0)) (fun _ => h) 0 _ (fun i hi => absurd hi (by omega)) ?_ FU (fu_lt (by omega))
    intro rec
    have h1 := N.1
    unfold b_X12_grants_33
    simp (disch := omega) only [pw_lt, pw_cb, pw_cbx, pw_cbxr, pw_lit, pw_litL, pw_oi, pw_oim, pw_oi8, pw_m, pw_ldI, pw_ldL, pw_ldR, pw_stI, pw_stL, pw_nz, pw_ltI, pw_leI, pw_eqI, pw_eqm, pw_eqm2, pw_ltm, pw_mlt, pw_lem, pw_mle, pw_mm, pw_dec, pw_nar0, pw_nar1, nI_add, pw_sub, pw_mul, pw_and, pw_or, pw_andn, pw_shl1, pw_shl, pw_shr, pw_dv, nI_l, lN_i, Bool.false_eq_true, reduceCtorEq, if_false, if_true, ↓reduceIte, if_pos, if_neg, r_152_37, h1, Nat.le_refl, ite_self]
    rfl
  · obtain ⟨d, rfl⟩ : ∃ d, c = d + 1 := ⟨c - 1, by omega⟩
    rw [if_neg (by omega), Nat.add_sub_cancel, ← oL_i]
    refine lp_run (fun i => (oL (lo m w n d i), nI i)) (fun _ => h) m _ ?_ ?_ FU (fu_lt (by omega))
    · intro i hi rec
      have h1 := N.1
      have h2 := N.2 i hi
      have hwi := hw i
      have hb1 := Wk_b (m := m) (w := w) (n := n) (c := d) (k := i) hm (by omega) hw
      have hb2 := Wt_b (m := m) (w := w) (n := n) (c := d + 1) hm (by omega) hw
      have v1 := tw n (d + 1) (by omega) (Or.inl (by omega))
      have hg := e_grantsNow (h := h) (x := w i) ht (show n < 7 by omega) (show d < 6 by omega) hm h1 (tw n d (by omega) (Or.inl (by omega)))
      have hlb := lo_b (m := m) (n := n) (c := d) hw i
      unfold b_X12_grants_33
      by_cases c1 : Wt m w n (d + 1) ≤ w i * m ^ n + Wt m w n d
      · cases hl : lo m w n d i with
        | none => simp (disch := omega) only [pw_lt, pw_cb, pw_cbx, pw_cbxr, pw_lit, pw_litL, pw_oi, pw_oim, pw_oi8, pw_m, pw_ldI, pw_ldL, pw_ldR, pw_stI, pw_stL, pw_nz, pw_ltI, pw_leI, pw_eqI, pw_eqm, pw_eqm2, pw_ltm, pw_mlt, pw_lem, pw_mle, pw_mm, pw_dec, pw_nar0, pw_nar1, nI_add, pw_sub, pw_mul, pw_and, pw_or, pw_andn, pw_shl1, pw_shl, pw_shr, pw_dv, nI_l, lN_i, Bool.false_eq_true, reduceCtorEq, if_false, if_true, ↓reduceIte, if_pos, if_neg, r_152_37, h1, r_152_35, r_152_38, Nat.add_sub_cancel, v1, h2, hg, pw_cge, pw_ce, lN_le, lo, hl, oL, c1, pw_mL]
        | some l =>
          have hlb := hlb l hl
          by_cases c2 : w i < l
          · simp (disch := omega) only [pw_lt, pw_cb, pw_cbx, pw_cbxr, pw_lit, pw_litL, pw_oi, pw_oim, pw_oi8, pw_m, pw_ldI, pw_ldL, pw_ldR, pw_stI, pw_stL, pw_nz, pw_ltI, pw_leI, pw_eqI, pw_eqm, pw_eqm2, pw_ltm, pw_mlt, pw_lem, pw_mle, pw_mm, pw_dec, pw_nar0, pw_nar1, nI_add, pw_sub, pw_mul, pw_and, pw_or, pw_andn, pw_shl1, pw_shl, pw_shr, pw_dv, nI_l, lN_i, Bool.false_eq_true, reduceCtorEq, if_false, if_true, ↓reduceIte, if_pos, if_neg, r_152_37, h1, r_152_35, r_152_38, Nat.add_sub_cancel, v1, h2, hg, pw_cge, pw_ce, lN_le, lo, hl, oL, c1, c2, pw_mL, lN_eqm]
          · simp (disch := omega) only [pw_lt, pw_cb, pw_cbx, pw_cbxr, pw_lit, pw_litL, pw_oi, pw_oim, pw_oi8, pw_m, pw_ldI, pw_ldL, pw_ldR, pw_stI, pw_stL, pw_nz, pw_ltI, pw_leI, pw_eqI, pw_eqm, pw_eqm2, pw_ltm, pw_mlt, pw_lem, pw_mle, pw_mm, pw_dec, pw_nar0, pw_nar1, nI_add, pw_sub, pw_mul, pw_and, pw_or, pw_andn, pw_shl1, pw_shl, pw_shr, pw_dv, nI_l, lN_i, Bool.false_eq_true, reduceCtorEq, if_false, if_true, ↓reduceIte, if_pos, if_neg, r_152_37, h1, r_152_35, r_152_38, Nat.add_sub_cancel, v1, h2, hg, pw_cge, pw_ce, lN_le, lo, hl, oL, c1, c2, pw_mL, lN_eqm]
      · simp (disch := omega) only [pw_lt, pw_cb, pw_cbx, pw_cbxr, pw_lit, pw_litL, pw_oi, pw_oim, pw_oi8, pw_m, pw_ldI, pw_ldL, pw_ldR, pw_stI, pw_stL, pw_nz, pw_ltI, pw_leI, pw_eqI, pw_eqm, pw_eqm2, pw_ltm, pw_mlt, pw_lem, pw_mle, pw_mm, pw_dec, pw_nar0, pw_nar1, nI_add, pw_sub, pw_mul, pw_and, pw_or, pw_andn, pw_shl1, pw_shl, pw_shr, pw_dv, nI_l, lN_i, Bool.false_eq_true, reduceCtorEq, if_false, if_true, ↓reduceIte, if_pos, if_neg, r_152_37, h1, r_152_35, r_152_38, Nat.add_sub_cancel, v1, h2, hg, pw_cge, pw_ce, lN_le, lo, c1]
    · intro rec
      have h1 := N.1
      unfold b_X12_grants_33
      simp (disch := omega) only [pw_lt, pw_cb, pw_cbx, pw_cbxr, pw_lit, pw_litL, pw_oi, pw_oim, pw_oi8, pw_m, pw_ldI, pw_ldL, pw_ldR, pw_stI, pw_stL, pw_nz, pw_ltI, pw_leI, pw_eqI, pw_eqm, pw_eqm2, pw_ltm, pw_mlt, pw_lem, pw_mle, pw_mm, pw_dec, pw_nar0, pw_nar1, nI_add, pw_sub, pw_mul, pw_and, pw_or, pw_andn, pw_shl1, pw_shl, pw_shr, pw_dv, nI_l, lN_i, Bool.false_eq_true, reduceCtorEq, if_false, if_true, ↓reduceIte, if_pos, if_neg, r_152_37, h1, Nat.le_refl]
set_option maxRecDepth 16384 in
theorem call_grants {h : PH} {a n c : Int32} (I : INV h) : PC hs_L_grants (f_X11_grants 0 a n c) (f_X12_grants 152 a n c) h := by
  rcases hold_cases a n c I with ⟨k, q, q1, q2, cl, rf⟩ | ⟨t, m, n', c', w, ht, rfl, m1, m6, hw, hn, rfl, hc, rfl, N, cl, rf⟩
  · refine PC_q2 (.inr k) ?_ (fun h2 R2 I2 e2 => ?_)
    · unfold f_X11_grants
      obtain ⟨x, h', e, rfl, cq⟩ := cl
      rw [e, pw_cbxr]
      exact ok_some ⟨rfl, cq⟩
    · unfold f_X12_grants
      simp only [rf h2 ⟨(e2 174 (by decide)).1, (e2 175 (by decide)).1, (e2 176 (by decide)).2⟩, pw_cb, pw_lit]
      refine ok_lt ?_
      simp only [th_pI]
      have hq : ¬ q.2 ≤ nI 0 := by
        intro z
        have : q ∈ hsH := List.mem_of_find?_eq_some q1
        revert z
        exact (by decide : ∀ q, q ∈ hsH → ¬ q.2 ≤ nI 0) q this
      rw [if_neg hq]
      exact ok_some ⟨⟨q, q1, q2, th_pI⟩, RQ_th⟩
  · refine ok_mono (P := fun (x : Int32 ⊕ Nat) h' => x = .inl (if c' = 0 then mI else oI (lo m w n' (c' - 1) m)) ∧ HG m w (n' + 1) h h') ?_ ?_
    · unfold f_X11_grants
      obtain ⟨x, h', e, rfl, g⟩ := cl
      rw [e, pw_cbx, r_0_11]
      by_cases c0 : c' = 0
      · subst c0
        rw [c_leastNow0 m6 (by omega) g.2.2.1.1, pw_cb]
        exact ok_some ⟨rfl, g⟩
      · obtain ⟨d, rfl⟩ : ∃ d, c' = d + 1 := ⟨c' - 1, by omega⟩
        rw [c_leastNow m6 hw hn (by omega) g.2.2.1 (g.2.2.2.1 n' (by omega)) (fun c hc => g.2.2.2.2 n' (by omega) c hc), pw_cb]
        exact ok_some ⟨by rw [if_neg (by omega), Nat.add_sub_cancel], g⟩
    · rintro x h1 ⟨rfl, g⟩ h2 e2
      have ts : trSame h h2 := ⟨by rw [(e2 174 (by decide)).1, (g.1 174 (by decide)).1], by rw [(e2 175 (by decide)).1, (g.1 175 (by decide)).1], by rw [(e2 176 (by decide)).2, (g.1 176 (by decide)).2]⟩
      have hx : eqx [152] h2 (pI h2 152 5 (nI 0)) := eqx_pI (by decide)
      unfold f_X12_grants
      simp only [rf h2 ts, pw_cb, pw_lit]
      refine ok_lt ?_
      simp only [th_pI, Int32.le_refl, if_true]
      have N3 : NU t m w (pI h2 152 5 (nI 0)) := ⟨by rw [(hx 175 (by decide)).1, ts.2.1]; exact N.1, fun k hk => by rw [(hx 176 (by decide)).2, ts.2.2]; exact N.2 k hk⟩
      refine ok_cb (e_laysWorth ht m6 hw N3) ?_
      rintro r h3 ⟨e3, tw⟩
      refine ok_lt (ok_lt (ok_lt ?_))
      have e23 : eqx [152, 173] h2 h3 := eqx_trans (eqx_mono hx (by decide)) (eqx_mono e3 (by decide))
      simp only [pw_litL, pw_mL]
      rw [e_grants_lp ht m6 hw hn hc (NU_to e3 (by decide) (by decide) N3) tw]
      exact ok_some ⟨by rw [(e23 177 (by decide)).2], ⟨by rw [lays_th e3 (by decide), th_pI], rfl⟩, I.hold g e2 e23 (f152_trans (f152_pI (j := 5) (v := nI 0) (by decide) (by decide) (by decide)) (f152_eq e3 (by decide)))⟩

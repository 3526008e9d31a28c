/-! ===== judge ===== -/
def joO (K T : Nat → Int32) (f : Nat → Int64) : Nat → Nat
  | 0 => gv K 7
  | k + 1 => sdf (joO K T f k) (grO K T (joO K T f k) (pn (f k)))
def joS (K T : Nat → Int32) (f : Nat → Int64) : Nat → Nat
  | 0 => 0
  | k + 1 => joS K T f k + wt K (grO K T (joO K T f k) (pn (f k)))
def jgd (K T : Nat → Int32) (f : Nat → Int64) (k : Nat) : Prop := ∃ p, p ≤ ga K ∧ f k = lN p ∧ wyo K T (joO K T f k) p = 0
def jre (K T : Nat → Int32) (f : Nat → Int64) (k r : Nat) : Prop := (∃ p, p ≤ ga K ∧ f k = lN p ∧ r = wyo K T (joO K T f k) p) ∨ ((¬ ∃ p, p ≤ ga K ∧ f k = lN p) ∧ r = 1)
/- where the judging ends: at m, or at the first place that can't be, and why -/
def jend (K T : Nat → Int32) (f : Nat → Int64) (m k r : Nat) : Prop := (∀ i, i < k → jgd K T f i) ∧ (k = m ∧ r = 0 ∨ k < m ∧ r ≠ 0 ∧ r ≤ 3 ∧ jre K T f k r)
set_option maxRecDepth 16384 in
theorem joO_lt {K T : Nat → Int32} {f : Nat → Int64} (H : RK K) : ∀ k, joO K T f k < 2 ^ gv K 5
  | 0 => open_lt H
  | k + 1 => by
    have := joO_lt (T := T) (f := f) H k
    have h2 := sdf_le (joO K T f k) (grO K T (joO K T f k) (pn (f k)))
    rw [joO]
    omega
set_option maxRecDepth 16384 in
theorem joS_le {K T : Nat → Int32} {f : Nat → Int64} (H : RK K) : ∀ k, joS K T f k ≤ 90 * k
  | 0 => Nat.le_refl _
  | k + 1 => by
    have := joS_le (T := T) (f := f) H k
    have h2 := wt_le H (grO K T (joO K T f k) (pn (f k)))
    rw [joS]
    omega
set_option maxRecDepth 16384 in
theorem wyo_le (K T : Nat → Int32) (o p : Nat) : wyo K T o p ≤ 3 := by
  unfold wyo
  split
  · omega
  · split <;> omega
set_option maxRecDepth 16384 in
theorem c_judge_lp {K T : Nat → Int32} {h : PH} {t m : Nat} {f : Nat → Int64} {Q : (Int32 ⊕ Nat) → PH → Prop} {j : Int32 → Int32 → Int32 → Int32 → PH → Option ((Int32 ⊕ Nat) × PH)} (F : FC K T h) (hwe : ∀ i, i < gv K 5 → h.1 5 i = K (34 + i)) (ht : t < 4) (hm : m ≤ 30) (hmany : h.1 (85 + 2 * t) 1 = nI m) (hrow : ∀ k, k < 30 → h.2 (86 + 2 * t) k = f k) (hj : ∀ k r h', jend K T f m k r → eqx [31, 32] h h' → FC K T h' → ok (j (nI (joO K T f k)) (nI (joS K T f k)) (nI k) (nI r) h') Q) : ok (lp (b_X11_judge_30 0 (85 + 2 * t) j) FU (nI (gv K 7), nI 0, nI 0, nI 0) h) Q := by
  have hb := rk_b F.1
  have hc1 : 85 + 2 * t ∉ [31, 32] := (by decide : ∀ t, t < 4 → 85 + 2 * t ∉ [31, 32]) t ht
  have hc2 : 86 + 2 * t ∉ [31, 32] := (by decide : ∀ t, t < 4 → 86 + 2 * t ∉ [31, 32]) t ht
  have hp2 : 2 ^ gv K 5 ≤ 2 ^ 10 := Nat.pow_le_pow_right (by decide) hb.2.2.2.2.2.2.1
  have e1024 : 2 ^ 10 = 1024 := rfl
  refine lp_ok (fun n s h1 => ∃ k r, s = (nI (joO K T f k), nI (joS K T f k), nI k, nI r) ∧ k ≤ m ∧ eqx [31, 32] h h1 ∧ FC K T h1 ∧ (∀ i, i < k → jgd K T f i) ∧ (r = 0 ∧ n = 2 * (m - k) + 1 ∨ k < m ∧ r ≠ 0 ∧ r ≤ 3 ∧ jre K T f k r ∧ n = 2 * (m - k))) ?_ FU (2 * m + 1) _ h ⟨0, 0, rfl, Nat.zero_le _, eqx_rfl _ _, F, fun i hi => absurd hi (by omega), Or.inl ⟨rfl, by omega⟩⟩ (fu_lt (by omega))
  rintro n rec s h1 ⟨k, r, rfl, hk, e1, F1, g1, hs⟩ hrec
  have v1 : h1.1 (85 + 2 * t) 1 = nI m := by rw [(e1 _ hc1).1]; exact hmany
  have hol := joO_lt (T := T) (f := f) F.1 k
  have hsl := joS_le (T := T) (f := f) F.1 k
  unfold b_X11_judge_30
  by_cases hkm : k = m
  · subst hkm
    have hr : r = 0 := by omega
    subst hr
    simp (disch := omega) only [v1, pw_leI, Nat.le_refl, if_true]
    exact hj k 0 h1 ⟨g1, Or.inl ⟨rfl, rfl⟩⟩ e1 F1
  · simp (disch := omega) only [v1, pw_leI]
    rw [if_neg (by omega)]
    rcases hs with ⟨rfl, hn⟩ | ⟨hk2, hr, hr3, hjr, hn⟩
    · have v2 : h1.2 (86 + 2 * t) k = f k := by rw [(e1 _ hc2).2]; exact hrow k (by omega)
      simp (disch := omega) only [pw_lit, if_true, r_tr, pw_ldL, v2, r_0_6, r_0_2]
      by_cases hq : ∃ p, p ≤ ga K ∧ f k = lN p
      · obtain ⟨p, hp, hf⟩ := hq
        have hpn : pn (f k) = p := by rw [hf, pn_lN (by omega)]
        rw [hf]
        refine ok_cb (c_whyNot F1 hp (by omega)) ?_
        rintro r2 h2 ⟨rfl, e2, F2⟩
        have e12 := eqx_trans e1 e2
        have hwl := wyo_le K T (joO K T f k) p
        have v3 : h2.2 (86 + 2 * t) k = lN p := by rw [(e12 _ hc2).2, hrow k (by omega)]; exact hf
        refine ok_lt ?_
        by_cases hz : wyo K T (joO K T f k) p = 0
        · rw [hz]
          simp (disch := omega) only [if_true, pw_ldL, v3, lN_i]
          refine ok_cb (c_grantedBy (o := joO K T f k) F2 hp) ?_
          rintro r3 h3 ⟨rfl, e3, F3⟩
          have e13 := eqx_trans e12 e3
          have hgr : hw K T (wx K p) &&& joO K T f k = grO K T (joO K T f k) p := rfl
          have hgl := grO_1024 (T := T) F.1 (o := joO K T f k) (p := p)
          have hw3 := c_weightOf (h := h3) (s := grO K T (joO K T f k) p) F.1 F3.2.1 (by rw [(e13 5 (by decide)).1]; exact hwe) (by omega)
          have hwl3 := wt_le F.1 (grO K T (joO K T f k) p)
          rw [hgr]
          refine ok_lt ?_
          rw [hw3]
          simp (disch := omega) only [pw_lt, pw_cb, pw_cbx, pw_cbxr, pw_lit, pw_litL, pw_oi, pw_oim, pw_oi8, pw_m, pw_ldI, pw_ldL, pw_ldR, pw_stI, pw_stL, pw_nz, pw_ltI, pw_leI, pw_eqI, pw_eqm, pw_eqm2, pw_ltm, pw_mlt, pw_lem, pw_mle, pw_mm, pw_dec, pw_nar0, pw_nar1, nI_add, pw_sub, pw_mul, pw_and, pw_or, pw_andn, pw_shl1, pw_shr, pw_dv, nI_l, lN_i, Bool.false_eq_true, reduceCtorEq, if_false, if_true, ↓reduceIte, if_pos, if_neg]
          have hr2 := hrec (2 * (m - (k + 1)) + 1) (nI (joO K T f (k + 1)), nI (joS K T f (k + 1)), nI (k + 1), nI 0) h3 (by omega) ⟨k + 1, 0, rfl, by omega, e13, F3, fun i hi => by
            rcases (show i < k ∨ i = k by omega) with z | rfl
            · exact g1 i z
            · exact ⟨p, hp, hf, hz⟩, Or.inl ⟨rfl, rfl⟩⟩
          rw [joO, joS, hpn] at hr2
          exact hr2
        · simp (disch := omega) only [pw_eqI, hz, if_false]
          exact hrec (2 * (m - k)) _ h2 (by omega) ⟨k, wyo K T (joO K T f k) p, rfl, hk, e12, F2, g1, Or.inr ⟨by omega, hz, hwl, Or.inl ⟨p, hp, hf, rfl⟩, rfl⟩⟩
      · rw [c_wy1 F1 hq]
        simp only [pw_cb]
        refine ok_lt ?_
        simp (disch := omega) only [pw_eqI, show ¬ (1 = 0) by decide, if_false]
        exact hrec (2 * (m - k)) _ h1 (by omega) ⟨k, 1, rfl, hk, e1, F1, g1, Or.inr ⟨by omega, by decide, by decide, Or.inr ⟨hq, rfl⟩, rfl⟩⟩
    · simp (disch := omega) only [pw_lit, pw_eqI, hr, if_false]
      exact hj k r h1 ⟨g1, Or.inr ⟨hk2, hr, hr3, hjr⟩⟩ e1 F1

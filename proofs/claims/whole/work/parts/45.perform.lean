/-! ===== perform ===== -/
def pn (v : Int64) : Nat := v.toInt.toNat
set_option maxRecDepth 16384 in
theorem pn_lN {p : Nat} (h : p < 2147483648) : pn (lN p) = p := by
  unfold pn
  rw [lN_toInt (by omega)]
  exact Int.toNat_natCast p
def pfK (K T : Nat → Int32) (f : Nat → Int64) : Nat → Nat → Int32
  | 0 => K
  | k + 1 => NK (pfK K T f k) T (pn (f k))
def pgd (K T : Nat → Int32) (f : Nat → Int64) (k : Nat) : Prop := ∃ p, p ≤ ga K ∧ f k = lN p ∧ wy (pfK K T f k) T p = 0
set_option maxRecDepth 16384 in
theorem pfK_ok {K T : Nat → Int32} {f : Nat → Int64} (G : GK K) : ∀ k, GK (pfK K T f k) ∧ sameK K (pfK K T f k)
  | 0 => ⟨G, sameK_rfl K⟩
  | k + 1 => by
    obtain ⟨g, s⟩ := pfK_ok (T := T) (f := f) G k
    obtain ⟨g2, s2⟩ := NK_GK (T := T) g (pn (f k))
    exact ⟨g2, sameK_trans s s2⟩
set_option maxRecDepth 16384 in
theorem pfK_s {K T : Nat → Int32} {f : Nat → Int64} {k p : Nat} (hp : p < 2147483648) (e : f k = lN p) : pfK K T f (k + 1) = NK (pfK K T f k) T p := by
  rw [pfK, e, pn_lN hp]
set_option maxRecDepth 16384 in
theorem c_perform_lp {K T : Nat → Int32} {h : PH} {t m : Nat} {f : Nat → Int64} (G : GK K) (C : CS K T h) (ht : t < 4) (hm : m ≤ 30) (hmany : h.1 (85 + 2 * t) 1 = nI m) (hrow : ∀ k, k < 30 → h.2 (86 + 2 * t) k = f k) : ok (lp (b_X11_perform_8 0 (85 + 2 * t) (fun (y4 : Int32) (h5 : PH) => some (.inl y4, h5))) FU (nI 0) h) (fun (x : Int32 ⊕ Nat) h' => ∃ k, k ≤ m ∧ x = .inl (nI k) ∧ (∀ i, i < k → pgd K T f i) ∧ (k = m ∨ ¬ pgd K T f k) ∧ eqx cbS h h' ∧ CS (pfK K T f k) T h') := by
  have hb := rk_b G.1
  have hc1 : 85 + 2 * t ∉ cbS := (by decide : ∀ t, t < 4 → 85 + 2 * t ∉ cbS) t ht
  have hc2 : 86 + 2 * t ∉ cbS := (by decide : ∀ t, t < 4 → 86 + 2 * t ∉ cbS) t ht
  refine lp_ok (fun n s h1 => n ≤ m ∧ s = nI (m - n) ∧ eqx cbS h h1 ∧ CS (pfK K T f (m - n)) T h1 ∧ ∀ i, i < m - n → pgd K T f i) ?_ FU m _ h ⟨Nat.le_refl _, by rw [Nat.sub_self], eqx_rfl _ _, by rw [Nat.sub_self]; exact C, fun i hi => absurd hi (by omega)⟩ (fu_lt (by omega))
  rintro n rec s h1 ⟨hn, rfl, e1, C1, g1⟩ hrec
  have v1 : h1.1 (85 + 2 * t) 1 = nI m := by rw [(e1 _ hc1).1]; exact hmany
  unfold b_X11_perform_8
  by_cases h0 : n = 0
  · subst h0
    simp (disch := omega) only [pw_lt, pw_cb, pw_cbx, pw_cbxr, pw_lit, pw_litL, pw_oi, pw_oim, pw_oi8, pw_m, pw_ldI, pw_ldL, pw_ldR, pw_stI, pw_stL, pw_nz, pw_ltI, pw_leI, pw_eqI, pw_eqm, pw_eqm2, pw_ltm, pw_mlt, pw_lem, pw_mle, pw_mm, pw_dec, pw_nar0, pw_nar1, nI_add, pw_sub, pw_mul, pw_and, pw_or, pw_andn, pw_shl1, pw_shl, pw_shr, pw_dv, nI_l, lN_i, Bool.false_eq_true, reduceCtorEq, if_false, if_true, ↓reduceIte, if_pos, if_neg, v1, Nat.sub_zero, Nat.le_refl]
    exact ok_some ⟨m, Nat.le_refl _, rfl, fun i hi => g1 i (by omega), Or.inl rfl, e1, C1⟩
  · generalize hk : m - n = k at *
    have e9 : m - (n - 1) = k + 1 := by omega
    have v2 : h1.2 (86 + 2 * t) k = f k := by rw [(e1 _ hc2).2]; exact hrow k (by omega)
    have hsk := (pfK_ok (T := T) (f := f) G k).2
    have hga : ga (pfK K T f k) = ga K := ga_same hsk
    have o1 := C1.op
    simp (disch := omega) only [v1, pw_leI, r_tr, pw_ldL, v2, r_0_5, r_0_6, o1]
    rw [if_neg (by omega)]
    by_cases hq : ∃ p, p ≤ ga K ∧ f k = lN p
    · obtain ⟨p, hp, hf⟩ := hq
      rw [hf]
      refine ok_cb (c_wy C1.fc (by rw [hga]; exact hp)) ?_
      rintro r h2 ⟨rfl, e2, F2⟩
      have C2 := C1.f e2 F2
      have hwl := wy_le (pfK K T f k) T p
      have e12 : eqx cbS h h2 := eqx_trans e1 (eqx_mono e2 (by decide))
      by_cases hz : wy (pfK K T f k) T p = 0
      · have v3 : h2.2 (86 + 2 * t) k = lN p := by rw [(e12 _ hc2).2, hrow k (by omega)]; exact hf
        rw [hz]
        simp (disch := omega) only [pw_lit, if_true, r_tr, pw_ldL, v3, lN_i]
        refine ok_cb (c_makeNight C2 (by rw [hga]; exact hp)) ?_
        rintro r3 h3 ⟨-, e3, C3⟩
        simp (disch := omega) only [pw_lt, pw_cb, pw_cbx, pw_cbxr, pw_lit, pw_litL, pw_oi, pw_oim, pw_oi8, pw_m, pw_ldI, pw_ldL, pw_ldR, pw_stI, pw_stL, pw_nz, pw_ltI, pw_leI, pw_eqI, pw_eqm, pw_eqm2, pw_ltm, pw_mlt, pw_lem, pw_mle, pw_mm, pw_dec, pw_nar0, pw_nar1, nI_add, pw_sub, pw_mul, pw_and, pw_or, pw_andn, pw_shl1, pw_shl, pw_shr, pw_dv, nI_l, lN_i, Bool.false_eq_true, reduceCtorEq, if_false, if_true, ↓reduceIte, if_pos, if_neg]
        refine hrec (n - 1) _ h3 (by omega) ⟨by omega, by rw [e9], eqx_trans e12 e3, by rw [e9, pfK_s (by omega) hf]; exact C3, fun i hi => ?_⟩
        rw [e9] at hi
        rcases (show i < k ∨ i = k by omega) with z | rfl
        · exact g1 i z
        · exact ⟨p, hp, hf, hz⟩
      · simp (disch := omega) only [pw_lit, pw_eqI, hz, if_false]
        refine ok_some ⟨k, by omega, rfl, g1, Or.inr ?_, e12, C2⟩
        rintro ⟨p2, hp2, hf2, hz2⟩
        rw [hf] at hf2
        have : p = p2 := by
          have := congrArg pn hf2
          rw [pn_lN (by omega), pn_lN (by omega)] at this
          exact this
        subst this
        exact hz hz2
    · rw [c_wy1 C1.fc (by rw [hga]; exact hq)]
      simp (disch := omega) only [pw_cb, pw_lit, pw_eqI, show ¬ (1 = 0) by decide, if_false]
      refine ok_some ⟨k, by omega, rfl, g1, Or.inr ?_, e1, C1⟩
      rintro ⟨p2, hp2, hf2, -⟩
      exact hq ⟨p2, hp2, hf2⟩
set_option maxRecDepth 16384 in
theorem e_perform_lp {K T : Nat → Int32} {h : PH} {t m k : Nat} {f : Nat → Int64} {Q : Int32 → PH → Prop} {j : Int32 → PH → Option (Int32 × PH)} (G : GK K) (R : RX K T h) (ht : t < 4) (hm : m ≤ 30) (hmany : h.1 175 t = nI m) (hrow : ∀ k, k < 30 → h.2 176 (30 * t + k) = f k) (hk : k ≤ m) (hg : ∀ i, i < k → pgd K T f i) (he : k = m ∨ ¬ pgd K T f k) (hj : ∀ h', eqx [153] h h' → h'.1 153 = pfK K T f k → ok (j (nI k) h') Q) : ok (lp (b_X12_perform_20 152 (nI t) j) FU (nI 0) h) Q := by
  have hb := rk_b G.1
  refine lp_ok (fun n s h1 => n ≤ k ∧ s = nI (k - n) ∧ eqx [153] h h1 ∧ RX (pfK K T f (k - n)) T h1) ?_ FU k _ h ⟨Nat.le_refl _, by rw [Nat.sub_self], eqx_rfl _ _, by rw [Nat.sub_self]; exact R⟩ (fu_lt (by omega))
  rintro n rec s h1 ⟨hn, rfl, e1, R1⟩ hrec
  have v1 : h1.1 175 t = nI m := by rw [(e1 175 (by decide)).1]; exact hmany
  have v2 : ∀ i, i < 30 → h1.2 176 (30 * t + i) = f i := fun i hi => by rw [(e1 176 (by decide)).2]; exact hrow i hi
  unfold b_X12_perform_20
  by_cases h0 : n = 0
  · subst h0
    rw [Nat.sub_zero] at R1 ⊢
    by_cases hkm : k = m
    · subst hkm
      simp (disch := omega) only [pw_lt, pw_cb, pw_cbx, pw_cbxr, pw_lit, pw_litL, pw_oi, pw_oim, pw_oi8, pw_m, pw_ldI, pw_ldL, pw_ldR, pw_stI, pw_stL, pw_nz, pw_ltI, pw_leI, pw_eqI, pw_eqm, pw_eqm2, pw_ltm, pw_mlt, pw_lem, pw_mle, pw_mm, pw_dec, pw_nar0, pw_nar1, nI_add, pw_sub, pw_mul, pw_and, pw_or, pw_andn, pw_shl1, pw_shl, pw_shr, pw_dv, nI_l, lN_i, Bool.false_eq_true, reduceCtorEq, if_false, if_true, ↓reduceIte, if_pos, if_neg, r_152_37, v1, Nat.le_refl]
      exact hj h1 e1 R1.2.1
    · have hng : ¬ pgd K T f k := he.resolve_left hkm
      have v3 := v2 k (by omega)
      have hga : ga (pfK K T f k) = ga K := ga_same (pfK_ok (T := T) (f := f) G k).2
      simp (disch := omega) only [pw_lit, r_152_37, pw_ldI, v1, pw_leI, r_152_38, pw_mul, nI_add, pw_ldL, v3]
      rw [if_neg (by omega)]
      by_cases hq : ∃ p, p ≤ ga K ∧ f k = lN p
      · obtain ⟨p, hp, hf⟩ := hq
        have hwl := wy_le (pfK K T f k) T p
        have hz : ¬ wy (pfK K T f k) T p = 0 := fun z => hng ⟨p, hp, hf, z⟩
        rw [hf, e_wy R1 (by rw [hga]; exact hp)]
        simp (disch := omega) only [pw_cb, pw_eqI, hz, if_false]
        exact hj h1 e1 R1.2.1
      · rw [e_wy1 R1 (by rw [hga]; exact hq)]
        simp (disch := omega) only [pw_cb, pw_eqI, show ¬ (1 = 0) by decide, if_false]
        exact hj h1 e1 R1.2.1
  · generalize hi : k - n = i at *
    have e9 : k - (n - 1) = i + 1 := by omega
    obtain ⟨p, hp, hf, hz⟩ := hg i (by omega)
    have v3 := v2 i (by omega)
    rw [hf] at v3
    obtain ⟨Gi, si⟩ := pfK_ok (T := T) (f := f) G i
    have hga : ga (pfK K T f i) = ga K := ga_same si
    simp (disch := omega) only [pw_lit, r_152_37, pw_ldI, v1, pw_leI, r_152_38, pw_mul, nI_add, pw_ldL, v3]
    rw [if_neg (by omega), e_wy R1 (by rw [hga]; exact hp), hz]
    simp only [pw_cb, if_true]
    refine ok_cb (e_keepsR ⟨Gi, R1⟩) ?_
    rintro r h2 ⟨e2, S2⟩
    have v4 : h2.2 176 (30 * t + i) = lN p := by rw [(e2 176 (by decide)).2]; exact v3
    have hs := keep_same Gi.1
    have e7 : gv (keepK (pfK K T f i)) 7 = gv (pfK K T f i) 7 := (keep_RK Gi.1).2.2
    simp (disch := omega) only [pw_ldL, v4, lN_i]
    refine ok_cb (e_goesR (p := p) S2 (by rw [ga_same hs, hga]; exact hp)) ?_
    rintro r3 h3 ⟨-, e3, S3⟩
    rw [gG_same Gi.1 hs e7] at S3
    simp (disch := omega) only [pw_lt, pw_cb, pw_cbx, pw_cbxr, pw_lit, pw_litL, pw_oi, pw_oim, pw_oi8, pw_m, pw_ldI, pw_ldL, pw_ldR, pw_stI, pw_stL, pw_nz, pw_ltI, pw_leI, pw_eqI, pw_eqm, pw_eqm2, pw_ltm, pw_mlt, pw_lem, pw_mle, pw_mm, pw_dec, pw_nar0, pw_nar1, nI_add, pw_sub, pw_mul, pw_and, pw_or, pw_andn, pw_shl1, pw_shl, pw_shr, pw_dv, nI_l, lN_i, Bool.false_eq_true, reduceCtorEq, if_false, if_true, ↓reduceIte, if_pos, if_neg]
    refine hrec (n - 1) _ h3 (by omega) ⟨by omega, by rw [e9], eqx_trans e1 (eqx_trans e2 e3), ?_⟩
    rw [e9, pfK_s (by omega) hf]
    exact S3.2
set_option maxRecDepth 16384 in
theorem call_perform {h : PH} {a : Int32} (I : INV h) : PC hs_L_perform (f_X11_perform 0 a) (f_X12_perform 152 a) h := by
  rcases tray_cases a I with ⟨c, r⟩ | ⟨c, r⟩ | ⟨t, s, m, ht, rfl, ⟨d1, d2, d3, d4, d5, d6, d7⟩, c, r⟩
  · refine PC_q2 (.inr 1) ?_ (fun h2 R2 I2 e2 => ?_)
    · unfold f_X11_perform
      simp only [c, pw_cbxr]
      exact ok_some ⟨rfl, CQ_rfl I⟩
    · unfold f_X12_perform
      simp only [r h2 (e2 174 (by decide)).1, pw_cb, pw_lit]
      refine ok_lt ?_
      simp only [th_pI]
      rw [if_neg (by decide)]
      exact ok_some ⟨⟨(1, 1), rfl, by decide, th_pI⟩, RQ_th⟩
  · refine PC_q2 (.inr 2) ?_ (fun h2 R2 I2 e2 => ?_)
    · unfold f_X11_perform
      simp only [c, pw_cbxr]
      exact ok_some ⟨rfl, CQ_rfl I⟩
    · unfold f_X12_perform
      simp only [r h2 (e2 174 (by decide)).1, pw_cb, pw_lit]
      refine ok_lt ?_
      simp only [th_pI]
      rw [if_neg (by decide)]
      exact ok_some ⟨⟨(2, 2), rfl, by decide, th_pI⟩, RQ_th⟩
  · refine ok_mono (P := fun (x : Int32 ⊕ Nat) h' => ∃ k, k ≤ m ∧ x = .inl (nI k) ∧ (∀ i, i < k → pgd (h.1 153) (h.1 159) (fun k => h.2 176 (30 * t + k)) i) ∧ (k = m ∨ ¬ pgd (h.1 153) (h.1 159) (fun k => h.2 176 (30 * t + k)) k) ∧ eqx cbS h h' ∧ CS (pfK (h.1 153) (h.1 159) (fun k => h.2 176 (30 * t + k)) k) (h.1 159) h') ?_ ?_
    · unfold f_X11_perform
      simp only [c, pw_cbx, gk_tr ht, pw_lit]
      refine ok_lt (ok_lt ?_)
      exact c_perform_lp I.1 I.cs ht d2 d5 d7
    · rintro x h1 ⟨k, hk, rfl, hg, he, e1, C1⟩ h2 e2
      have R2 : RX (h.1 153) (h.1 159) h2 := (I.rx.to e1 (by decide) (by decide) (by decide)).to e2 (by decide) (by decide) (by decide)
      have k174 : h2.1 174 = h.1 174 := by rw [(e2 174 (by decide)).1, (e1 174 (by decide)).1]
      have k175 : h2.1 175 = h.1 175 := by rw [(e2 175 (by decide)).1, (e1 175 (by decide)).1]
      have k176 : h2.2 176 = h.2 176 := by rw [(e2 176 (by decide)).2, (e1 176 (by decide)).2]
      unfold f_X12_perform
      simp only [r h2 k174, pw_cb, pw_lit]
      refine ok_lt ?_
      simp only [th_pI, Int32.le_refl, if_true]
      refine ok_lt (ok_lt ?_)
      refine e_perform_lp (m := m) (k := k) I.1 (RX_pI R2) ht d2 (by rw [pw_pIo (by omega), k175]; exact d6) (fun i hi => by rw [pw_pI2, k176]) hk hg he (fun h3 e3 k3 => ?_)
      refine ok_some ⟨by rw [(e3 177 (by decide)).2, pw_pI2], ⟨by rw [lays_th e3 (by decide), th_pI], rfl⟩, I.ch e1 C1 (eqx_trans (eqx_mono e2 (by decide)) (eqx_trans (eqx_pI (by decide)) (eqx_mono e3 (by decide)))) (f152_trans (f152_eq e2 (by decide)) (f152_trans (f152_pI (by decide) (by decide) (by decide)) (f152_eq e3 (by decide)))) (pfK_ok I.1 k).2 k3⟩

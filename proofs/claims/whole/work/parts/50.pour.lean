/-! ===== pour ===== -/
set_option maxRecDepth 16384 in
theorem aL_pre {K T : Nat → Int32} {o p : Nat} : ∀ d, ∃ r, aL K T o (p + d) = aL K T o p ++ r
  | 0 => ⟨[], by simp⟩
  | d + 1 => by
    obtain ⟨r, e⟩ := aL_pre (K := K) (T := T) (o := o) (p := p) d
    refine ⟨r ++ (if ablo K T o (p + d) then [p + d] else []), ?_⟩
    rw [show p + (d + 1) = p + d + 1 by omega, aL_s, e, List.append_assoc]
set_option maxRecDepth 16384 in
theorem aL_leN {K T : Nat → Int32} {o p N : Nat} (hp : p ≤ N) : (aL K T o p).length ≤ (aL K T o N).length := by
  obtain ⟨r, e⟩ := aL_pre (K := K) (T := T) (o := o) (p := p) (N - p)
  rw [show p + (N - p) = N by omega] at e
  rw [e, List.length_append]
  omega
set_option maxRecDepth 16384 in
theorem aL_at {K T : Nat → Int32} {o p N : Nat} (hp : p < N) (ha : ablo K T o p = true) : (aL K T o N).getD (aL K T o p).length 0 = p := by
  obtain ⟨r, e⟩ := aL_pre (K := K) (T := T) (o := o) (p := p + 1) (N - (p + 1))
  rw [show p + 1 + (N - (p + 1)) = N by omega, aL_s, ha] at e
  rw [e, List.getD_eq_getElem?_getD, List.append_assoc, List.getElem?_append_right (Nat.le_refl _)]
  simp
set_option maxRecDepth 16384 in
theorem aL_el {K T : Nat → Int32} {o N i : Nat} (hi : i < (aL K T o N).length) : (aL K T o N).getD i 0 < N := (fA_take (σ := Unit) (ablo K T o) (fun s _ => s) () N i hi).2.1
set_option maxRecDepth 16384 in
theorem e_pour_lp {K T : Nat → Int32} {h : PH} {t s m : Nat} {Q : Int32 → PH → Prop} {j : Int32 → PH → Option (Int32 × PH)} (R : RX K T h) (ht : t < 4) (hs : s < 4) (hm : m ≤ 30) (h4 : h.1 174 t = nI s) (h5 : h.1 175 t = nI m) (hj : ∀ h' k, k = min m (aL K T (gv K 7) (ga K + 1)).length → eqx [176] h h' → (∀ x, h'.2 176 x = if 30 * t ≤ x ∧ x < 30 * t + k then cutV s (lN ((aL K T (gv K 7) (ga K + 1)).getD (x - 30 * t) 0)) else h.2 176 x) → ok (j (nI k) h') Q) : ok (lp (b_X12_pour_22 152 (nI t) j) FU (nI 0, nI 0) h) Q := by
  have H := R.1
  obtain ⟨b0, b1, b2, b3, b4, b5, b6, b7, b8, b9, b10⟩ := rk_b H
  refine lp_ok (fun n st h1 => ∃ p, p + n = ga K + 1 ∧ st = (nI (aL K T (gv K 7) p).length, nI p) ∧ (aL K T (gv K 7) p).length ≤ m ∧ eqx [176] h h1 ∧ ∀ x, h1.2 176 x = if 30 * t ≤ x ∧ x < 30 * t + (aL K T (gv K 7) p).length then cutV s (lN ((aL K T (gv K 7) (ga K + 1)).getD (x - 30 * t) 0)) else h.2 176 x) ?_ FU (ga K + 1) _ h ⟨0, by omega, rfl, Nat.zero_le _, eqx_rfl _ _, fun x => by
    rw [if_neg]
    show ¬ (30 * t ≤ x ∧ x < 30 * t + 0)
    omega⟩ (fu_lt (by omega))
  rintro n rec st h1 ⟨p, hp, rfl, hk, e1, y1⟩ hrec
  have R1 : RX K T h1 := R.to e1 (by decide) (by decide) (by decide)
  have q153 := R1.2.1
  have hev := e_everywhere (h := h1) (by rw [q153]; exact H)
  rw [q153] at hev
  have v5 : h1.1 175 t = nI m := by rw [(e1 175 (by decide)).1]; exact h5
  have v4 : h1.1 174 t = nI s := by rw [(e1 174 (by decide)).1]; exact h4
  have hle := aL_leN (K := K) (T := T) (o := gv K 7) (show p ≤ ga K + 1 by omega)
  unfold b_X12_pour_22
  rw [hev]
  by_cases c1 : ga K < p
  · have ep : p = ga K + 1 := by omega
    subst ep
    simp (disch := omega) only [pw_lt, pw_cb, pw_cbx, pw_cbxr, pw_lit, pw_litL, pw_oi, pw_oim, pw_oi8, pw_m, pw_ldI, pw_ldL, pw_ldR, pw_stI, pw_stL, pw_nz, pw_ltI, pw_leI, pw_eqI, pw_eqm, pw_eqm2, pw_ltm, pw_mlt, pw_lem, pw_mle, pw_mm, pw_dec, pw_nar0, pw_nar1, nI_add, pw_sub, pw_mul, pw_and, pw_or, pw_andn, pw_shl1, pw_shl, pw_shr, pw_dv, nI_l, lN_i, Bool.false_eq_true, reduceCtorEq, if_false, if_true, ↓reduceIte, if_pos, if_neg]
    exact hj h1 _ (by rw [Nat.min_eq_right hk]) e1 y1
  · by_cases c2 : (aL K T (gv K 7) p).length = m
    · simp (disch := omega) only [pw_lt, pw_cb, pw_cbx, pw_cbxr, pw_lit, pw_litL, pw_oi, pw_oim, pw_oi8, pw_m, pw_ldI, pw_ldL, pw_ldR, pw_stI, pw_stL, pw_nz, pw_ltI, pw_leI, pw_eqI, pw_eqm, pw_eqm2, pw_ltm, pw_mlt, pw_lem, pw_mle, pw_mm, pw_dec, pw_nar0, pw_nar1, nI_add, pw_sub, pw_mul, pw_and, pw_or, pw_andn, pw_shl1, pw_shl, pw_shr, pw_dv, nI_l, lN_i, Bool.false_eq_true, reduceCtorEq, if_false, if_true, ↓reduceIte, if_pos, if_neg, r_152_37, v5, c2, Nat.le_refl]
      rw [c2] at y1 hle
      exact hj h1 _ (by rw [Nat.min_eq_left hle]) e1 y1
    · have hw := e_wy R1 (show p ≤ ga K by omega)
      have hwl := wy_le K T p
      by_cases wz : wy K T p = 0
      · have ha : ablo K T (gv K 7) p = true := by rw [ablo_abl H]; unfold abl; rw [wz]; rfl
        have el : (aL K T (gv K 7) (p + 1)).length = (aL K T (gv K 7) p).length + 1 := by rw [aL_s, ha]; simp
        have hat := aL_at (N := ga K + 1) (show p < ga K + 1 by omega) ha
        simp (disch := omega) only [pw_lt, pw_cb, pw_cbx, pw_cbxr, pw_lit, pw_litL, pw_oi, pw_oim, pw_oi8, pw_m, pw_ldI, pw_ldL, pw_ldR, pw_stI, pw_stL, pw_nz, pw_ltI, pw_leI, pw_eqI, pw_eqm, pw_eqm2, pw_ltm, pw_mlt, pw_lem, pw_mle, pw_mm, pw_dec, pw_nar0, pw_nar1, nI_add, pw_sub, pw_mul, pw_and, pw_or, pw_andn, pw_shl1, pw_shl, pw_shr, pw_dv, nI_l, lN_i, Bool.false_eq_true, reduceCtorEq, if_false, if_true, ↓reduceIte, if_pos, if_neg, r_152_37, v5, hw, wz, e_cut ht (show (aL K T (gv K 7) p).length < 30 by omega) hs v4]
        refine hrec (n - 1) _ _ (by omega) ⟨p + 1, by omega, by rw [el], by omega, eqx_trans e1 (eqx_pL (by decide)), fun x => ?_⟩
        rw [el]
        by_cases ex : x = 30 * t + (aL K T (gv K 7) p).length
        · subst ex
          rw [pw_pLs, if_pos (by omega), show 30 * t + (aL K T (gv K 7) p).length - 30 * t = (aL K T (gv K 7) p).length by omega, hat]
        · rw [pw_pLo (by omega), y1 x]
          by_cases cx : 30 * t ≤ x ∧ x < 30 * t + (aL K T (gv K 7) p).length
          · rw [if_pos cx, if_pos (by omega)]
          · rw [if_neg cx, if_neg (by omega)]
      · have ha : ablo K T (gv K 7) p = false := by rw [ablo_abl H]; unfold abl; exact decide_eq_false wz
        have el : aL K T (gv K 7) (p + 1) = aL K T (gv K 7) p := by rw [aL_s, ha]; simp
        simp (disch := omega) only [pw_lt, pw_cb, pw_cbx, pw_cbxr, pw_lit, pw_litL, pw_oi, pw_oim, pw_oi8, pw_m, pw_ldI, pw_ldL, pw_ldR, pw_stI, pw_stL, pw_nz, pw_ltI, pw_leI, pw_eqI, pw_eqm, pw_eqm2, pw_ltm, pw_mlt, pw_lem, pw_mle, pw_mm, pw_dec, pw_nar0, pw_nar1, nI_add, pw_sub, pw_mul, pw_and, pw_or, pw_andn, pw_shl1, pw_shl, pw_shr, pw_dv, nI_l, lN_i, Bool.false_eq_true, reduceCtorEq, if_false, if_true, ↓reduceIte, if_pos, if_neg, r_152_37, v5, hw, wz]
        exact hrec (n - 1) _ _ (by omega) ⟨p + 1, by omega, by rw [el], by rw [el]; exact hk, e1, by rw [el]; exact y1⟩
set_option maxRecDepth 16384 in
theorem c_pour_lp {h : PH} {t s n : Nat} (L : List Nat) (ht : t < 4) (hs : s < 4) (hn : n ≤ 30) (hL : ∀ i, i < n → h.1 34 i = nI (L.getD i 0) ∧ L.getD i 0 ≤ 4096) (h4 : h.1 (85 + 2 * t) 0 = nI s) : ok (lp (b_X11_pour_30 0 (85 + 2 * t) (nI n)) FU (nI 0) h) (fun x h' => x = .inl (nI n) ∧ h'.1 = h.1 ∧ eqx [86 + 2 * t] h h' ∧ ∀ x, h'.2 (86 + 2 * t) x = if x < n then cutV s (lN (L.getD x 0)) else h.2 (86 + 2 * t) x) := by
  refine lp_ok (fun m st h1 => m ≤ n ∧ st = nI (n - m) ∧ h1.1 = h.1 ∧ eqx [86 + 2 * t] h h1 ∧ ∀ x, h1.2 (86 + 2 * t) x = if x < n - m then cutV s (lN (L.getD x 0)) else h.2 (86 + 2 * t) x) ?_ FU n _ h ⟨Nat.le_refl _, by rw [Nat.sub_self], rfl, eqx_rfl _ _, fun x => by rw [if_neg (by omega)]⟩ (fu_lt (by omega))
  rintro m rec st h1 ⟨hm, rfl, i1, e1, y1⟩ hrec
  unfold b_X11_pour_30
  by_cases h0 : m = 0
  · subst h0
    simp (disch := omega) only [pw_lt, pw_cb, pw_cbx, pw_cbxr, pw_lit, pw_litL, pw_oi, pw_oim, pw_oi8, pw_m, pw_ldI, pw_ldL, pw_ldR, pw_stI, pw_stL, pw_nz, pw_ltI, pw_leI, pw_eqI, pw_eqm, pw_eqm2, pw_ltm, pw_mlt, pw_lem, pw_mle, pw_mm, pw_dec, pw_nar0, pw_nar1, nI_add, pw_sub, pw_mul, pw_and, pw_or, pw_andn, pw_shl1, pw_shl, pw_shr, pw_dv, nI_l, lN_i, Bool.false_eq_true, reduceCtorEq, if_false, if_true, ↓reduceIte, if_pos, if_neg, Nat.sub_zero, Nat.le_refl]
    exact ok_some ⟨rfl, i1, e1, y1⟩
  · generalize hk : n - m = k at *
    have e9 : n - (m - 1) = k + 1 := by omega
    obtain ⟨l1, l2⟩ := hL k (by omega)
    have v34 : h1.1 34 k = nI (L.getD k 0) := by rw [i1]; exact l1
    have v4 : h1.1 (85 + 2 * t) 0 = nI s := by rw [i1]; exact h4
    simp (disch := omega) only [pw_lt, pw_cb, pw_cbx, pw_cbxr, pw_lit, pw_litL, pw_oi, pw_oim, pw_oi8, pw_m, pw_ldI, pw_ldL, pw_ldR, pw_stI, pw_stL, pw_nz, pw_ltI, pw_leI, pw_eqI, pw_eqm, pw_eqm2, pw_ltm, pw_mlt, pw_lem, pw_mle, pw_mm, pw_dec, pw_nar0, pw_nar1, nI_add, pw_sub, pw_mul, pw_and, pw_or, pw_andn, pw_shl1, pw_shl, pw_shr, pw_dv, nI_l, lN_i, Bool.false_eq_true, reduceCtorEq, if_false, if_true, ↓reduceIte, if_pos, if_neg, r_0_7, r_33_3, v34, c_put ht (show k < 30 by omega) hs v4]
    refine hrec (m - 1) _ _ (by omega) ⟨by omega, by rw [e9], i1, eqx_trans e1 (eqx_pL (by simp)), fun x => ?_⟩
    rw [e9]
    by_cases ex : x = k
    · subst ex
      rw [pw_pLs, if_pos (by omega)]
    · rw [pw_pLo (by omega), y1 x]
      by_cases cx : x < k
      · rw [if_pos cx, if_pos (by omega)]
      · rw [if_neg cx, if_neg (by omega)]
/- a row of numbers written by both -/
set_option maxRecDepth 16384 in
theorem tr_row {h h5 : PH} {t n : Nat} {V : Nat → Int64} (I : INV h) (ht : t < 4) (hn : n ≤ 30) (e : eqx (trL ++ [152, 176, 177]) h h5) (c1 : ∀ c, c ≤ 92 → 85 ≤ c → h5.1 c = h.1 c) (c2 : ∀ c, c ≤ 92 → 85 ≤ c → ∀ x, h5.2 c x = if c = 86 + 2 * t ∧ x < n then V x else h.2 c x) (c3 : ∀ x, h5.2 176 x = if 30 * t ≤ x ∧ x < 30 * t + n then V (x - 30 * t) else h.2 176 x) : ∀ t2, t2 < 4 → TR1 t2 h5 := by
  intro t2 ht2
  have k174 : h5.1 174 = h.1 174 := (e 174 (by decide)).1
  have k175 : h5.1 175 = h.1 175 := (e 175 (by decide)).1
  unfold TR1
  rw [c1 (85 + 2 * t2) (by omega) (by omega), k174, k175]
  rcases I.2.2.2.2.2.2.2.2.2.1 t2 ht2 with o | ⟨s', m', o1, o2, o3, o4, o5, o6, o7⟩
  · exact Or.inl o
  · refine Or.inr ⟨s', m', o1, o2, o3, o4, o5, o6, fun x hx => ?_⟩
    rw [c2 (86 + 2 * t2) (by omega) (by omega), c3]
    by_cases q : 86 + 2 * t2 = 86 + 2 * t ∧ x < n
    · rw [if_pos q, if_pos (by omega), show 30 * t2 + x - 30 * t = x by omega]
    · rw [if_neg q, if_neg (by omega)]
      exact o7 x hx
set_option maxRecDepth 16384 in
theorem call_pour {h : PH} {a : Int32} (I : INV h) : PC hs_L_pour (f_X11_pour 0 a) (f_X12_pour 152 a) h := by
  rcases tray_cases a I with ⟨c, r⟩ | ⟨c, r⟩ | ⟨t, s, m, ht, rfl, d, c, r⟩
  · refine PC_q2 (.inr 1) ?_ (fun h2 R2 I2 e2 => ?_)
    · unfold f_X11_pour
      simp only [c, pw_cbxr]
      exact ok_some ⟨rfl, CQ_rfl I⟩
    · unfold f_X12_pour
      simp only [r h2 (e2 174 (by decide)).1, pw_cb, pw_lit]
      refine ok_lt ?_
      simp only [th_pI]
      rw [if_neg (by decide)]
      exact ok_some ⟨⟨(1, 1), rfl, by decide, th_pI⟩, RQ_th⟩
  · refine PC_q2 (.inr 2) ?_ (fun h2 R2 I2 e2 => ?_)
    · unfold f_X11_pour
      simp only [c, pw_cbxr]
      exact ok_some ⟨rfl, CQ_rfl I⟩
    · unfold f_X12_pour
      simp only [r h2 (e2 174 (by decide)).1, pw_cb, pw_lit]
      refine ok_lt ?_
      simp only [th_pI]
      rw [if_neg (by decide)]
      exact ok_some ⟨⟨(2, 2), rfl, by decide, th_pI⟩, RQ_th⟩
  · obtain ⟨d1, d2, d3, d4, d5, d6, d7⟩ := id d
    have H := I.1.1
    obtain ⟨b0, b1, b2, b3, b4, b5, b6, b7, b8, b9, b10⟩ := rk_b H
    have hlen := aL_len (h.1 153) (h.1 159) (gv (h.1 153) 7) (ga (h.1 153) + 1)
    have hel := fun i => aL_el (K := h.1 153) (T := h.1 159) (o := gv (h.1 153) 7) (N := ga (h.1 153) + 1) (i := i)
    refine ok_mono (P := fun (x : Int32 ⊕ Nat) h' => x = .inl (nI (min m (aL (h.1 153) (h.1 159) (gv (h.1 153) 7) (ga (h.1 153) + 1)).length)) ∧ ∃ h1, CQ h h1 ∧ h'.1 = h1.1 ∧ eqx [86 + 2 * t] h1 h' ∧ ∀ x, h'.2 (86 + 2 * t) x = if x < min m (aL (h.1 153) (h.1 159) (gv (h.1 153) 7) (ga (h.1 153) + 1)).length then cutV s (lN ((aL (h.1 153) (h.1 159) (gv (h.1 153) 7) (ga (h.1 153) + 1)).getD x 0)) else h1.2 (86 + 2 * t) x) ?_ ?_
    · unfold f_X11_pour
      simp only [c, pw_cbx, gk_tr ht, r_0_7]
      refine ok_cb (c_set I) ?_
      rintro r0 h1 ⟨cq, R⟩
      have m1 : h1.1 (85 + 2 * t) 1 = nI m := by rw [(cq.1 _ ((by decide : ∀ t, t < 4 → 85 + 2 * t ∉ clL) t ht)).1]; exact d5
      have s1 : h1.1 (85 + 2 * t) 0 = nI s := by rw [(cq.1 _ ((by decide : ∀ t, t < 4 → 85 + 2 * t ∉ clL) t ht)).1]; exact d3
      obtain ⟨t1, t2, t3⟩ := R.2.1
      simp only [m1, t1]
      refine ok_lt (ok_lt ?_)
      generalize aL (h.1 153) (h.1 159) (gv (h.1 153) 7) (ga (h.1 153) + 1) = L at *
      have em : (if nI L.length < nI m then nI L.length else nI m) = nI (min m L.length) := by
        by_cases cm : L.length < m
        · rw [if_pos ((nI_ltI (by omega) (by omega)).mpr cm), Nat.min_eq_right (by omega)]
        · rw [if_neg (fun z => cm ((nI_ltI (by omega) (by omega)).mp z)), Nat.min_eq_left (by omega)]
      rw [em]
      have hmn : min m L.length ≤ L.length := Nat.min_le_right _ _
      have hmm : min m L.length ≤ m := Nat.min_le_left _ _
      refine ok_mono (c_pour_lp L ht (show s < 4 by omega) (show min m L.length ≤ 30 by omega) (fun i hi => ⟨t2 i (by omega), by have := hel i (by omega); omega⟩) s1) ?_
      rintro x h2 ⟨rfl, i2, e2, y2⟩
      exact ⟨rfl, h1, cq, i2, e2, y2⟩
    · rintro x h1 ⟨rfl, h0, cq, i1, e1, y1⟩ h2 e2
      have tm := trL_m t ht
      have I0 := cq.2
      have k153 : h0.1 153 = h.1 153 := cq.k
      have k159 : h0.1 159 = h.1 159 := cq.t
      have R2 : RX (h.1 153) (h.1 159) h2 := by
        have := (I0.rx.to e1 (by simp; omega) (by simp; omega) (by simp; omega)).to e2 (by decide) (by decide) (by decide)
        rw [k153, k159] at this
        exact this
      have k174 : h2.1 174 = h.1 174 := by rw [(e2 174 (by decide)).1, (e1 174 (by simp; omega)).1, (cq.1 174 (by decide)).1]
      have k175 : h2.1 175 = h.1 175 := by rw [(e2 175 (by decide)).1, (e1 175 (by simp; omega)).1, (cq.1 175 (by decide)).1]
      unfold f_X12_pour
      simp only [r h2 k174, pw_cb, pw_lit]
      refine ok_lt ?_
      simp only [th_pI, Int32.le_refl, if_true]
      refine ok_lt (ok_lt (ok_lt ?_))
      refine e_pour_lp (RX_pI R2) ht (show s < 4 by omega) d2 (by rw [pw_pIo (by omega), k174]; exact d4) (by rw [pw_pIo (by omega), k175]; exact d6) (fun h3 k hk e3 y3 => ?_)
      generalize aL (h.1 153) (h.1 159) (gv (h.1 153) 7) (ga (h.1 153) + 1) = L at *
      subst hk
      have hmm : min m L.length ≤ m := Nat.min_le_left _ _
      have e05 : eqx (trL ++ [152, 176, 177]) h0 h3 := eqx_trans (eqx_mono e1 (fun x hx => by simp only [List.mem_cons, List.not_mem_nil, or_false] at hx; rw [hx]; exact List.mem_append_left _ tm.2)) (eqx_trans (eqx_mono e2 (by decide)) (eqx_trans (eqx_pI (by decide)) (eqx_mono e3 (by decide))))
      refine ok_some ⟨by rw [(e3 177 (by decide)).2, pw_pI2], ⟨by rw [lays_th e3 (by decide), th_pI], rfl⟩, I0.t (eqx_mono e05 (by decide)) ?_ (by rw [(e05 31 (by decide)).1]; exact I0.2.2.2.2.2.1) (CHc_to e05 (by decide) (by decide) (by decide) I0.2.2.2.2.2.2.1) (tr_row (n := min m L.length) (V := fun x => cutV s (lN (L.getD x 0))) I0 ht (by omega) e05 (fun c q1 q2 => ?_) (fun c q1 q2 x => ?_) (fun x => ?_))⟩
      · refine f152_trans (f152_eq e1 (by simp; omega)) (f152_trans (f152_eq e2 (by decide)) (f152_trans ?_ (f152_eq e3 (by decide))))
        exact f152_pI (j := 5) (v := nI 0) (by decide) (by decide) (by decide)
      · rw [(e3 c (by simp; omega)).1]
        funext z
        rw [pw_pIo (by omega), (e2 c (by simp; omega)).1, i1]
      · rw [(e3 c (by simp; omega)).2, pw_pI2, (e2 c (by simp; omega)).2]
        by_cases q : c = 86 + 2 * t
        · subst q
          rw [y1]
          by_cases q2 : x < min m L.length
          · rw [if_pos q2, if_pos ⟨rfl, q2⟩]
          · rw [if_neg q2, if_neg (fun z => q2 z.2)]
        · rw [if_neg (fun z => q z.1), (e1 c (by simp; omega)).2]
      · rw [y3, pw_pI2, (e2 176 (by decide)).2, (e1 176 (by simp; omega)).2]

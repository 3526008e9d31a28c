/-! ===== trays looked up ===== -/
set_option maxRecDepth 16384 in
theorem r_84 {k : Nat} (h : k < 4) : rt 84 k = 85 + 2 * k := (by decide : ∀ k, k < 4 → rt 84 k = 85 + 2 * k) k h
set_option maxRecDepth 16384 in
theorem r_tr {k : Nat} (h : k < 4) : rt (85 + 2 * k) 2 = 86 + 2 * k := (by decide : ∀ k, k < 4 → rt (85 + 2 * k) 2 = 86 + 2 * k) k h
set_option maxRecDepth 16384 in
theorem gk_tr {γ : Type} {k : Nat} {o : Option γ} (h : k < 4) : gk (85 + 2 * k) 10 o = o := by
  unfold gk
  rw [if_pos ((by decide : ∀ k, k < 4 → (kd (85 + 2 * k)).1 = 10) k h)]
/- a tray that is there: sort, many, row -/
def trayIs (t s m : Nat) (h : PH) : Prop := s ≤ 3 ∧ m ≤ 30 ∧ h.1 (85 + 2 * t) 0 = nI s ∧ h.1 174 t = nI s ∧ h.1 (85 + 2 * t) 1 = nI m ∧ h.1 175 t = nI m ∧ ∀ k, k < 30 → h.2 (86 + 2 * t) k = h.2 176 (30 * t + k)
set_option maxRecDepth 16384 in
theorem e_isTrayQ {a : Int32} {h : PH} (q : inN 4 a) : f_X12_isTray a h = some (bI true, h) := by
  unfold f_X12_isTray
  simp only [pw_litL]
  rw [e_withinI (n := 3) (by decide) q]
  simp only [pw_cb, zr_b]
set_option maxRecDepth 16384 in
theorem e_isTrayQ1 {a : Int32} {h : PH} (q : ¬ inN 4 a) : f_X12_isTray a h = some (bI false, h) := by
  unfold f_X12_isTray
  simp only [pw_litL]
  rw [e_withinI1 (n := 3) (by decide) q]
  simp only [pw_cb, zr_b]
/- the three cases of a tray asked for -/
set_option maxRecDepth 16384 in
theorem tray_cases {h : PH} (a : Int32) (I : INV h) :
    (f_X11_trayThere 0 a h = some (.inr 1, h) ∧ ∀ h2 : PH, h2.1 174 = h.1 174 → f_X12_trayFault 152 a h2 = some (nI 1, h2)) ∨
    (f_X11_trayThere 0 a h = some (.inr 2, h) ∧ ∀ h2 : PH, h2.1 174 = h.1 174 → f_X12_trayFault 152 a h2 = some (nI 2, h2)) ∨
    (∃ t s m, t < 4 ∧ a = nI t ∧ trayIs t s m h ∧ f_X11_trayThere 0 a h = some (.inl (85 + 2 * t), h) ∧ ∀ h2 : PH, h2.1 174 = h.1 174 → f_X12_trayFault 152 a h2 = some (nI 0, h2)) := by
  by_cases q : inN 4 a
  · have het := fun h2 : PH => e_isTrayQ (h := h2) q
    obtain ⟨t, ht, rfl⟩ := q
    rcases I.2.2.2.2.2.2.2.2.2.1 t ht with ⟨d1, d2⟩ | ⟨s, m, d1, d2, d3, d4, d5, d6, d7⟩
    · refine Or.inr (Or.inl ⟨?_, fun h2 e => ?_⟩)
      · unfold f_X11_trayThere
        simp (disch := omega) only [pw_lt, pw_cb, pw_cbx, pw_cbxr, pw_lit, pw_litL, pw_oi, pw_oim, pw_oi8, pw_m, pw_ldI, pw_ldL, pw_ldR, pw_stI, pw_stL, pw_nz, pw_ltI, pw_leI, pw_eqI, pw_eqm, pw_eqm2, pw_ltm, pw_mlt, pw_lem, pw_mle, pw_mm, pw_dec, pw_nar0, pw_nar1, nI_add, pw_sub, pw_mul, pw_and, pw_or, pw_andn, pw_shl1, pw_shl, pw_shr, pw_dv, nI_l, lN_i, Bool.false_eq_true, reduceCtorEq, if_false, if_true, ↓reduceIte, if_pos, if_neg, r_0_12, r_84, d1]
      · unfold f_X12_trayFault
        rw [het]
        have d2 : h2.1 174 t = mI := by rw [e]; exact d2
        simp (disch := omega) only [pw_lt, pw_cb, pw_cbx, pw_cbxr, pw_lit, pw_litL, pw_oi, pw_oim, pw_oi8, pw_m, pw_ldI, pw_ldL, pw_ldR, pw_stI, pw_stL, pw_nz, pw_ltI, pw_leI, pw_eqI, pw_eqm, pw_eqm2, pw_ltm, pw_mlt, pw_lem, pw_mle, pw_mm, pw_dec, pw_nar0, pw_nar1, nI_add, pw_sub, pw_mul, pw_and, pw_or, pw_andn, pw_shl1, pw_shl, pw_shr, pw_dv, nI_l, lN_i, Bool.false_eq_true, reduceCtorEq, if_false, if_true, ↓reduceIte, if_pos, if_neg, bI_0', r_152_36, d2]
    · refine Or.inr (Or.inr ⟨t, s, m, ht, rfl, ⟨d1, d2, d3, d4, d5, d6, d7⟩, ?_, fun h2 e => ?_⟩)
      · unfold f_X11_trayThere
        simp (disch := omega) only [pw_lt, pw_cb, pw_cbx, pw_cbxr, pw_lit, pw_litL, pw_oi, pw_oim, pw_oi8, pw_m, pw_ldI, pw_ldL, pw_ldR, pw_stI, pw_stL, pw_nz, pw_ltI, pw_leI, pw_eqI, pw_eqm, pw_eqm2, pw_ltm, pw_mlt, pw_lem, pw_mle, pw_mm, pw_dec, pw_nar0, pw_nar1, nI_add, pw_sub, pw_mul, pw_and, pw_or, pw_andn, pw_shl1, pw_shl, pw_shr, pw_dv, nI_l, lN_i, Bool.false_eq_true, reduceCtorEq, if_false, if_true, ↓reduceIte, if_pos, if_neg, r_0_12, r_84, d5]
      · unfold f_X12_trayFault
        rw [het]
        have d4 : h2.1 174 t = nI s := by rw [e]; exact d4
        simp (disch := omega) only [pw_lt, pw_cb, pw_cbx, pw_cbxr, pw_lit, pw_litL, pw_oi, pw_oim, pw_oi8, pw_m, pw_ldI, pw_ldL, pw_ldR, pw_stI, pw_stL, pw_nz, pw_ltI, pw_leI, pw_eqI, pw_eqm, pw_eqm2, pw_ltm, pw_mlt, pw_lem, pw_mle, pw_mm, pw_dec, pw_nar0, pw_nar1, nI_add, pw_sub, pw_mul, pw_and, pw_or, pw_andn, pw_shl1, pw_shl, pw_shr, pw_dv, nI_l, lN_i, Bool.false_eq_true, reduceCtorEq, if_false, if_true, ↓reduceIte, if_pos, if_neg, bI_0', r_152_36, d4]
  · refine Or.inl ⟨?_, fun h2 e => ?_⟩
    · unfold f_X11_trayThere
      simp only [pw_lt, pw_lit]
      exact c_rng (by decide) q
    · unfold f_X12_trayFault
      rw [e_isTrayQ1 q]
      simp (disch := omega) only [pw_lt, pw_cb, pw_cbx, pw_cbxr, pw_lit, pw_litL, pw_oi, pw_oim, pw_oi8, pw_m, pw_ldI, pw_ldL, pw_ldR, pw_stI, pw_stL, pw_nz, pw_ltI, pw_leI, pw_eqI, pw_eqm, pw_eqm2, pw_ltm, pw_mlt, pw_lem, pw_mle, pw_mm, pw_dec, pw_nar0, pw_nar1, nI_add, pw_sub, pw_mul, pw_and, pw_or, pw_andn, pw_shl1, pw_shl, pw_shr, pw_dv, nI_l, lN_i, Bool.false_eq_true, reduceCtorEq, if_false, if_true, ↓reduceIte, if_pos, if_neg, bI_0']
/- as PC_q, with all that stayed -/
set_option maxRecDepth 16384 in
theorem PC_q2 {β : Type} {hs : List (Nat × Int32)} {F : PH → Option ((β ⊕ Nat) × PH)} {G : PH → Option (β × PH)} {h : PH} (x : β ⊕ Nat) (c : ok (F h) (fun y h1 => y = x ∧ CQ h h1)) (r : ∀ h2, RX (h.1 153) (h.1 159) h2 → INV h2 → eqx (177 :: clL) h h2 → ok (G h2) (fun b h3 => agr hs x (h3.1 152 5) b ∧ RQ h2 h3)) : PC hs F G h := by
  refine ok_mono c ?_
  rintro y h1 ⟨rfl, cq⟩ h2 e2
  have I2 := cq.2.o e2
  have k2 : h2.1 153 = h.1 153 := by rw [(e2 153 (by decide)).1, cq.k]
  have t2 : h2.1 159 = h.1 159 := by rw [(e2 159 (by decide)).1, cq.t]
  have R2 := I2.rx
  rw [k2, t2] at R2
  refine ok_mono (r h2 R2 I2 (eqx_trans (eqx_mono cq.1 (by decide)) (eqx_mono e2 (by decide)))) ?_
  rintro b h3 ⟨a, rq⟩
  exact ⟨rq.out, a, I2.r rq.1 rq.2⟩

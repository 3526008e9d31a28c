/-! ===== calls: served, share, gains, bestRule; holds, wish, owes, count, fault ===== -/
set_option maxRecDepth 16384 in
theorem INV.rb {K T : Nat → Int32} {h : PH} (I : INV h) (k : h.1 153 = K) (R : RC K T h) : RB K T h := by
  refine ⟨R, fun i hi => ?_⟩
  have := I.2.2.2.2.1.2.1 i (by have := R.1.1.2.2.2.2.2.2.2.1; omega)
  rw [k] at this
  exact this
set_option maxRecDepth 16384 in
theorem ok_joinT2 {τ υ α : Type} {Q : α → PH → Prop} {j : τ → υ → PH → Option (α × PH)} {g : (τ → υ → PH → Option (α × PH)) → Option (α × PH)} (P : τ → υ → PH → Prop) (hj : ∀ x y h, P x y h → ok (j x y h) Q) (hg : ∀ j', (∀ x y h, P x y h → ok (j' x y h) Q) → ok (g j') Q) : ok (lt j g) Q := hg j hj
set_option maxRecDepth 16384 in
theorem c_setb {h : PH} (I : INV h) : ok (f_X2_settled 33 h) (fun _ h' => CQ h h' ∧ RB (h.1 153) (h.1 159) h') := by
  refine ok_mono (c_set I) ?_
  rintro r h1 ⟨cq, R⟩
  exact ⟨cq, cq.2.rb cq.k R⟩
set_option maxRecDepth 16384 in
theorem CQ_ru {h h' : PH} (I : INV h) (e : eqx [37, 38, 39] h h') : CQ h h' := CQ_sc I e (by decide) (by decide) (by decide) (by decide) (by decide)
/- the reference ready to serve -/
set_option maxRecDepth 16384 in
theorem e_ready {K T : Nat → Int32} {h : PH} (R : RX K T h) : ok (cb (f_X12_laysPlans 152 h) (fun (r9 : Unit) (h10 : PH) => cb (f_X12_asksAsItIs 152 h10) (fun (r11 : Unit) (h12 : PH) => some ((), h12)))) (fun _ h' => eqx [162, 163, 166, 167] h h' ∧ RG K T h' ∧ AR K (A0f K) (W0f K) h' ∧ h'.1 153 7 = nI (gv K 7)) := by
  refine ok_cb (e_lays R) ?_
  rintro r h1 ⟨e1, G⟩
  refine ok_cb e_asks ?_
  rintro r2 h2 ⟨e2, y1, y2⟩
  rw [G.1.2.1] at y1 y2
  have G2 := G.to e2 (by decide) (by decide) (by decide) (by decide) (by decide)
  exact ok_some ⟨eqx_trans (eqx_mono e1 (by decide)) (eqx_mono e2 (by decide)), G2, AR0 R.1 y1 y2, by rw [G2.1.2.1]; exact (rk_e R.1).2.2.2.2.2.2.2⟩
set_option maxRecDepth 16384 in
theorem ok_cb2 {β γ α : Type} {f : Option (β × PH)} {g : β → PH → Option (γ × PH)} {k : γ → PH → Option (α × PH)} {P : γ → PH → Prop} {Q : α → PH → Prop} (h1 : ok (cb f g) P) (h2 : ∀ r h, P r h → ok (k r h) Q) : ok (cb f (fun r h => cb (g r h) k)) Q := by
  obtain ⟨r, h, e, p⟩ := h1
  have : cb f (fun r h => cb (g r h) k) = cb (cb f g) k := by
    cases f with
    | none => rfl
    | some q => rfl
  rw [this, e]
  exact h2 r h p
set_option maxRecDepth 16384 in
theorem r_ready {K T : Nat → Int32} {h : PH} {α : Type} {Q : α → PH → Prop} {k : PH → Option (α × PH)} (R : RX K T h) (hk : ∀ h', eqx [162, 163, 166, 167] h h' → RG K T h' → AR K (A0f K) (W0f K) h' → h'.1 153 7 = nI (gv K 7) → ok (k h') Q) : ok (cb (f_X12_laysPlans 152 h) (fun (r9 : Unit) (h10 : PH) => cb (f_X12_asksAsItIs 152 h10) (fun (r11 : Unit) (h12 : PH) => k h12))) Q := by
  refine ok_cb (e_lays R) ?_
  rintro r h1 ⟨e1, G⟩
  refine ok_cb e_asks ?_
  rintro r2 h2 ⟨e2, y1, y2⟩
  rw [G.1.2.1] at y1 y2
  have G2 := G.to e2 (by decide) (by decide) (by decide) (by decide) (by decide)
  exact hk h2 (eqx_trans (eqx_mono e1 (by decide)) (eqx_mono e2 (by decide))) G2 (AR0 R.1 y1 y2) (by rw [G2.1.2.1]; exact (rk_e R.1).2.2.2.2.2.2.2)
set_option maxRecDepth 16384 in
theorem e_isRuleQ {a : Int32} {h : PH} (q : inN 4 a) : f_X12_isRule a h = some (bI true, h) := by
  unfold f_X12_isRule
  simp only [pw_litL]
  rw [e_withinI (n := 3) (by decide) q]
  simp only [pw_cb, zr_b]
set_option maxRecDepth 16384 in
theorem e_isRuleQ1 {a : Int32} {h : PH} (q : ¬ inN 4 a) : f_X12_isRule a h = some (bI false, h) := by
  unfold f_X12_isRule
  simp only [pw_litL]
  rw [e_withinI1 (n := 3) (by decide) q]
  simp only [pw_cb, zr_b]
set_option maxRecDepth 16384 in
theorem e_isBodyQ {a : Int32} {h : PH} (q : inN 6 a) : f_X12_isBody a h = some (bI true, h) := by
  unfold f_X12_isBody
  simp only [pw_litL]
  rw [e_withinI (n := 5) (by decide) q]
  simp only [pw_cb, zr_b]
set_option maxRecDepth 16384 in
theorem e_isBodyQ1 {a : Int32} {h : PH} (q : ¬ inN 6 a) : f_X12_isBody a h = some (bI false, h) := by
  unfold f_X12_isBody
  simp only [pw_litL]
  rw [e_withinI1 (n := 5) (by decide) q]
  simp only [pw_cb, zr_b]
set_option maxRecDepth 16384 in
theorem svS0 {K T : Nat → Int32} {r : Nat} : sv K T (kk K T (A0f K) (W0f K) (gv K 7) r 99) 10 (gv K 7) 0 = svS K T (A0f K) (W0f K) (gv K 7) r := rfl
set_option maxRecDepth 16384 in
theorem call_served {h : PH} {a : Int32} (I : INV h) : PC hs_L_served (f_X11_served 0 a) (f_X12_served 152 a) h := by
  by_cases q : inN 4 a
  · have hcr := c_checkRule (h := h) q
    have her : ∀ h3 : PH, f_X12_isRule a h3 = some (bI true, h3) := fun h3 => e_isRuleQ q
    obtain ⟨m, hm, rfl⟩ := q
    refine PC_q (.inl (nI (svS (h.1 153) (h.1 159) (A0f (h.1 153)) (W0f (h.1 153)) (gv (h.1 153) 7) m))) ?_ (fun h2 R2 I2 k2 => ?_)
    · unfold f_X11_served
      simp only [hcr, pw_cbx, r_0_7, r_0_8]
      refine ok_cb (c_setb I) ?_
      rintro r h1 ⟨cq, R⟩
      refine ok_cb (c_servedAsAsked R hm) ?_
      rintro r2 h3 ⟨rfl, e3, -⟩
      exact ok_some ⟨rfl, CQ_trans cq (CQ_ru cq.2 e3)⟩
    · unfold f_X12_served
      simp only [pw_lt, pw_lit, her, pw_cb, bI_0', Bool.true_eq_false, if_false]
      refine r_ready (RX_pI R2) (fun h3 e3 G A k7 => ?_)
      simp (disch := omega) only [r_152_0, pw_ldI, k7]
      refine ok_cb (e_serves G A (open_lt I.1.1) hm) ?_
      rintro r h4 ⟨rfl, e4⟩
      exact ok_some ⟨⟨by rw [lays_th e4 (by decide), lays_th e3 (by decide), th_pI], rfl⟩, RQ_trans RQ_th (RQ_eq (eqx_trans (eqx_mono (S' := [162, 163, 165, 166, 167]) e3 (by decide)) (eqx_mono e4 (by decide))) (by decide) (by decide))⟩
  · refine PC_q (.inr 0) ?_ (fun h2 R2 I2 k2 => ?_)
    · unfold f_X11_served
      simp only [c_checkRule1 (h := h) q, pw_cbxr]
      exact ok_some ⟨rfl, CQ_rfl I⟩
    · have her : ∀ h3 : PH, f_X12_isRule a h3 = some (bI false, h3) := fun h3 => e_isRuleQ1 q
      unfold f_X12_served
      simp only [pw_lt, pw_lit, her, pw_cb, bI_0', if_true, e_fails]
      exact ok_some ⟨⟨(0, 1), rfl, by decide, th_pI⟩, r_fails⟩
set_option maxRecDepth 16384 in
theorem call_share {h : PH} {b a : Int32} (I : INV h) : PC hs_L_share (f_X11_share 0 b a) (f_X12_share 152 b a) h := by
  by_cases qb : inN 6 b
  · have hcb := c_checkPerson (h := h) qb
    have heb : ∀ h3 : PH, f_X12_isBody b h3 = some (bI true, h3) := fun h3 => e_isBodyQ qb
    by_cases q : inN 4 a
    · have hcr := c_checkRule (h := h) q
      have her : ∀ h3 : PH, f_X12_isRule a h3 = some (bI true, h3) := fun h3 => e_isRuleQ q
      obtain ⟨m, hm, rfl⟩ := q
      obtain ⟨p, hp, rfl⟩ := qb
      have hsl := svS_lt (T := h.1 159) (A := A0f (h.1 153)) (W := W0f (h.1 153)) (rule := m) I.1.1 (open_lt I.1.1)
      refine PC_q (.inl (nI (shw (h.1 153) p (svS (h.1 153) (h.1 159) (A0f (h.1 153)) (W0f (h.1 153)) (gv (h.1 153) 7) m)))) ?_ (fun h2 R2 I2 k2 => ?_)
      · unfold f_X11_share
        simp only [hcb, hcr, pw_cbx, r_0_7, r_0_8]
        refine ok_cb (c_setb I) ?_
        rintro r h1 ⟨cq, R⟩
        refine ok_cb (c_servedAsAsked R hm) ?_
        rintro r2 h3 ⟨rfl, e3, -⟩
        rw [c_weightFor (R.to e3).1 hsl hp]
        exact ok_some ⟨rfl, CQ_trans cq (CQ_ru cq.2 e3)⟩
      · unfold f_X12_share
        simp only [pw_lt, pw_lit, her, heb, pw_cb, bI_0', Bool.true_eq_false, if_false]
        refine r_ready (RX_pI R2) (fun h3 e3 G A k7 => ?_)
        simp (disch := omega) only [r_152_0, pw_ldI, k7]
        refine ok_cb (e_serves G A (open_lt I.1.1) hm) ?_
        rintro r h4 ⟨rfl, e4⟩
        rw [svS0, e_shareOf I.1.1 (by rw [(e4 153 (by decide)).1]; exact G.1.2.1) hsl hp]
        exact ok_some ⟨⟨by rw [lays_th e4 (by decide), lays_th e3 (by decide), th_pI], rfl⟩, RQ_trans RQ_th (RQ_eq (eqx_trans (eqx_mono (S' := [162, 163, 165, 166, 167]) e3 (by decide)) (eqx_mono e4 (by decide))) (by decide) (by decide))⟩
    · refine PC_q (.inr 0) ?_ (fun h2 R2 I2 k2 => ?_)
      · unfold f_X11_share
        simp only [hcb, pw_cbx, c_checkRule1 (h := h) q, pw_cbxr]
        exact ok_some ⟨rfl, CQ_rfl I⟩
      · have her : ∀ h3 : PH, f_X12_isRule a h3 = some (bI false, h3) := fun h3 => e_isRuleQ1 q
        unfold f_X12_share
        simp only [pw_lt, pw_lit, her, heb, pw_cb, bI_0', Bool.true_eq_false, if_false, if_true, e_fails]
        exact ok_some ⟨⟨(0, 1), rfl, by decide, th_pI⟩, r_fails⟩
  · refine PC_q (.inr 0) ?_ (fun h2 R2 I2 k2 => ?_)
    · unfold f_X11_share
      simp only [c_checkPerson1 (h := h) qb, pw_cbxr]
      exact ok_some ⟨rfl, CQ_rfl I⟩
    · have heb : ∀ h3 : PH, f_X12_isBody b h3 = some (bI false, h3) := fun h3 => e_isBodyQ1 qb
      unfold f_X12_share
      simp only [pw_lt, pw_lit, heb, pw_cb, bI_0', if_true, e_fails]
      exact ok_some ⟨⟨(0, 1), rfl, by decide, th_pI⟩, r_fails⟩
set_option maxRecDepth 16384 in
theorem call_gains {h : PH} {b a w : Int32} (I : INV h) : PC hs_L_gains (f_X11_gains 0 b a w) (f_X12_gains 152 b a w) h := by
  have hfail : ∀ h2 : PH, ok (cb (f_X12_fails 152 (nI 1) (pI h2 152 5 (nI 0))) (fun r5 h6 => some (r5, h6))) (fun b h3 => agr hs_L_gains (.inr 0 : Int32 ⊕ Nat) (h3.1 152 5) b ∧ RQ h2 h3) := fun h2 => by
    rw [e_fails]
    exact ok_some ⟨⟨(0, 1), rfl, by decide, th_pI⟩, r_fails⟩
  by_cases qb : inN 6 b
  · have hcb := c_checkPerson (h := h) qb
    have heb : ∀ h3 : PH, f_X12_isBody b h3 = some (bI true, h3) := fun h3 => e_isBodyQ qb
    by_cases q : inN 4 a
    · have hcr := c_checkRule (h := h) q
      have her : ∀ h3 : PH, f_X12_isRule a h3 = some (bI true, h3) := fun h3 => e_isRuleQ q
      by_cases qw : inN 2 w
      · have hcw := c_checkWhat (h := h) (n := 1) (by decide) qw
        have hew : ∀ h3 : PH, f_X12_within w.toInt64 (lN 0) (lN 1) h3 = some (bI true, h3) := fun h3 => e_withinI (by decide) qw
        obtain ⟨m, hm, rfl⟩ := q
        obtain ⟨p, hp, rfl⟩ := qb
        obtain ⟨v, hv, rfl⟩ := qw
        have hsl := svS_lt (T := h.1 159) (A := A0f (h.1 153)) (W := W0f (h.1 153)) (rule := m) I.1.1 (open_lt I.1.1)
        have hgb := gF_b (T := h.1 159) I.1.1 (pr := p) (rule := m) 30
        refine PC_q (.inl (if v = 0 then nI ((gF (h.1 153) (h.1 159) p m 30).1 - usu (h.1 153) (h.1 159) p m) else oI (gF (h.1 153) (h.1 159) p m 30).2)) ?_ (fun h2 R2 I2 k2 => ?_)
        · unfold f_X11_gains
          simp only [pw_lit, hcb, hcr, hcw, pw_cbx, r_0_7, r_0_8]
          refine ok_cb (c_setb I) ?_
          rintro r h1 ⟨cq, R⟩
          refine ok_cb (c_findGain R hp hm) ?_
          rintro r2 h3 ⟨e3, g6, g7⟩
          have cq3 := CQ_trans cq (CQ_ru cq.2 e3)
          by_cases v0 : v = 0
          · subst v0
            simp (disch := omega) only [pw_lt, pw_cb, pw_cbx, pw_cbxr, pw_lit, pw_litL, pw_oi, pw_oim, pw_oi8, pw_m, pw_ldI, pw_ldL, pw_ldR, pw_stI, pw_stL, pw_nz, pw_ltI, pw_leI, pw_eqI, pw_eqm, pw_eqm2, pw_ltm, pw_mlt, pw_lem, pw_mle, pw_mm, pw_dec, pw_nar0, pw_nar1, nI_add, pw_sub, pw_mul, pw_and, pw_or, pw_andn, pw_shl1, pw_shl, pw_shr, pw_dv, nI_l, lN_i, Bool.false_eq_true, reduceCtorEq, if_false, if_true, ↓reduceIte, if_pos, if_neg, g6]
            exact ok_some ⟨rfl, cq3⟩
          · simp (disch := omega) only [pw_lt, pw_cb, pw_cbx, pw_cbxr, pw_lit, pw_litL, pw_oi, pw_oim, pw_oi8, pw_m, pw_ldI, pw_ldL, pw_ldR, pw_stI, pw_stL, pw_nz, pw_ltI, pw_leI, pw_eqI, pw_eqm, pw_eqm2, pw_ltm, pw_mlt, pw_lem, pw_mle, pw_mm, pw_dec, pw_nar0, pw_nar1, nI_add, pw_sub, pw_mul, pw_and, pw_or, pw_andn, pw_shl1, pw_shl, pw_shr, pw_dv, nI_l, lN_i, Bool.false_eq_true, reduceCtorEq, if_false, if_true, ↓reduceIte, if_pos, if_neg, g7, v0]
            exact ok_some ⟨rfl, cq3⟩
        · unfold f_X12_gains
          refine ok_lt ?_
          simp only [pw_lit, heb, pw_cb]
          refine ok_join (fun _ => False) (fun _ q => q.elim) (fun j hj => ?_)
          simp only [pw_litL, her, hew, pw_cb, bI_0', Bool.true_eq_false, if_false]
          refine r_ready (RX_pI R2) (fun h3 e3 G A k7 => ?_)
          simp (disch := omega) only [r_152_0, pw_ldI, k7]
          refine ok_cb (e_serves G A (open_lt I.1.1) hm) ?_
          rintro r h4 ⟨rfl, e4⟩
          have G4 := G.to e4 (by decide) (by decide) (by decide) (by decide) (by decide)
          rw [svS0, e_shareOf I.1.1 G4.1.2.1 hsl hp]
          have hud : shw (h.1 153) p (svS (h.1 153) (h.1 159) (A0f (h.1 153)) (W0f (h.1 153)) (gv (h.1 153) 7) m) = usu (h.1 153) (h.1 159) p m := rfl
          rw [hud]
          simp only [pw_cb, pw_m]
          refine ok_lt (ok_lt (ok_lt (ok_lt (ok_joinT2 (fun x y h5 => x = nI (gF (h.1 153) (h.1 159) p m 30).1 ∧ y = oI (gF (h.1 153) (h.1 159) p m 30).2 ∧ eqx [165, 166, 167] h4 h5) ?_ (fun j2 hj2 => ?_)))))
          · rintro x y h5 ⟨rfl, rfl, e5⟩
            have hth : h5.1 152 5 = nI 0 := by rw [lays_th e5 (by decide), lays_th e4 (by decide), lays_th e3 (by decide), th_pI]
            have hrq : RQ h2 h5 := RQ_trans RQ_th (RQ_eq (eqx_trans (eqx_mono (S' := [162, 163, 165, 166, 167]) e3 (by decide)) (eqx_trans (eqx_mono e4 (by decide)) (eqx_mono e5 (by decide)))) (by decide) (by decide))
            by_cases v0 : v = 0
            · subst v0
              simp (disch := omega) only [pw_lt, pw_cb, pw_cbx, pw_cbxr, pw_lit, pw_litL, pw_oi, pw_oim, pw_oi8, pw_m, pw_ldI, pw_ldL, pw_ldR, pw_stI, pw_stL, pw_nz, pw_ltI, pw_leI, pw_eqI, pw_eqm, pw_eqm2, pw_ltm, pw_mlt, pw_lem, pw_mle, pw_mm, pw_dec, pw_nar0, pw_nar1, nI_add, pw_sub, pw_mul, pw_and, pw_or, pw_andn, pw_shl1, pw_shl, pw_shr, pw_dv, nI_l, lN_i, Bool.false_eq_true, reduceCtorEq, if_false, if_true, ↓reduceIte, if_pos, if_neg]
              exact ok_some ⟨⟨hth, rfl⟩, hrq⟩
            · simp (disch := omega) only [pw_lt, pw_cb, pw_cbx, pw_cbxr, pw_lit, pw_litL, pw_oi, pw_oim, pw_oi8, pw_m, pw_ldI, pw_ldL, pw_ldR, pw_stI, pw_stL, pw_nz, pw_ltI, pw_leI, pw_eqI, pw_eqm, pw_eqm2, pw_ltm, pw_mlt, pw_lem, pw_mle, pw_mm, pw_dec, pw_nar0, pw_nar1, nI_add, pw_sub, pw_mul, pw_and, pw_or, pw_andn, pw_shl1, pw_shl, pw_shr, pw_dv, nI_l, lN_i, Bool.false_eq_true, reduceCtorEq, if_false, if_true, ↓reduceIte, if_pos, if_neg, v0]
              exact ok_some ⟨⟨hth, rfl⟩, hrq⟩
          · exact e_gains_lp G4 hp hm (fun h5 e5 => hj2 _ _ h5 ⟨rfl, rfl, e5⟩)
      · refine PC_q (.inr 0) ?_ (fun h2 R2 I2 k2 => ?_)
        · unfold f_X11_gains
          simp only [pw_lit, hcb, hcr, pw_cbx, c_checkWhat1 (h := h) (n := 1) (by decide) qw, pw_cbxr]
          exact ok_some ⟨rfl, CQ_rfl I⟩
        · have hew : ∀ h3 : PH, f_X12_within w.toInt64 (lN 0) (lN 1) h3 = some (bI false, h3) := fun h3 => e_withinI1 (by decide) qw
          unfold f_X12_gains
          refine ok_lt ?_
          simp only [pw_lit, heb, pw_cb]
          refine ok_join (fun h3 => h3 = pI h2 152 5 (nI 0)) (fun h3 q3 => by rw [q3]; exact hfail h2) (fun j hj => ?_)
          simp only [pw_litL, her, hew, pw_cb, bI_0', Bool.true_eq_false, if_false, if_true]
          exact hj _ rfl
    · refine PC_q (.inr 0) ?_ (fun h2 R2 I2 k2 => ?_)
      · unfold f_X11_gains
        simp only [hcb, pw_cbx, c_checkRule1 (h := h) q, pw_cbxr]
        exact ok_some ⟨rfl, CQ_rfl I⟩
      · have her : ∀ h3 : PH, f_X12_isRule a h3 = some (bI false, h3) := fun h3 => e_isRuleQ1 q
        unfold f_X12_gains
        refine ok_lt ?_
        simp only [pw_lit, heb, pw_cb]
        refine ok_join (fun h3 => h3 = pI h2 152 5 (nI 0)) (fun h3 q3 => by rw [q3]; exact hfail h2) (fun j hj => ?_)
        simp only [pw_litL, her, pw_cb, bI_0', Bool.true_eq_false, if_false, if_true]
        exact hj _ rfl
  · refine PC_q (.inr 0) ?_ (fun h2 R2 I2 k2 => ?_)
    · unfold f_X11_gains
      simp only [c_checkPerson1 (h := h) qb, pw_cbxr]
      exact ok_some ⟨rfl, CQ_rfl I⟩
    · have heb : ∀ h3 : PH, f_X12_isBody b h3 = some (bI false, h3) := fun h3 => e_isBodyQ1 qb
      unfold f_X12_gains
      refine ok_lt ?_
      simp only [pw_lit, heb, pw_cb]
      refine ok_join (fun h3 => h3 = pI h2 152 5 (nI 0)) (fun h3 q3 => by rw [q3]; exact hfail h2) (fun j hj => ?_)
      simp only [bI_0', if_true]
      exact hj _ rfl
set_option maxRecDepth 16384 in
theorem call_bestRule {h : PH} (I : INV h) : PN (f_X11_bestRule 0) (f_X12_bestRule 152) h := by
  refine PN_q (nI (bru (h.1 153) (h.1 159) 3)) ?_ (fun h2 R2 I2 k2 => ?_)
  · unfold f_X11_bestRule
    rw [r_0_7]
    refine ok_cb (c_setb I) ?_
    rintro r h1 ⟨cq, R⟩
    simp only [pw_lt, pw_lit, pw_m]
    refine ok_mono (c_bestRule_lp R) ?_
    rintro r2 h3 ⟨rfl, e3⟩
    exact ⟨rfl, CQ_trans cq (CQ_ru cq.2 e3)⟩
  · unfold f_X12_bestRule
    simp only [pw_lt, pw_lit]
    refine r_ready (RX_pI R2) (fun h3 e3 G A k7 => ?_)
    refine ok_mono (e_bestRule_lp G A) ?_
    rintro r h4 ⟨rfl, e4⟩
    exact ⟨rfl, RQ_trans RQ_th (RQ_eq (eqx_trans (eqx_mono (S' := [162, 163, 165, 166, 167]) e3 (by decide)) (eqx_mono e4 (by decide))) (by decide) (by decide))⟩

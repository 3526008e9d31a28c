/-! ===== together, quarrel, foes, hearts ===== -/
def RX (K T : Nat → Int32) (h : PH) : Prop := RK K ∧ h.1 153 = K ∧ h.1 159 = T ∧ TT K T ∧ WW K (h.1 160)
def RG (K T : Nat → Int32) (h : PH) : Prop := RX K T h ∧ (∀ p, p ≤ ga K → h.1 162 p = GB K T p) ∧ ∀ s, s < 1024 → h.1 163 s = bI (tg K T s)
set_option maxRecDepth 16384 in
theorem e_lays {K T : Nat → Int32} {h : PH} (R : RX K T h) : ok (f_X12_laysPlans 152 h) (fun _ h' => eqx [162, 163] h h' ∧ RG K T h') := by
  obtain ⟨H, r1, r2, r3, r4⟩ := id R
  refine ok_mono (e_laysPlans (h := h) (by rw [r1]; exact H) (by rw [r1, r2]; exact r3) (by rw [r1]; exact r4)) ?_
  rintro r h' ⟨e, y1, y2⟩
  rw [r1, r2] at y1 y2
  refine ⟨e, ⟨H, ?_, ?_, r3, ?_⟩, y1, y2⟩
  · rw [(e 153 (by decide)).1, r1]
  · rw [(e 159 (by decide)).1, r2]
  · rw [(e 160 (by decide)).1]
    exact r4
set_option maxRecDepth 16384 in
theorem open_lt {K : Nat → Int32} (H : RK K) : gv K 7 < 2 ^ gv K 5 := H.2.2.2.2.2.2.2.2.2.1
set_option maxRecDepth 16384 in
theorem sub_le {a b : Nat} (h : sdf a b = 0) : a ≤ b := by
  rw [sdf_0] at h
  rw [← h]
  exact Nat.and_le_right
/- the smallest quarrel within a set -/
def quP (K T : Nat → Int32) (s p : Nat) : Bool := decide (sdf p s = 0) && !tg K T p
set_option maxRecDepth 16384 in
theorem e_quarrelLp {K T : Nat → Int32} {h : PH} {s : Nat} (R : RG K T h) (hs : s < 1024) : lp (b_X12_quarrel_27 152 (nI s)) FU (mI, nI 0) h = some (oI (bestP (quP K T s) (s + 1)), h) := by
  refine lp_run (fun i => (oI (bestP (quP K T s) i), nI i)) (fun _ => h) (s + 1) _ ?_ ?_ FU (fu_lt (by omega))
  · intro i hi rec
    have hat := R.2.2 i (by omega)
    have hsd := sdf_le i s
    unfold b_X12_quarrel_27
    by_cases h1 : sdf i s = 0
    · rcases tf (tg K T i) with h2 | h2
      · have hP : quP K T s i = true := by unfold quP; rw [decide_eq_true h1, h2]; rfl
        rw [h2] at hat
        cases hb : bestP (quP K T s) i with
        | none => simp (disch := omega) only [pw_lt, pw_cb, pw_cbx, pw_cbxr, pw_lit, pw_litL, pw_oi, pw_oim, pw_oi8, pw_m, pw_ldI, pw_ldL, pw_ldR, pw_stI, pw_stL, pw_nz, pw_ltI, pw_leI, pw_eqI, pw_eqm, pw_eqm2, pw_ltm, pw_mlt, pw_lem, pw_mle, pw_mm, pw_dec, pw_nar0, pw_nar1, nI_add, pw_sub, pw_mul, pw_and, pw_or, pw_andn, pw_shl1, pw_shl, pw_shr, pw_dv, nI_l, lN_i, Bool.false_eq_true, reduceCtorEq, if_false, if_true, ↓reduceIte, if_pos, if_neg, h1, hat, bI_0', bestP, hP, hb, oI, r_152_22]
        | some b =>
          have hbl := best_lt (n := i) (by omega) hb
          have p1 := pc_le (show i < 4096 by omega)
          have p2 := pc_le (show b < 4096 by omega)
          by_cases h3 : pc i < pc b
          · simp (disch := omega) only [pw_lt, pw_cb, pw_cbx, pw_cbxr, pw_lit, pw_litL, pw_oi, pw_oim, pw_oi8, pw_m, pw_ldI, pw_ldL, pw_ldR, pw_stI, pw_stL, pw_nz, pw_ltI, pw_leI, pw_eqI, pw_eqm, pw_eqm2, pw_ltm, pw_mlt, pw_lem, pw_mle, pw_mm, pw_dec, pw_nar0, pw_nar1, nI_add, pw_sub, pw_mul, pw_and, pw_or, pw_andn, pw_shl1, pw_shl, pw_shr, pw_dv, nI_l, lN_i, Bool.false_eq_true, reduceCtorEq, if_false, if_true, ↓reduceIte, if_pos, if_neg, h1, hat, bI_0', bestP, hP, hb, oI, e_size, r_152_22]
          · simp (disch := omega) only [pw_lt, pw_cb, pw_cbx, pw_cbxr, pw_lit, pw_litL, pw_oi, pw_oim, pw_oi8, pw_m, pw_ldI, pw_ldL, pw_ldR, pw_stI, pw_stL, pw_nz, pw_ltI, pw_leI, pw_eqI, pw_eqm, pw_eqm2, pw_ltm, pw_mlt, pw_lem, pw_mle, pw_mm, pw_dec, pw_nar0, pw_nar1, nI_add, pw_sub, pw_mul, pw_and, pw_or, pw_andn, pw_shl1, pw_shl, pw_shr, pw_dv, nI_l, lN_i, Bool.false_eq_true, reduceCtorEq, if_false, if_true, ↓reduceIte, if_pos, if_neg, h1, hat, bI_0', bestP, hP, hb, oI, e_size, r_152_22]
      · have hP : quP K T s i = false := by unfold quP; rw [h2, Bool.not_true, Bool.and_false]
        rw [h2] at hat
        simp (disch := omega) only [pw_lt, pw_cb, pw_cbx, pw_cbxr, pw_lit, pw_litL, pw_oi, pw_oim, pw_oi8, pw_m, pw_ldI, pw_ldL, pw_ldR, pw_stI, pw_stL, pw_nz, pw_ltI, pw_leI, pw_eqI, pw_eqm, pw_eqm2, pw_ltm, pw_mlt, pw_lem, pw_mle, pw_mm, pw_dec, pw_nar0, pw_nar1, nI_add, pw_sub, pw_mul, pw_and, pw_or, pw_andn, pw_shl1, pw_shl, pw_shr, pw_dv, nI_l, lN_i, Bool.false_eq_true, reduceCtorEq, if_false, if_true, ↓reduceIte, if_pos, if_neg, h1, hat, bI_0', bestP, hP, r_152_22]
    · have hP : quP K T s i = false := by unfold quP; rw [decide_eq_false h1, Bool.false_and]
      simp (disch := omega) only [pw_lt, pw_cb, pw_cbx, pw_cbxr, pw_lit, pw_litL, pw_oi, pw_oim, pw_oi8, pw_m, pw_ldI, pw_ldL, pw_ldR, pw_stI, pw_stL, pw_nz, pw_ltI, pw_leI, pw_eqI, pw_eqm, pw_eqm2, pw_ltm, pw_mlt, pw_lem, pw_mle, pw_mm, pw_dec, pw_nar0, pw_nar1, nI_add, pw_sub, pw_mul, pw_and, pw_or, pw_andn, pw_shl1, pw_shl, pw_shr, pw_dv, nI_l, lN_i, Bool.false_eq_true, reduceCtorEq, if_false, if_true, ↓reduceIte, if_pos, if_neg, h1, bestP, hP]
  · intro rec
    unfold b_X12_quarrel_27
    simp (disch := omega) only [pw_lt, pw_cb, pw_cbx, pw_cbxr, pw_lit, pw_litL, pw_oi, pw_oim, pw_oi8, pw_m, pw_ldI, pw_ldL, pw_ldR, pw_stI, pw_stL, pw_nz, pw_ltI, pw_leI, pw_eqI, pw_eqm, pw_eqm2, pw_ltm, pw_mlt, pw_lem, pw_mle, pw_mm, pw_dec, pw_nar0, pw_nar1, nI_add, pw_sub, pw_mul, pw_and, pw_or, pw_andn, pw_shl1, pw_shl, pw_shr, pw_dv, nI_l, lN_i, Bool.false_eq_true, reduceCtorEq, if_false, if_true, ↓reduceIte, if_pos, if_neg]
/- what is given up for i -/
def giP (K T : Nat → Int32) (u p : Nat) : Bool := decide (sdf p u = 0) && tg K T (sdf (gv K 7) p)
def giU (K : Nat → Int32) (i : Nat) : Nat := sdf (sdf (gv K 7) (2 ^ i)) (mu K)
set_option maxRecDepth 16384 in
theorem giU_lt {K : Nat → Int32} {i : Nat} : giU K i ≤ gv K 7 := Nat.le_trans (sdf_le _ _) (sdf_le _ _)

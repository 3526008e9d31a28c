/-! ===== the plans: the reference's tables ===== -/
def gG (K T : Nat → Int32) (p : Nat) : Nat := gr K T (wx K p)
def abl (K T : Nat → Int32) (p : Nat) : Bool := decide (wy K T p = 0)
def GB (K T : Nat → Int32) (p : Nat) : Int32 := if wy K T p = 0 then nI (gG K T p) else mI
/- p can be and grants s -/
def fts (K T : Nat → Int32) (s p : Nat) : Bool := abl K T p && decide (sdf s (gG K T p) = 0)
/- the plan for a set -/
def pF (K T : Nat → Int32) (s : Nat) : Option Nat := bestP (fts K T s) (ga K + 1)
def tg (K T : Nat → Int32) (s : Nat) : Bool := (pF K T s).isSome
set_option maxRecDepth 16384 in
theorem tg_iff {K T : Nat → Int32} (H : RK K) {s : Nat} : tg K T s = true ↔ ∃ p, p ≤ ga K ∧ abl K T p = true ∧ sdf s (gG K T p) = 0 := by
  have hb := rk_b H
  have hn : ga K + 1 ≤ 4096 := by have := hb.2.2.2.2.2.2.2.2.2.1; omega
  unfold tg
  constructor
  · intro h
    obtain ⟨b, hb⟩ := Option.isSome_iff_exists.mp h
    have h1 := best_lt hn hb
    have h2 := best_P hn hb
    unfold fts at h2
    simp only [Bool.and_eq_true, decide_eq_true_eq] at h2
    exact ⟨b, by omega, h2.1, h2.2⟩
  · rintro ⟨p, h1, h2, h3⟩
    cases hb : pF K T s with
    | some b => rfl
    | none =>
      have := (best_none hn).mp hb p (by omega)
      unfold fts at this
      rw [h2, decide_eq_true h3] at this
      cases this
set_option maxRecDepth 16384 in
theorem e_planFor {h : PH} {s : Nat} {T : Nat → Int32} (H : RK (h.1 153)) (hG : ∀ p, p ≤ ga (h.1 153) → h.1 162 p = GB (h.1 153) T p) (hs : s < 2147483648) : f_X12_planFor 152 (nI s) h = some (oI (pF (h.1 153) T s), h) := by
  obtain ⟨b0, b1, b2, b3, b4, b5, b6, b7, b8, b9, b10⟩ := rk_b H
  unfold f_X12_planFor
  simp only [pw_lt, pw_lit, pw_m]
  refine lp_run (fun i => (oI (bestP (fts (h.1 153) T s) i), nI i)) (fun _ => h) (ga (h.1 153) + 1) _ ?_ ?_ FU (fu_lt (by omega))
  · intro i hi rec
    have hg := gr_lt (T := T) H (wx (h.1 153) i)
    have hGi := hG i (by omega)
    have m4 := sdf_le s (gr (h.1 153) T (wx (h.1 153) i))
    unfold b_X12_planFor_4
    rw [e_everywhere H]
    simp (disch := omega) only [pw_lt, pw_cb, pw_cbx, pw_cbxr, pw_lit, pw_litL, pw_oi, pw_oim, pw_oi8, pw_m, pw_ldI, pw_ldL, pw_ldR, pw_stI, pw_stL, pw_nz, pw_ltI, pw_leI, pw_eqI, pw_eqm, pw_eqm2, pw_ltm, pw_mlt, pw_lem, pw_mle, pw_mm, pw_dec, pw_nar0, pw_nar1, nI_add, pw_sub, pw_mul, pw_and, pw_or, pw_andn, pw_shl1, pw_shl, pw_shr, pw_dv, nI_l, lN_i, Bool.false_eq_true, reduceCtorEq, if_false, if_true, ↓reduceIte, if_pos, if_neg, r_152_21, hGi]
    unfold GB
    by_cases h1 : wy (h.1 153) T i = 0
    · unfold gG
      by_cases h2 : sdf s (gr (h.1 153) T (wx (h.1 153) i)) = 0
      · have hf : fts (h.1 153) T s i = true := by
          unfold fts abl gG
          rw [decide_eq_true h1, decide_eq_true h2]
          rfl
        cases hb : bestP (fts (h.1 153) T s) i with
        | none => simp (disch := omega) only [pw_lt, pw_cb, pw_cbx, pw_cbxr, pw_lit, pw_litL, pw_oi, pw_oim, pw_oi8, pw_m, pw_ldI, pw_ldL, pw_ldR, pw_stI, pw_stL, pw_nz, pw_ltI, pw_leI, pw_eqI, pw_eqm, pw_eqm2, pw_ltm, pw_mlt, pw_lem, pw_mle, pw_mm, pw_dec, pw_nar0, pw_nar1, nI_add, pw_sub, pw_mul, pw_and, pw_or, pw_andn, pw_shl1, pw_shl, pw_shr, pw_dv, nI_l, lN_i, Bool.false_eq_true, reduceCtorEq, if_false, if_true, ↓reduceIte, if_pos, if_neg, h1, h2, bestP, hf, hb, oI]
        | some b =>
          have hbl := best_lt (n := i) (by omega) hb
          have p1 := pc_le (show i < 4096 by omega)
          have p2 := pc_le (show b < 4096 by omega)
          by_cases h3 : pc i < pc b
          · simp (disch := omega) only [pw_lt, pw_cb, pw_cbx, pw_cbxr, pw_lit, pw_litL, pw_oi, pw_oim, pw_oi8, pw_m, pw_ldI, pw_ldL, pw_ldR, pw_stI, pw_stL, pw_nz, pw_ltI, pw_leI, pw_eqI, pw_eqm, pw_eqm2, pw_ltm, pw_mlt, pw_lem, pw_mle, pw_mm, pw_dec, pw_nar0, pw_nar1, nI_add, pw_sub, pw_mul, pw_and, pw_or, pw_andn, pw_shl1, pw_shl, pw_shr, pw_dv, nI_l, lN_i, Bool.false_eq_true, reduceCtorEq, if_false, if_true, ↓reduceIte, if_pos, if_neg, h1, h2, bestP, hf, hb, oI, e_size]
          · simp (disch := omega) only [pw_lt, pw_cb, pw_cbx, pw_cbxr, pw_lit, pw_litL, pw_oi, pw_oim, pw_oi8, pw_m, pw_ldI, pw_ldL, pw_ldR, pw_stI, pw_stL, pw_nz, pw_ltI, pw_leI, pw_eqI, pw_eqm, pw_eqm2, pw_ltm, pw_mlt, pw_lem, pw_mle, pw_mm, pw_dec, pw_nar0, pw_nar1, nI_add, pw_sub, pw_mul, pw_and, pw_or, pw_andn, pw_shl1, pw_shl, pw_shr, pw_dv, nI_l, lN_i, Bool.false_eq_true, reduceCtorEq, if_false, if_true, ↓reduceIte, if_pos, if_neg, h1, h2, bestP, hf, hb, oI, e_size]
      · have hf : fts (h.1 153) T s i = false := by
          unfold fts abl gG
          rw [decide_eq_false h2, Bool.and_false]
        simp (disch := omega) only [pw_lt, pw_cb, pw_cbx, pw_cbxr, pw_lit, pw_litL, pw_oi, pw_oim, pw_oi8, pw_m, pw_ldI, pw_ldL, pw_ldR, pw_stI, pw_stL, pw_nz, pw_ltI, pw_leI, pw_eqI, pw_eqm, pw_eqm2, pw_ltm, pw_mlt, pw_lem, pw_mle, pw_mm, pw_dec, pw_nar0, pw_nar1, nI_add, pw_sub, pw_mul, pw_and, pw_or, pw_andn, pw_shl1, pw_shl, pw_shr, pw_dv, nI_l, lN_i, Bool.false_eq_true, reduceCtorEq, if_false, if_true, ↓reduceIte, if_pos, if_neg, h1, h2, bestP, hf]
    · have hf : fts (h.1 153) T s i = false := by
        unfold fts abl
        rw [decide_eq_false h1, Bool.false_and]
      simp (disch := omega) only [pw_lt, pw_cb, pw_cbx, pw_cbxr, pw_lit, pw_litL, pw_oi, pw_oim, pw_oi8, pw_m, pw_ldI, pw_ldL, pw_ldR, pw_stI, pw_stL, pw_nz, pw_ltI, pw_leI, pw_eqI, pw_eqm, pw_eqm2, pw_ltm, pw_mlt, pw_lem, pw_mle, pw_mm, pw_dec, pw_nar0, pw_nar1, nI_add, pw_sub, pw_mul, pw_and, pw_or, pw_andn, pw_shl1, pw_shl, pw_shr, pw_dv, nI_l, lN_i, Bool.false_eq_true, reduceCtorEq, if_false, if_true, ↓reduceIte, if_pos, if_neg, h1, bestP, hf]
  · intro rec
    unfold b_X12_planFor_4
    rw [e_everywhere H]
    simp (disch := omega) only [pw_lt, pw_cb, pw_cbx, pw_cbxr, pw_lit, pw_litL, pw_oi, pw_oim, pw_oi8, pw_m, pw_ldI, pw_ldL, pw_ldR, pw_stI, pw_stL, pw_nz, pw_ltI, pw_leI, pw_eqI, pw_eqm, pw_eqm2, pw_ltm, pw_mlt, pw_lem, pw_mle, pw_mm, pw_dec, pw_nar0, pw_nar1, nI_add, pw_sub, pw_mul, pw_and, pw_or, pw_andn, pw_shl1, pw_shl, pw_shr, pw_dv, nI_l, lN_i, Bool.false_eq_true, reduceCtorEq, if_false, if_true, ↓reduceIte, if_pos, if_neg]
    rfl

/-! ===== the least plan for a set ===== -/
def oI : Option Nat → Int32
  | none => mI
  | some p => nI p
/- fewest bits first, then the least -/
def ky (p : Nat) : Nat := pc p * 4096 + p
set_option maxRecDepth 16384 in
theorem ky_inj {a b : Nat} (ha : a < 4096) (hb : b < 4096) (h : ky a = ky b) : a = b := by
  unfold ky at h
  omega
set_option maxRecDepth 16384 in
theorem ky_lt {a b : Nat} (ha : a < 4096) (hb : b < 4096) : ky a < ky b ↔ pc a < pc b ∨ pc a = pc b ∧ a < b := by
  unfold ky
  omega
def bestP (P : Nat → Bool) : Nat → Option Nat
  | 0 => none
  | n + 1 => if P n then (match bestP P n with | none => some n | some b => if pc n < pc b then some n else some b) else bestP P n
/- o is the best of those below n with P -/
def IsB (P : Nat → Bool) (n : Nat) (o : Option Nat) : Prop := match o with
  | none => ∀ p, p < n → P p = false
  | some b => b < n ∧ P b = true ∧ ∀ p, p < n → P p = true → ky b ≤ ky p
set_option maxRecDepth 16384 in
theorem isB_uniq {P : Nat → Bool} {n : Nat} {o o' : Option Nat} (hn : n ≤ 4096) (h : IsB P n o) (h' : IsB P n o') : o = o' := by
  cases o with
  | none =>
    cases o' with
    | none => rfl
    | some b => exact absurd (h b h'.1) (by rw [h'.2.1]; decide)
  | some a =>
    cases o' with
    | none => exact absurd (h' a h.1) (by rw [h.2.1]; decide)
    | some b =>
      have h1 := h.2.2 b h'.1 h'.2.1
      have h2 := h'.2.2 a h.1 h.2.1
      have e := ky_inj (a := a) (b := b) (by have := h.1; omega) (by have := h'.1; omega) (by omega)
      rw [e]
set_option maxRecDepth 16384 in
theorem isB_best {P : Nat → Bool} : ∀ {n : Nat}, n ≤ 4096 → IsB P n (bestP P n)
  | 0, _ => fun p hp => absurd hp (by omega)
  | n + 1, hn => by
    have ih := isB_best (P := P) (n := n) (by omega)
    unfold bestP
    by_cases hP : P n = true
    · rw [if_pos hP]
      cases hb : bestP P n with
      | none =>
        rw [hb] at ih
        refine ⟨by omega, hP, fun p hp hPp => ?_⟩
        rcases (show p < n ∨ p = n by omega) with q | rfl
        · rw [ih p q] at hPp; cases hPp
        · exact Nat.le_refl _
      | some b =>
        rw [hb] at ih
        obtain ⟨i1, i2, i3⟩ := ih
        by_cases hc : pc n < pc b
        · simp only [if_pos hc]
          refine ⟨by omega, hP, fun p hp hPp => ?_⟩
          rcases (show p < n ∨ p = n by omega) with q | rfl
          · have := i3 p q hPp
            unfold ky at this ⊢
            omega
          · exact Nat.le_refl _
        · simp only [if_neg hc]
          refine ⟨by omega, i2, fun p hp hPp => ?_⟩
          rcases (show p < n ∨ p = n by omega) with q | rfl
          · exact i3 p q hPp
          · unfold ky
            omega
    · rw [if_neg hP]
      have hP : P n = false := by simpa using hP
      cases hb : bestP P n with
      | none =>
        rw [hb] at ih
        intro p hp
        rcases (show p < n ∨ p = n by omega) with q | rfl
        · exact ih p q
        · exact hP
      | some b =>
        rw [hb] at ih
        refine ⟨by have := ih.1; omega, ih.2.1, fun p hp hPp => ?_⟩
        rcases (show p < n ∨ p = n by omega) with q | rfl
        · exact ih.2.2 p q hPp
        · rw [hP] at hPp; cases hPp
set_option maxRecDepth 16384 in
theorem best_lt {P : Nat → Bool} {n b : Nat} (hn : n ≤ 4096) (h : bestP P n = some b) : b < n := by
  have := isB_best (P := P) (n := n) hn
  rw [h] at this
  exact this.1
set_option maxRecDepth 16384 in
theorem best_P {P : Nat → Bool} {n b : Nat} (hn : n ≤ 4096) (h : bestP P n = some b) : P b = true := by
  have := isB_best (P := P) (n := n) hn
  rw [h] at this
  exact this.2.1
set_option maxRecDepth 16384 in
theorem best_none {P : Nat → Bool} {n : Nat} (hn : n ≤ 4096) : bestP P n = none ↔ ∀ p, p < n → P p = false := by
  have := isB_best (P := P) (n := n) hn
  constructor
  · intro h
    rw [h] at this
    exact this
  · intro h
    cases hb : bestP P n with
    | none => rfl
    | some b =>
      rw [hb] at this
      exact absurd this.2.1 (by rw [h b this.1]; decide)
/- the lesser of two -/
def lsr (a b : Option Nat) : Option Nat := match a, b with
  | none, b => b
  | some a, none => some a
  | some a, some b => if pc a < pc b ∨ pc a = pc b ∧ a < b then some a else some b
set_option maxRecDepth 16384 in
theorem isB_or {P Q : Nat → Bool} {n : Nat} {a b : Option Nat} (hn : n ≤ 4096) (ha : IsB P n a) (hb : IsB Q n b) : IsB (fun p => P p || Q p) n (lsr a b) := by
  cases a with
  | none =>
    cases b with
    | none => exact fun p hp => by show (P p || Q p) = false; rw [ha p hp, hb p hp]; rfl
    | some b =>
      refine ⟨hb.1, by show (P b || Q b) = true; rw [hb.2.1, Bool.or_true], fun p hp hPp => ?_⟩
      have hPp : (P p || Q p) = true := hPp
      rw [ha p hp, Bool.false_or] at hPp
      exact hb.2.2 p hp hPp
  | some a =>
    cases b with
    | none =>
      refine ⟨ha.1, by show (P a || Q a) = true; rw [ha.2.1, Bool.true_or], fun p hp hPp => ?_⟩
      have hPp : (P p || Q p) = true := hPp
      rw [hb p hp, Bool.or_false] at hPp
      exact ha.2.2 p hp hPp
    | some b =>
      have h1 := ha.1
      have h2 := hb.1
      unfold lsr
      by_cases hc : pc a < pc b ∨ pc a = pc b ∧ a < b
      · simp only [if_pos hc]
        refine ⟨ha.1, by show (P a || Q a) = true; rw [ha.2.1, Bool.true_or], fun p hp hPp => ?_⟩
        rcases (Bool.or_eq_true_iff (x := P p) (y := Q p)).mp hPp with q | q
        · exact ha.2.2 p hp q
        · have h3 := hb.2.2 p hp q
          have h4 := (ky_lt (a := a) (b := b) (by omega) (by omega)).mpr hc
          exact Nat.le_trans (Nat.le_of_lt h4) h3
      · simp only [if_neg hc]
        refine ⟨hb.1, by show (P b || Q b) = true; rw [hb.2.1, Bool.or_true], fun p hp hPp => ?_⟩
        have hh : ¬ ky a < ky b := fun q => hc ((ky_lt (a := a) (b := b) (by omega) (by omega)).mp q)
        rcases (Bool.or_eq_true_iff (x := P p) (y := Q p)).mp hPp with q | q
        · have h3 := ha.2.2 p hp q
          exact Nat.le_trans (Nat.not_lt.mp hh) h3
        · exact hb.2.2 p hp q
set_option maxRecDepth 16384 in
theorem isB_congr {P Q : Nat → Bool} {n : Nat} {o : Option Nat} (h : ∀ p, p < n → P p = Q p) (hb : IsB P n o) : IsB Q n o := by
  cases o with
  | none => exact fun p hp => by rw [← h p hp]; exact hb p hp
  | some b => exact ⟨hb.1, by rw [← h b hb.1]; exact hb.2.1, fun p hp q => hb.2.2 p hp (by rw [h p hp]; exact q)⟩
set_option maxRecDepth 16384 in
theorem pw_subI {a b : Nat} (ha : a < 1073741824) (hb : b < 1073741824) : (nI a - nI b).toInt = (a : Int) - (b : Int) := by
  rw [Int32.toInt_sub, pw_toInt (by omega), pw_toInt (by omega)]
  exact Int.bmod_eq_of_le (by omega) (by omega)
set_option maxRecDepth 16384 in
theorem c_lesser {a b : Option Nat} {h : PH} (ha : ∀ p, a = some p → p < 4096) (hb : ∀ p, b = some p → p < 4096) : f_X2_lesser (oI a) (oI b) h = some (oI (lsr a b), h) := by
  unfold f_X2_lesser
  cases a with
  | none =>
    cases b with
    | none => simp (disch := omega) only [pw_lt, pw_cb, pw_cbx, pw_cbxr, pw_lit, pw_litL, pw_oi, pw_oim, pw_oi8, pw_m, pw_ldI, pw_ldL, pw_ldR, pw_stI, pw_stL, pw_nz, pw_ltI, pw_leI, pw_eqI, pw_eqm, pw_eqm2, pw_ltm, pw_mlt, pw_lem, pw_mle, pw_mm, pw_dec, pw_nar0, pw_nar1, nI_add, pw_sub, pw_mul, pw_and, pw_or, pw_andn, pw_shl1, pw_shl, pw_shr, pw_dv, nI_l, lN_i, Bool.false_eq_true, reduceCtorEq, if_false, if_true, ↓reduceIte, if_pos, if_neg, oI, lsr, eq_self]
    | some b => simp (disch := omega) only [pw_lt, pw_cb, pw_cbx, pw_cbxr, pw_lit, pw_litL, pw_oi, pw_oim, pw_oi8, pw_m, pw_ldI, pw_ldL, pw_ldR, pw_stI, pw_stL, pw_nz, pw_ltI, pw_leI, pw_eqI, pw_eqm, pw_eqm2, pw_ltm, pw_mlt, pw_lem, pw_mle, pw_mm, pw_dec, pw_nar0, pw_nar1, nI_add, pw_sub, pw_mul, pw_and, pw_or, pw_andn, pw_shl1, pw_shl, pw_shr, pw_dv, nI_l, lN_i, Bool.false_eq_true, reduceCtorEq, if_false, if_true, ↓reduceIte, if_pos, if_neg, oI, lsr, eq_self]
  | some a =>
    have h1 := ha a rfl
    cases b with
    | none => simp (disch := omega) only [pw_lt, pw_cb, pw_cbx, pw_cbxr, pw_lit, pw_litL, pw_oi, pw_oim, pw_oi8, pw_m, pw_ldI, pw_ldL, pw_ldR, pw_stI, pw_stL, pw_nz, pw_ltI, pw_leI, pw_eqI, pw_eqm, pw_eqm2, pw_ltm, pw_mlt, pw_lem, pw_mle, pw_mm, pw_dec, pw_nar0, pw_nar1, nI_add, pw_sub, pw_mul, pw_and, pw_or, pw_andn, pw_shl1, pw_shl, pw_shr, pw_dv, nI_l, lN_i, Bool.false_eq_true, reduceCtorEq, if_false, if_true, ↓reduceIte, if_pos, if_neg, oI, lsr, eq_self]
    | some b =>
      have h2 := hb b rfl
      have p1 := pc_le h1
      have p2 := pc_le h2
      have d1 : (nI (pc a) - nI (pc b) < nI 0) = (pc a < pc b) := by
        refine propext ?_
        rw [Int32.lt_iff_toInt_lt, pw_subI (by omega) (by omega), pw_toInt (by decide)]
        omega
      have d2 : (nI (pc a) - nI (pc b) = nI 0) = (pc a = pc b) := by
        refine propext ?_
        rw [← Int32.toInt_inj, pw_subI (by omega) (by omega), pw_toInt (by decide)]
        omega
      simp (disch := omega) only [pw_lt, pw_cb, pw_cbx, pw_cbxr, pw_lit, pw_litL, pw_oi, pw_oim, pw_oi8, pw_m, pw_ldI, pw_ldL, pw_ldR, pw_stI, pw_stL, pw_nz, pw_ltI, pw_leI, pw_eqI, pw_eqm, pw_eqm2, pw_ltm, pw_mlt, pw_lem, pw_mle, pw_mm, pw_dec, pw_nar0, pw_nar1, nI_add, pw_mul, pw_and, pw_or, pw_andn, pw_shl1, pw_shl, pw_shr, pw_dv, nI_l, lN_i, Bool.false_eq_true, reduceCtorEq, if_false, if_true, ↓reduceIte, if_pos, if_neg, oI, lsr, e_bitCount, d1, d2]
      by_cases c1 : pc a < pc b
      · simp (disch := omega) only [pw_lt, pw_cb, pw_cbx, pw_cbxr, pw_lit, pw_litL, pw_oi, pw_oim, pw_oi8, pw_m, pw_ldI, pw_ldL, pw_ldR, pw_stI, pw_stL, pw_nz, pw_ltI, pw_leI, pw_eqI, pw_eqm, pw_eqm2, pw_ltm, pw_mlt, pw_lem, pw_mle, pw_mm, pw_dec, pw_nar0, pw_nar1, nI_add, pw_sub, pw_mul, pw_and, pw_or, pw_andn, pw_shl1, pw_shl, pw_shr, pw_dv, nI_l, lN_i, Bool.false_eq_true, reduceCtorEq, if_false, if_true, ↓reduceIte, if_pos, if_neg, c1, true_or]
      · by_cases c2 : pc a = pc b
        · by_cases c3 : b ≤ a
          · simp (disch := omega) only [pw_lt, pw_cb, pw_cbx, pw_cbxr, pw_lit, pw_litL, pw_oi, pw_oim, pw_oi8, pw_m, pw_ldI, pw_ldL, pw_ldR, pw_stI, pw_stL, pw_nz, pw_ltI, pw_leI, pw_eqI, pw_eqm, pw_eqm2, pw_ltm, pw_mlt, pw_lem, pw_mle, pw_mm, pw_dec, pw_nar0, pw_nar1, nI_add, pw_sub, pw_mul, pw_and, pw_or, pw_andn, pw_shl1, pw_shl, pw_shr, pw_dv, nI_l, lN_i, Bool.false_eq_true, reduceCtorEq, if_false, if_true, ↓reduceIte, if_pos, if_neg, c2, Nat.lt_irrefl, true_and, false_or]
          · simp (disch := omega) only [pw_lt, pw_cb, pw_cbx, pw_cbxr, pw_lit, pw_litL, pw_oi, pw_oim, pw_oi8, pw_m, pw_ldI, pw_ldL, pw_ldR, pw_stI, pw_stL, pw_nz, pw_ltI, pw_leI, pw_eqI, pw_eqm, pw_eqm2, pw_ltm, pw_mlt, pw_lem, pw_mle, pw_mm, pw_dec, pw_nar0, pw_nar1, nI_add, pw_sub, pw_mul, pw_and, pw_or, pw_andn, pw_shl1, pw_shl, pw_shr, pw_dv, nI_l, lN_i, Bool.false_eq_true, reduceCtorEq, if_false, if_true, ↓reduceIte, if_pos, if_neg, c2, Nat.lt_irrefl, true_and, false_or]
        · simp (disch := omega) only [pw_lt, pw_cb, pw_cbx, pw_cbxr, pw_lit, pw_litL, pw_oi, pw_oim, pw_oi8, pw_m, pw_ldI, pw_ldL, pw_ldR, pw_stI, pw_stL, pw_nz, pw_ltI, pw_leI, pw_eqI, pw_eqm, pw_eqm2, pw_ltm, pw_mlt, pw_lem, pw_mle, pw_mm, pw_dec, pw_nar0, pw_nar1, nI_add, pw_sub, pw_mul, pw_and, pw_or, pw_andn, pw_shl1, pw_shl, pw_shr, pw_dv, nI_l, lN_i, Bool.false_eq_true, reduceCtorEq, if_false, if_true, ↓reduceIte, if_pos, if_neg, c1, c2, false_or, false_and]

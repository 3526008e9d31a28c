/-! ===== who is served ===== -/
set_option maxRecDepth 16384 in
theorem not_le32 {a b : Int32} : (¬ a ≤ b) = (b < a) := propext Int32.not_le
def mnf (K : Nat → Int32) (o b j : Nat) : Nat := if o.testBit j ∧ gv K (24 + j) = b then 1 else 0
def mn (K : Nat → Int32) (o i : Nat) : Nat := sumTo (gv K 5) (mnf K o (gv K (24 + i)))
def kp (K T : Nat → Int32) (z i : Nat) : Nat := match pF K T (2 ^ i) with
  | none => z
  | some p => pc p
def kk (K T A W : Nat → Int32) (o rule z i : Nat) : Int32 := if rule = 0 then -(A i) else if rule = 1 then -(W i) else if rule = 2 then nI (mn K o i) else nI (kp K T z i)
set_option maxRecDepth 16384 in
theorem pF_lt {K T : Nat → Int32} (H : RK K) {s p : Nat} (h : pF K T s = some p) : p < 4096 := by
  have hb := rk_b H
  have hn : ga K + 1 ≤ 4096 := by have := hb.2.2.2.2.2.2.2.2.2.1; omega
  have := best_lt hn h
  omega
set_option maxRecDepth 16384 in
theorem kp_le {K T : Nat → Int32} (H : RK K) (z i : Nat) : kp K T z i ≤ 12 ∨ kp K T z i = z := by
  unfold kp
  cases h : pF K T (2 ^ i) with
  | none => exact Or.inr rfl
  | some p => exact Or.inl (pc_le (pF_lt H h))
set_option maxRecDepth 16384 in
theorem kk_lt {K T A W : Nat → Int32} (H : RK K) (o rule i j : Nat) : (kk K T A W o rule 13 i < kk K T A W o rule 13 j) = (kk K T A W o rule 99 i < kk K T A W o rule 99 j) := by
  unfold kk
  by_cases h0 : rule = 0
  · rw [if_pos h0, if_pos h0, if_pos h0, if_pos h0]
  · rw [if_neg h0, if_neg h0, if_neg h0, if_neg h0]
    by_cases h1 : rule = 1
    · rw [if_pos h1, if_pos h1, if_pos h1, if_pos h1]
    · rw [if_neg h1, if_neg h1, if_neg h1, if_neg h1]
      by_cases h2 : rule = 2
      · rw [if_pos h2, if_pos h2, if_pos h2, if_pos h2]
      · rw [if_neg h2, if_neg h2, if_neg h2, if_neg h2]
        have key : ∀ i, (kp K T 13 i ≤ 12 ∧ kp K T 99 i = kp K T 13 i) ∨ (kp K T 13 i = 13 ∧ kp K T 99 i = 99) := by
          intro i
          unfold kp
          cases h : pF K T (2 ^ i) with
          | none => exact Or.inr ⟨rfl, rfl⟩
          | some p => exact Or.inl ⟨pc_le (pF_lt H h), rfl⟩
        have a := key i
        have b := key j
        rw [pw_ltI (by omega) (by omega), pw_ltI (by omega) (by omega)]
        apply propext
        omega
def fo2 (k : Nat → Int32) (n : Nat) : Option Nat → Option Nat
  | none => some n
  | some b => if k n < k b then some n else some b
def foR (k : Nat → Int32) (left : Nat) : Nat → Option Nat
  | 0 => none
  | n + 1 => if left.testBit n then fo2 k n (foR k left n) else foR k left n
set_option maxRecDepth 16384 in
theorem fo_some {k : Nat → Int32} {left : Nat} : ∀ {n b}, foR k left n = some b → b < n ∧ left.testBit b = true
  | 0, b, h => by cases h
  | n + 1, b, h => by
    rw [foR] at h
    by_cases hb : left.testBit n = true
    · rw [if_pos hb] at h
      cases hq : foR k left n with
      | none =>
        rw [hq, fo2] at h
        cases h
        exact ⟨by omega, hb⟩
      | some c =>
        have ih := fo_some hq
        rw [hq, fo2] at h
        by_cases hc : k n < k c
        · rw [if_pos hc] at h
          cases h
          exact ⟨by omega, hb⟩
        · rw [if_neg hc] at h
          cases h
          exact ⟨by omega, ih.2⟩
    · rw [if_neg hb] at h
      have ih := fo_some h
      exact ⟨by omega, ih.2⟩
set_option maxRecDepth 16384 in
theorem fo_none {k : Nat → Int32} {left : Nat} : ∀ {n}, foR k left n = none → ∀ i, i < n → left.testBit i = false
  | 0, _, i, hi => absurd hi (by omega)
  | n + 1, h, i, hi => by
    rw [foR] at h
    by_cases hb : left.testBit n = true
    · rw [if_pos hb] at h
      cases hq : foR k left n with
      | none => rw [hq, fo2] at h; cases h
      | some c =>
        rw [hq, fo2] at h
        by_cases hc : k n < k c
        · rw [if_pos hc] at h; cases h
        · rw [if_neg hc] at h; cases h
    · rw [if_neg hb] at h
      rcases (show i < n ∨ i = n by omega) with q | rfl
      · exact fo_none h i q
      · simpa using hb
set_option maxRecDepth 16384 in
theorem fo_congr {k k' : Nat → Int32} {left : Nat} : ∀ {n}, (∀ i j, i < n → j < n → left.testBit i = true → left.testBit j = true → (k i < k j) = (k' i < k' j)) → foR k left n = foR k' left n
  | 0, _ => rfl
  | n + 1, h => by
    rw [foR, foR, fo_congr (n := n) (fun i j hi hj => h i j (by omega) (by omega))]
    by_cases hb : left.testBit n = true
    · rw [if_pos hb, if_pos hb]
      cases hq : foR k' left n with
      | none => rfl
      | some c =>
        have hc := fo_some hq
        rw [fo2, fo2]
        have := h n c (by omega) (by omega) hb hc.2
        by_cases hz : k n < k c
        · rw [if_pos hz, if_pos (by rw [← this]; exact hz)]
        · rw [if_neg hz, if_neg (by rw [← this]; exact hz)]
    · rw [if_neg hb, if_neg hb]
def sv (K T k : Nat → Int32) : Nat → Nat → Nat → Nat
  | 0, _, s => s
  | m + 1, left, s => if left = 0 then s else sv K T k m (sdf left (2 ^ (foR k left (gv K 5)).getD 0)) (if tg K T (s ||| 2 ^ (foR k left (gv K 5)).getD 0) then s ||| 2 ^ (foR k left (gv K 5)).getD 0 else s)
set_option maxRecDepth 16384 in
theorem sv_z {K T k : Nat → Int32} {s : Nat} : ∀ m, sv K T k m 0 s = s
  | 0 => rfl
  | m + 1 => by rw [sv, if_pos rfl]
set_option maxRecDepth 16384 in
theorem sv_congr {K T k k' : Nat → Int32} : ∀ m left s, (∀ i j, i < gv K 5 → j < gv K 5 → left.testBit i = true → left.testBit j = true → (k i < k j) = (k' i < k' j)) → sv K T k m left s = sv K T k' m left s
  | 0, _, _, _ => rfl
  | m + 1, left, s, h => by
    rw [sv, sv, fo_congr h]
    by_cases h0 : left = 0
    · rw [if_pos h0, if_pos h0]
    · rw [if_neg h0, if_neg h0]
      refine sv_congr m _ _ (fun i j hi hj h1 h2 => ?_)
      rw [sdf_tb, Bool.and_eq_true] at h1 h2
      exact h i j hi hj h1.1 h2.1
set_option maxRecDepth 16384 in
theorem pc_rm {left f : Nat} (hl : left < 1024) (hf : f < 10) (hb : left.testBit f = true) : pc (sdf left (2 ^ f)) + 1 = pc left := pw_4096 (P := fun n => n < 1024 → ∀ f, f < 10 → n.testBit f = true → pc (sdf n (2 ^ f)) + 1 = pc n) (by decide +kernel) (by omega) hl f hf hb
set_option maxRecDepth 16384 in
theorem pc_pos {n : Nat} (hn : n < 4096) (h0 : n ≠ 0) : 0 < pc n := by
  have := pc_low hn (by omega)
  omega
set_option maxRecDepth 16384 in
theorem fo_is {K : Nat → Int32} {k : Nat → Int32} {left : Nat} (hl : left < 2 ^ gv K 5) (h0 : left ≠ 0) : ∃ f, foR k left (gv K 5) = some f ∧ f < gv K 5 ∧ left.testBit f = true := by
  cases h : foR k left (gv K 5) with
  | none =>
    exfalso
    obtain ⟨i, hi⟩ := Nat.exists_testBit_of_ne_zero h0
    have h1 := fo_none h
    rcases Nat.lt_or_ge i (gv K 5) with q | q
    · rw [h1 i q] at hi; cases hi
    · rw [lt_pow_iff.mp hl i q] at hi; cases hi
  | some f => exact ⟨f, rfl, fo_some h⟩
/- the rules' state, class -/
def SR (K A W : Nat → Int32) (o : Nat) (h : PH) : Prop := h.1 37 5 = nI o ∧ (∀ i, i < gv K 5 → h.1 38 i = W i) ∧ (∀ i, i < gv K 5 → h.1 39 i = A i)
set_option maxRecDepth 16384 in
theorem c_openOf {K T A W : Nat → Int32} {h : PH} {o i : Nat} (R : RC K T h) (S : SR K A W o h) (hi : i < gv K 5) (ho : o < 1024) : f_X7_openOf 37 (nI (gv K (24 + i))) h = some (nI (mn K o i), h) := by
  have H := R.1.1
  obtain ⟨b0, b1, b2, b3, b4, b5, b6, b7, b8, b9, b10⟩ := rk_b H
  have hW := H.2.2.2.2.2.2.2.2.2.2.2
  have s5 : h.1 3 5 = nI (gv K 5) := by rw [R.1.2.1.2.2.2.2.2.1]; exact (rk_e H).2.2.2.2.2.1
  have hby := R.2.2.2.2.2
  have o5 := S.1
  obtain ⟨⟨-, w0⟩, -, -⟩ := hW i hi
  unfold f_X7_openOf
  simp only [pw_lt, pw_lit]
  unfold mn
  generalize gv K (24 + i) = b at *
  refine lp_run (fun n => (nI (sumTo n (mnf K o b)), nI n)) (fun _ => h) (gv K 5) _ ?_ ?_ FU (fu_lt (by omega))
  · intro j hj rec
    obtain ⟨⟨w1, w2⟩, -, -⟩ := hW j hj
    have hb2 := hby j hj
    unfold b_X7_openOf_4
    by_cases h1 : gv K (24 + j) = b
    · rcases tf (o.testBit j) with h2 | h2
      · have e : mnf K o b j = 0 := if_neg (by rw [h2]; simp)
        simp (disch := omega) only [pw_lt, pw_cb, pw_cbx, pw_cbxr, pw_lit, pw_litL, pw_oi, pw_oim, pw_oi8, pw_m, pw_ldI, pw_ldL, pw_ldR, pw_stI, pw_stL, pw_nz, pw_ltI, pw_leI, pw_eqI, pw_eqm, pw_eqm2, pw_ltm, pw_mlt, pw_lem, pw_mle, pw_mm, pw_dec, pw_nar0, pw_nar1, nI_add, pw_sub, pw_mul, pw_and, pw_or, pw_andn, pw_shl1, pw_shl, pw_shr, pw_dv, nI_l, lN_i, Bool.false_eq_true, reduceCtorEq, if_false, if_true, ↓reduceIte, if_pos, if_neg, r_37_0, r_3_12, s5, hb2, w1, h1, o5, pw_tb, h2, sumTo, e, Nat.add_zero]
      · have e : mnf K o b j = 1 := if_pos ⟨h2, h1⟩
        simp (disch := omega) only [pw_lt, pw_cb, pw_cbx, pw_cbxr, pw_lit, pw_litL, pw_oi, pw_oim, pw_oi8, pw_m, pw_ldI, pw_ldL, pw_ldR, pw_stI, pw_stL, pw_nz, pw_ltI, pw_leI, pw_eqI, pw_eqm, pw_eqm2, pw_ltm, pw_mlt, pw_lem, pw_mle, pw_mm, pw_dec, pw_nar0, pw_nar1, nI_add, pw_sub, pw_mul, pw_and, pw_or, pw_andn, pw_shl1, pw_shl, pw_shr, pw_dv, nI_l, lN_i, Bool.false_eq_true, reduceCtorEq, if_false, if_true, ↓reduceIte, if_pos, if_neg, r_37_0, r_3_12, s5, hb2, w1, h1, o5, pw_tb, h2, sumTo, e]
    · have e : mnf K o b j = 0 := if_neg (fun q => h1 q.2)
      simp (disch := omega) only [pw_lt, pw_cb, pw_cbx, pw_cbxr, pw_lit, pw_litL, pw_oi, pw_oim, pw_oi8, pw_m, pw_ldI, pw_ldL, pw_ldR, pw_stI, pw_stL, pw_nz, pw_ltI, pw_leI, pw_eqI, pw_eqm, pw_eqm2, pw_ltm, pw_mlt, pw_lem, pw_mle, pw_mm, pw_dec, pw_nar0, pw_nar1, nI_add, pw_sub, pw_mul, pw_and, pw_or, pw_andn, pw_shl1, pw_shl, pw_shr, pw_dv, nI_l, lN_i, Bool.false_eq_true, reduceCtorEq, if_false, if_true, ↓reduceIte, if_pos, if_neg, r_37_0, r_3_12, s5, hb2, w1, h1, sumTo, e, Nat.add_zero]
  · intro rec
    unfold b_X7_openOf_4
    simp (disch := omega) only [pw_lt, pw_cb, pw_cbx, pw_cbxr, pw_lit, pw_litL, pw_oi, pw_oim, pw_oi8, pw_m, pw_ldI, pw_ldL, pw_ldR, pw_stI, pw_stL, pw_nz, pw_ltI, pw_leI, pw_eqI, pw_eqm, pw_eqm2, pw_ltm, pw_mlt, pw_lem, pw_mle, pw_mm, pw_dec, pw_nar0, pw_nar1, nI_add, pw_sub, pw_mul, pw_and, pw_or, pw_andn, pw_shl1, pw_shl, pw_shr, pw_dv, nI_l, lN_i, Bool.false_eq_true, reduceCtorEq, if_false, if_true, ↓reduceIte, if_pos, if_neg, r_37_0, s5]
set_option maxRecDepth 16384 in
theorem c_turnOf {K T A W : Nat → Int32} {h : PH} {o i rule : Nat} (R : RC K T h) (S : SR K A W o h) (hi : i < gv K 5) (ho : o < 1024) (hr : rule < 4) : f_X7_turnOf 37 (nI i) (nI rule) h = some (kk K T A W o rule 13 i, h) := by
  have H := R.1.1
  obtain ⟨b0, b1, b2, b3, b4, b5, b6, b7, b8, b9, b10⟩ := rk_b H
  have hW := H.2.2.2.2.2.2.2.2.2.2.2
  obtain ⟨⟨w1, w2⟩, -, -⟩ := hW i hi
  have hby := R.2.2.2.2.2 i hi
  obtain ⟨o5, s8, s9⟩ := id S
  have s8 := s8 i hi
  have s9 := s9 i hi
  obtain ⟨q1, q2⟩ := pow_lt10 hi b6
  have v := R.2.1.2.2 (2 ^ i) q1
  rw [pFo_pF H] at v
  unfold f_X7_turnOf kk
  by_cases h0 : rule = 0
  · subst h0
    simp (disch := omega) only [pw_lt, pw_cb, pw_cbx, pw_cbxr, pw_lit, pw_litL, pw_oi, pw_oim, pw_oi8, pw_m, pw_ldI, pw_ldL, pw_ldR, pw_stI, pw_stL, pw_nz, pw_ltI, pw_leI, pw_eqI, pw_eqm, pw_eqm2, pw_ltm, pw_mlt, pw_lem, pw_mle, pw_mm, pw_dec, pw_nar0, pw_nar1, nI_add, pw_sub, pw_mul, pw_and, pw_or, pw_andn, pw_shl1, pw_shl, pw_shr, pw_dv, nI_l, lN_i, Bool.false_eq_true, reduceCtorEq, if_false, if_true, ↓reduceIte, if_pos, if_neg, r_37_4, s9]
  · by_cases h1 : rule = 1
    · subst h1
      simp (disch := omega) only [pw_lt, pw_cb, pw_cbx, pw_cbxr, pw_lit, pw_litL, pw_oi, pw_oim, pw_oi8, pw_m, pw_ldI, pw_ldL, pw_ldR, pw_stI, pw_stL, pw_nz, pw_ltI, pw_leI, pw_eqI, pw_eqm, pw_eqm2, pw_ltm, pw_mlt, pw_lem, pw_mle, pw_mm, pw_dec, pw_nar0, pw_nar1, nI_add, pw_sub, pw_mul, pw_and, pw_or, pw_andn, pw_shl1, pw_shl, pw_shr, pw_dv, nI_l, lN_i, Bool.false_eq_true, reduceCtorEq, if_false, if_true, ↓reduceIte, if_pos, if_neg, r_37_3, s8]
    · by_cases h2 : rule = 2
      · subst h2
        have hoo := c_openOf R S hi ho
        simp (disch := omega) only [pw_lt, pw_cb, pw_cbx, pw_cbxr, pw_lit, pw_litL, pw_oi, pw_oim, pw_oi8, pw_m, pw_ldI, pw_ldL, pw_ldR, pw_stI, pw_stL, pw_nz, pw_ltI, pw_leI, pw_eqI, pw_eqm, pw_eqm2, pw_ltm, pw_mlt, pw_lem, pw_mle, pw_mm, pw_dec, pw_nar0, pw_nar1, nI_add, pw_sub, pw_mul, pw_and, pw_or, pw_andn, pw_shl1, pw_shl, pw_shr, pw_dv, nI_l, lN_i, Bool.false_eq_true, reduceCtorEq, if_false, if_true, ↓reduceIte, if_pos, if_neg, r_37_0, r_3_12, hby, w1, hoo]
      · have hlp : f_X2_leastPlan 33 (nI (2 ^ i)) h = some (oI (pF K T (2 ^ i)), h) := by
          unfold f_X2_leastPlan
          simp (disch := omega) only [pw_lt, pw_cb, pw_cbx, pw_cbxr, pw_lit, pw_litL, pw_oi, pw_oim, pw_oi8, pw_m, pw_ldI, pw_ldL, pw_ldR, pw_stI, pw_stL, pw_nz, pw_ltI, pw_leI, pw_eqI, pw_eqm, pw_eqm2, pw_ltm, pw_mlt, pw_lem, pw_mle, pw_mm, pw_dec, pw_nar0, pw_nar1, nI_add, pw_sub, pw_mul, pw_and, pw_or, pw_andn, pw_shl1, pw_shl, pw_shr, pw_dv, nI_l, lN_i, Bool.false_eq_true, reduceCtorEq, if_false, if_true, ↓reduceIte, if_pos, if_neg, r_33_5, v]
        unfold kp
        cases hb : pF K T (2 ^ i) with
        | none =>
          rw [hb] at hlp
          simp (disch := omega) only [pw_lt, pw_cb, pw_cbx, pw_cbxr, pw_lit, pw_litL, pw_oi, pw_oim, pw_oi8, pw_m, pw_ldI, pw_ldL, pw_ldR, pw_stI, pw_stL, pw_nz, pw_ltI, pw_leI, pw_eqI, pw_eqm, pw_eqm2, pw_ltm, pw_mlt, pw_lem, pw_mle, pw_mm, pw_dec, pw_nar0, pw_nar1, nI_add, pw_sub, pw_mul, pw_and, pw_or, pw_andn, pw_shl1, pw_shr, pw_dv, nI_l, lN_i, Bool.false_eq_true, reduceCtorEq, if_false, if_true, ↓reduceIte, if_pos, if_neg, r_37_2, hlp, oI, h0, h1, h2]
        | some p =>
          rw [hb] at hlp
          have := pF_lt H hb
          simp (disch := omega) only [pw_lt, pw_cb, pw_cbx, pw_cbxr, pw_lit, pw_litL, pw_oi, pw_oim, pw_oi8, pw_m, pw_ldI, pw_ldL, pw_ldR, pw_stI, pw_stL, pw_nz, pw_ltI, pw_leI, pw_eqI, pw_eqm, pw_eqm2, pw_ltm, pw_mlt, pw_lem, pw_mle, pw_mm, pw_dec, pw_nar0, pw_nar1, nI_add, pw_sub, pw_mul, pw_and, pw_or, pw_andn, pw_shl1, pw_shr, pw_dv, nI_l, lN_i, Bool.false_eq_true, reduceCtorEq, if_false, if_true, ↓reduceIte, if_pos, if_neg, r_37_2, hlp, oI, h0, h1, h2, e_bitCount]
def tO (k : Nat → Int32) : Option Nat → Int32
  | none => nI 0
  | some b => k b
set_option maxRecDepth 16384 in
theorem c_firstOf {K T A W : Nat → Int32} {h : PH} {o left rule : Nat} (R : RC K T h) (S : SR K A W o h) (ho : o < 1024) (hl : left < 1024) (hr : rule < 4) : f_X7_firstOf 37 (nI left) (nI rule) h = some (oI (foR (kk K T A W o rule 13) left (gv K 5)), h) := by
  have H := R.1.1
  obtain ⟨b0, b1, b2, b3, b4, b5, b6, b7, b8, b9, b10⟩ := rk_b H
  have s5 : h.1 3 5 = nI (gv K 5) := by rw [R.1.2.1.2.2.2.2.2.1]; exact (rk_e H).2.2.2.2.2.1
  have ht := fun i (hi : i < gv K 5) => c_turnOf (i := i) R S hi ho hr
  generalize kk K T A W o rule 13 = k at *
  unfold f_X7_firstOf
  simp only [pw_lt, pw_lit, pw_m]
  refine lp_run (fun n => (oI (foR k left n), tO k (foR k left n), nI n)) (fun _ => h) (gv K 5) _ ?_ ?_ FU (fu_lt (by omega))
  · intro i hi rec
    have ht := ht i hi
    unfold b_X7_firstOf_8
    rcases tf (left.testBit i) with h1 | h1
    · simp (disch := omega) only [pw_lt, pw_cb, pw_cbx, pw_cbxr, pw_lit, pw_litL, pw_oi, pw_oim, pw_oi8, pw_m, pw_ldI, pw_ldL, pw_ldR, pw_stI, pw_stL, pw_nz, pw_ltI, pw_leI, pw_eqI, pw_eqm, pw_eqm2, pw_ltm, pw_mlt, pw_lem, pw_mle, pw_mm, pw_dec, pw_nar0, pw_nar1, nI_add, pw_sub, pw_mul, pw_and, pw_or, pw_andn, pw_shl1, pw_shl, pw_shr, pw_dv, nI_l, lN_i, Bool.false_eq_true, reduceCtorEq, if_false, if_true, ↓reduceIte, if_pos, if_neg, r_37_0, s5, pw_tb, h1, foR]
    · cases hb : foR k left i with
      | none => simp (disch := omega) only [pw_lt, pw_cb, pw_cbx, pw_cbxr, pw_lit, pw_litL, pw_oi, pw_oim, pw_oi8, pw_m, pw_ldI, pw_ldL, pw_ldR, pw_stI, pw_stL, pw_nz, pw_ltI, pw_leI, pw_eqI, pw_eqm, pw_eqm2, pw_ltm, pw_mlt, pw_lem, pw_mle, pw_mm, pw_dec, pw_nar0, pw_nar1, nI_add, pw_sub, pw_mul, pw_and, pw_or, pw_andn, pw_shl1, pw_shl, pw_shr, pw_dv, nI_l, lN_i, Bool.false_eq_true, reduceCtorEq, if_false, if_true, ↓reduceIte, if_pos, if_neg, r_37_0, s5, pw_tb, h1, foR, fo2, hb, ht, oI, tO]
      | some b =>
        have hbl := fo_some hb
        by_cases h2 : k i < k b
        · have h3 : ¬ k b ≤ k i := by rw [not_le32]; exact h2
          simp (disch := omega) only [pw_lt, pw_cb, pw_cbx, pw_cbxr, pw_lit, pw_litL, pw_oi, pw_oim, pw_oi8, pw_m, pw_ldI, pw_ldL, pw_ldR, pw_stI, pw_stL, pw_nz, pw_ltI, pw_leI, pw_eqI, pw_eqm, pw_eqm2, pw_ltm, pw_mlt, pw_lem, pw_mle, pw_mm, pw_dec, pw_nar0, pw_nar1, nI_add, pw_sub, pw_mul, pw_and, pw_or, pw_andn, pw_shl1, pw_shl, pw_shr, pw_dv, nI_l, lN_i, Bool.false_eq_true, reduceCtorEq, if_false, if_true, ↓reduceIte, if_pos, if_neg, r_37_0, s5, pw_tb, h1, foR, fo2, hb, ht, oI, tO, h2, h3]
        · have h3 : k b ≤ k i := Int32.not_lt.mp h2
          simp (disch := omega) only [pw_lt, pw_cb, pw_cbx, pw_cbxr, pw_lit, pw_litL, pw_oi, pw_oim, pw_oi8, pw_m, pw_ldI, pw_ldL, pw_ldR, pw_stI, pw_stL, pw_nz, pw_ltI, pw_leI, pw_eqI, pw_eqm, pw_eqm2, pw_ltm, pw_mlt, pw_lem, pw_mle, pw_mm, pw_dec, pw_nar0, pw_nar1, nI_add, pw_sub, pw_mul, pw_and, pw_or, pw_andn, pw_shl1, pw_shl, pw_shr, pw_dv, nI_l, lN_i, Bool.false_eq_true, reduceCtorEq, if_false, if_true, ↓reduceIte, if_pos, if_neg, r_37_0, s5, pw_tb, h1, foR, fo2, hb, ht, oI, tO, h2, h3]
  · intro rec
    unfold b_X7_firstOf_8
    simp (disch := omega) only [pw_lt, pw_cb, pw_cbx, pw_cbxr, pw_lit, pw_litL, pw_oi, pw_oim, pw_oi8, pw_m, pw_ldI, pw_ldL, pw_ldR, pw_stI, pw_stL, pw_nz, pw_ltI, pw_leI, pw_eqI, pw_eqm, pw_eqm2, pw_ltm, pw_mlt, pw_lem, pw_mle, pw_mm, pw_dec, pw_nar0, pw_nar1, nI_add, pw_sub, pw_mul, pw_and, pw_or, pw_andn, pw_shl1, pw_shl, pw_shr, pw_dv, nI_l, lN_i, Bool.false_eq_true, reduceCtorEq, if_false, if_true, ↓reduceIte, if_pos, if_neg, r_37_0, s5]
set_option maxRecDepth 16384 in
theorem c_serve {K T A W : Nat → Int32} {h : PH} {o rule : Nat} (R : RC K T h) (S : SR K A W o h) (ho : o < 2 ^ gv K 5) (hr : rule < 4) : f_X7_serve 37 (nI rule) h = some (nI (sv K T (kk K T A W o rule 13) 10 o 0), h) := by
  have H := R.1.1
  obtain ⟨b0, b1, b2, b3, b4, b5, b6, b7, b8, b9, b10⟩ := rk_b H
  have hp2 : 2 ^ gv K 5 ≤ 2 ^ 10 := Nat.pow_le_pow_right (by decide) b6
  have e1024 : 2 ^ 10 = 1024 := rfl
  have s5 : h.1 3 5 = nI (gv K 5) := by rw [R.1.2.1.2.2.2.2.2.1]; exact (rk_e H).2.2.2.2.2.1
  have hf := fun left (hl : left < 1024) => c_firstOf (left := left) R S (by omega) hl hr
  have o5 := S.1
  have hpc : pc o ≤ gv K 5 := by
    have key : ∀ w, w < 11 → ∀ o, o < 2 ^ w → pc o ≤ w := by decide +kernel
    exact key (gv K 5) (by omega) o ho
  generalize kk K T A W o rule 13 = k at *
  unfold f_X7_serve
  simp (disch := omega) only [pw_lt, pw_cb, pw_cbx, pw_cbxr, pw_lit, pw_litL, pw_oi, pw_oim, pw_oi8, pw_m, pw_ldI, pw_ldL, pw_ldR, pw_stI, pw_stL, pw_nz, pw_ltI, pw_leI, pw_eqI, pw_eqm, pw_eqm2, pw_ltm, pw_mlt, pw_lem, pw_mle, pw_mm, pw_dec, pw_nar0, pw_nar1, nI_add, pw_sub, pw_mul, pw_and, pw_or, pw_andn, pw_shl1, pw_shl, pw_shr, pw_dv, nI_l, lN_i, Bool.false_eq_true, reduceCtorEq, if_false, if_true, ↓reduceIte, o5]
  have key : ∀ n left s m N, left < 2 ^ gv K 5 → s < 2 ^ gv K 5 → n ≤ gv K 5 → pc left ≤ n → pc left ≤ m → n < N → lp (b_X7_serve_10 37 (nI rule) fun y4 h5 => some (y4, h5)) N (nI left, nI s, nI (gv K 5 - n)) h = some (nI (sv K T k m left s), h) := by
    intro n
    induction n with
    | zero =>
      intro left s m N hl hs hn hp hm hN
      obtain ⟨M, rfl⟩ : ∃ M, N = M + 1 := ⟨N - 1, by omega⟩
      show b_X7_serve_10 37 (nI rule) _ (lp _ M) _ h = _
      have h0 : left = 0 := by
        rcases Nat.eq_zero_or_pos left with z | z
        · exact z
        · have := pc_pos (n := left) (by omega) (by omega)
          omega
      subst h0
      unfold b_X7_serve_10
      simp (disch := omega) only [pw_lt, pw_cb, pw_cbx, pw_cbxr, pw_lit, pw_litL, pw_oi, pw_oim, pw_oi8, pw_m, pw_ldI, pw_ldL, pw_ldR, pw_stI, pw_stL, pw_nz, pw_ltI, pw_leI, pw_eqI, pw_eqm, pw_eqm2, pw_ltm, pw_mlt, pw_lem, pw_mle, pw_mm, pw_dec, pw_nar0, pw_nar1, nI_add, pw_sub, pw_mul, pw_and, pw_or, pw_andn, pw_shl1, pw_shl, pw_shr, pw_dv, nI_l, lN_i, Bool.false_eq_true, reduceCtorEq, if_false, if_true, ↓reduceIte, if_pos, if_neg, r_37_0, s5, Nat.sub_zero, Nat.le_refl, sv_z]
    | succ n ih =>
      intro left s m N hl hs hn hp hm hN
      obtain ⟨M, rfl⟩ : ∃ M, N = M + 1 := ⟨N - 1, by omega⟩
      show b_X7_serve_10 37 (nI rule) _ (lp (b_X7_serve_10 37 (nI rule) fun y4 h5 => some (y4, h5)) M) _ h = _
      have ih := fun left s m (a : left < 2 ^ gv K 5) (b : s < 2 ^ gv K 5) (c : pc left ≤ n) (d : pc left ≤ m) => ih left s m M a b (by omega) c d (by omega)
      generalize lp (b_X7_serve_10 37 (nI rule) fun y4 h5 => some (y4, h5)) M = rec at *
      have e3 : gv K 5 - (n + 1) + 1 = gv K 5 - n := by omega
      unfold b_X7_serve_10
      by_cases h0 : left = 0
      · subst h0
        simp (disch := omega) only [pw_lt, pw_cb, pw_cbx, pw_cbxr, pw_lit, pw_litL, pw_oi, pw_oim, pw_oi8, pw_m, pw_ldI, pw_ldL, pw_ldR, pw_stI, pw_stL, pw_nz, pw_ltI, pw_leI, pw_eqI, pw_eqm, pw_eqm2, pw_ltm, pw_mlt, pw_lem, pw_mle, pw_mm, pw_dec, pw_nar0, pw_nar1, nI_add, pw_sub, pw_mul, pw_and, pw_or, pw_andn, pw_shl1, pw_shl, pw_shr, pw_dv, nI_l, lN_i, Bool.false_eq_true, reduceCtorEq, if_false, if_true, ↓reduceIte, if_pos, if_neg, r_37_0, s5, sv_z]
      · have hpp := pc_pos (n := left) (by omega) h0
        obtain ⟨m, rfl⟩ : ∃ q, m = q + 1 := ⟨m - 1, by omega⟩
        obtain ⟨f, hfo, hfl, hft⟩ := fo_is (k := k) hl h0
        have hf := hf left (by omega)
        rw [hfo] at hf
        have hsd := sdf_le left (2 ^ f)
        have hrm := pc_rm (by omega) (by omega) hft
        have hor : s ||| 2 ^ f < 2 ^ gv K 5 := Nat.or_lt_two_pow hs (Nat.pow_lt_pow_right (by decide) hfl)
        have v := R.2.1.2.2 (s ||| 2 ^ f) hor
        rw [pFo_pF H] at v
        have hlp : f_X2_leastPlan 33 (nI (s ||| 2 ^ f)) h = some (oI (pF K T (s ||| 2 ^ f)), h) := by
          unfold f_X2_leastPlan
          simp (disch := omega) only [pw_lt, pw_cb, pw_cbx, pw_cbxr, pw_lit, pw_litL, pw_oi, pw_oim, pw_oi8, pw_m, pw_ldI, pw_ldL, pw_ldR, pw_stI, pw_stL, pw_nz, pw_ltI, pw_leI, pw_eqI, pw_eqm, pw_eqm2, pw_ltm, pw_mlt, pw_lem, pw_mle, pw_mm, pw_dec, pw_nar0, pw_nar1, nI_add, pw_sub, pw_mul, pw_and, pw_or, pw_andn, pw_shl1, pw_shl, pw_shr, pw_dv, nI_l, lN_i, Bool.false_eq_true, reduceCtorEq, if_false, if_true, ↓reduceIte, if_pos, if_neg, r_33_5, v]
        rw [sv, if_neg h0, hfo]
        simp only [Option.getD_some]
        unfold tg
        cases hb : pF K T (s ||| 2 ^ f) with
        | none =>
          rw [hb] at hlp
          simp (disch := omega) only [pw_lt, pw_cb, pw_cbx, pw_cbxr, pw_lit, pw_litL, pw_oi, pw_oim, pw_oi8, pw_m, pw_ldI, pw_ldL, pw_ldR, pw_stI, pw_stL, pw_nz, pw_ltI, pw_leI, pw_eqI, pw_eqm, pw_eqm2, pw_ltm, pw_mlt, pw_lem, pw_mle, pw_mm, pw_dec, pw_nar0, pw_nar1, nI_add, pw_sub, pw_mul, pw_and, pw_or, pw_andn, pw_shl1, pw_shr, pw_dv, nI_l, lN_i, Bool.false_eq_true, reduceCtorEq, if_false, if_true, ↓reduceIte, if_pos, if_neg, r_37_0, r_37_2, s5, hf, hlp, oI, e3, Option.isSome_none]
          exact ih _ _ m (by omega) hs (by omega) (by omega)
        | some p =>
          rw [hb] at hlp
          have hpl := pF_lt H hb
          simp (disch := omega) only [pw_lt, pw_cb, pw_cbx, pw_cbxr, pw_lit, pw_litL, pw_oi, pw_oim, pw_oi8, pw_m, pw_ldI, pw_ldL, pw_ldR, pw_stI, pw_stL, pw_nz, pw_ltI, pw_leI, pw_eqI, pw_eqm, pw_eqm2, pw_ltm, pw_mlt, pw_lem, pw_mle, pw_mm, pw_dec, pw_nar0, pw_nar1, nI_add, pw_sub, pw_mul, pw_and, pw_or, pw_andn, pw_shl1, pw_shr, pw_dv, nI_l, lN_i, Bool.false_eq_true, reduceCtorEq, if_false, if_true, ↓reduceIte, if_pos, if_neg, r_37_0, r_37_2, s5, hf, hlp, oI, e3, Option.isSome_some]
          exact ih _ _ m (by omega) hor (by omega) (by omega)
  have hz := Nat.two_pow_pos (gv K 5)
  have hp10 : pc o ≤ 10 := by omega
  have := key (gv K 5) o 0 10 FU ho hz (Nat.le_refl _) hpc hp10 (fu_lt (by omega))
  rw [Nat.sub_self] at this
  exact this

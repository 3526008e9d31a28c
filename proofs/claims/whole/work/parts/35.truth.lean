/-! ===== truth: steps, their types, what they come to ===== -/
def iI (v : Int) : Int32 := Int32.ofInt v
def iL (v : Int) : Int64 := Int64.ofInt v
set_option maxRecDepth 16384 in
theorem iI_toInt {v : Int} (h1 : -2147483648 ≤ v) (h2 : v < 2147483648) : (iI v).toInt = v := by
  unfold iI
  have e : Int32.size = 4294967296 := rfl
  rw [Int32.toInt_ofInt]
  exact Int.bmod_eq_of_le (by omega) (by omega)
set_option maxRecDepth 16384 in
theorem iL_toInt {v : Int} (h1 : -9223372036854775808 ≤ v) (h2 : v < 9223372036854775808) : (iL v).toInt = v := by
  unfold iL
  have e : Int64.size = 18446744073709551616 := rfl
  rw [Int64.toInt_ofInt]
  exact Int.bmod_eq_of_le (by omega) (by omega)
set_option maxRecDepth 16384 in
theorem iI_nat (n : Nat) : iI (n : Int) = nI n := by
  unfold iI nI
  exact Int32.ofInt_eq_ofNat
set_option maxRecDepth 16384 in
theorem iI_l {v : Int} (h1 : -2147483648 ≤ v) (h2 : v < 2147483648) : (iI v).toInt64 = iL v := by
  apply Int64.toInt_inj.mp
  rw [Int32.toInt_toInt64, iI_toInt h1 h2, iL_toInt (by omega) (by omega)]
set_option maxRecDepth 16384 in
theorem iL_i {v : Int} (h1 : -2147483648 ≤ v) (h2 : v < 2147483648) : (iL v).toInt32 = iI v := by
  apply Int32.toInt_inj.mp
  rw [Int64.toInt_toInt32, iL_toInt (by omega) (by omega), iI_toInt h1 h2]
  exact Int.bmod_eq_of_le (by omega) (by omega)
set_option maxRecDepth 16384 in
theorem iL_add {a b : Int} (h1 : -4000000000000 ≤ a) (h2 : a ≤ 4000000000000) (h3 : -4000000000000 ≤ b) (h4 : b ≤ 4000000000000) : iL a + iL b = iL (a + b) := by
  apply Int64.toInt_inj.mp
  rw [Int64.toInt_add, iL_toInt (by omega) (by omega), iL_toInt (by omega) (by omega), iL_toInt (by omega) (by omega)]
  exact Int.bmod_eq_of_le (by omega) (by omega)
set_option maxRecDepth 16384 in
theorem iL_sub {a b : Int} (h1 : -4000000000000 ≤ a) (h2 : a ≤ 4000000000000) (h3 : -4000000000000 ≤ b) (h4 : b ≤ 4000000000000) : iL a - iL b = iL (a - b) := by
  apply Int64.toInt_inj.mp
  rw [Int64.toInt_sub, iL_toInt (by omega) (by omega), iL_toInt (by omega) (by omega), iL_toInt (by omega) (by omega)]
  exact Int.bmod_eq_of_le (by omega) (by omega)
set_option maxRecDepth 16384 in
theorem mul_bd {a b : Int} (h1 : -1000000 ≤ a) (h2 : a ≤ 1000000) (h3 : -1000000 ≤ b) (h4 : b ≤ 1000000) : -1000000000000 ≤ a * b ∧ a * b ≤ 1000000000000 := by
  have ha : a.natAbs ≤ 1000000 := by omega
  have hb : b.natAbs ≤ 1000000 := by omega
  have := Nat.mul_le_mul ha hb
  rw [← Int.natAbs_mul] at this
  omega
set_option maxRecDepth 16384 in
theorem iL_mul {a b : Int} (h1 : -1000000 ≤ a) (h2 : a ≤ 1000000) (h3 : -1000000 ≤ b) (h4 : b ≤ 1000000) : iL a * iL b = iL (a * b) := by
  have := mul_bd h1 h2 h3 h4
  apply Int64.toInt_inj.mp
  rw [Int64.toInt_mul, iL_toInt (by omega) (by omega), iL_toInt (by omega) (by omega), iL_toInt (by omega) (by omega)]
  exact Int.bmod_eq_of_le (by omega) (by omega)
set_option maxRecDepth 16384 in
theorem iL_lt {a b : Int} (h1 : -4000000000000 ≤ a) (h2 : a ≤ 4000000000000) (h3 : -4000000000000 ≤ b) (h4 : b ≤ 4000000000000) : (iL a < iL b) = (a < b) := by
  rw [Int64.lt_iff_toInt_lt, iL_toInt (by omega) (by omega), iL_toInt (by omega) (by omega)]
set_option maxRecDepth 16384 in
theorem iL_le {a b : Int} (h1 : -4000000000000 ≤ a) (h2 : a ≤ 4000000000000) (h3 : -4000000000000 ≤ b) (h4 : b ≤ 4000000000000) : (iL a ≤ iL b) = (a ≤ b) := by
  rw [Int64.le_iff_toInt_le, iL_toInt (by omega) (by omega), iL_toInt (by omega) (by omega)]
set_option maxRecDepth 16384 in
theorem iL_eq {a b : Int} (h1 : -4000000000000 ≤ a) (h2 : a ≤ 4000000000000) (h3 : -4000000000000 ≤ b) (h4 : b ≤ 4000000000000) : (iL a = iL b) = (a = b) := by
  refine propext ⟨fun e => ?_, fun e => by rw [e]⟩
  have e := congrArg Int64.toInt e
  rw [iL_toInt (by omega) (by omega), iL_toInt (by omega) (by omega)] at e
  exact e
def bd (v : Int) : Int := if v < -1000000 then -1000000 else if 1000000 < v then 1000000 else v
set_option maxRecDepth 16384 in
theorem bd_b (v : Int) : -1000000 ≤ bd v ∧ bd v ≤ 1000000 := by
  unfold bd
  by_cases h : v < -1000000
  · rw [if_pos h]; omega
  · rw [if_neg h]
    by_cases h2 : 1000000 < v
    · rw [if_pos h2]; omega
    · rw [if_neg h2]; omega
set_option maxRecDepth 16384 in
theorem i6 : (1000000 : Int64) = iL 1000000 := by decide +kernel
set_option maxRecDepth 16384 in
theorem i6m : (-1000000 : Int64) = iL (-1000000) := by decide +kernel
set_option maxRecDepth 16384 in
theorem i6i : (1000000 : Int32) = iI 1000000 := by decide +kernel
set_option maxRecDepth 16384 in
theorem i6mi : (-1000000 : Int32) = iI (-1000000) := by decide +kernel
set_option maxRecDepth 16384 in
theorem l0 : (0 : Int64) = iL 0 := by decide +kernel
set_option maxRecDepth 16384 in
theorem l1 : (1 : Int64) = iL 1 := by decide +kernel
set_option maxRecDepth 16384 in
theorem e_bound {v : Int} {h : PH} (h1 : -4000000000000 ≤ v) (h2 : v ≤ 4000000000000) : f_X12_bound (iL v) h = some (iI (bd v), h) := by
  unfold f_X12_bound
  rw [i6m, i6]
  have e1 : (if iL v < iL 1000000 then iL v else iL 1000000) = iL (if v < 1000000 then v else 1000000) := by
    simp only [iL_lt h1 h2 (show (-4000000000000 : Int) ≤ 1000000 by decide) (show (1000000 : Int) ≤ 4000000000000 by decide)]
    by_cases h : v < 1000000
    · rw [if_pos h, if_pos h]
    · rw [if_neg h, if_neg h]
  rw [e1]
  have e2 : ∀ u : Int, -4000000000000 ≤ u → u ≤ 4000000000000 → (if iL u < iL (-1000000) then iL (-1000000) else iL u) = iL (if u < -1000000 then -1000000 else u) := by
    intro u a b
    simp only [iL_lt a b (show (-4000000000000 : Int) ≤ -1000000 by decide) (show (-1000000 : Int) ≤ 4000000000000 by decide)]
    by_cases h : u < -1000000
    · rw [if_pos h, if_pos h]
    · rw [if_neg h, if_neg h]
  have e3 : (if (if v < 1000000 then v else 1000000) < -1000000 then -1000000 else (if v < 1000000 then v else 1000000)) = bd v := by
    unfold bd
    by_cases c1 : v < 1000000
    · rw [if_pos c1]
      by_cases c2 : v < -1000000
      · rw [if_pos c2, if_pos c2]
      · rw [if_neg c2, if_neg c2, if_neg (by omega)]
    · rw [if_neg c1, if_neg (by omega), if_neg (by omega)]
      by_cases c3 : 1000000 < v
      · rw [if_pos c3]
      · rw [if_neg c3]; omega
  rw [e2 _ (by split <;> omega) (by split <;> omega), e3, iL_i (by have := bd_b v; omega) (by have := bd_b v; omega)]
def bop (s : Nat) (a b : Int) : Int := if s = 10 then bd (a + b) else if s = 11 then bd (a - b) else if s = 12 then bd (a * b) else if s = 13 then (if a = b then 1 else 0) else if s = 14 then (if a < b then 1 else 0) else if s = 15 then (if b < a then 1 else 0) else if s = 16 then (if 1 < a + b then 1 else 0) else (if 0 < a + b then 1 else 0)
set_option maxRecDepth 16384 in
theorem bop_10 (a b : Int) : bop 10 a b = (bd (a + b)) := by
  unfold bop
  rw [if_pos rfl]
set_option maxRecDepth 16384 in
theorem bop_11 (a b : Int) : bop 11 a b = (bd (a - b)) := by
  unfold bop
  rw [if_neg (by decide), if_pos rfl]
set_option maxRecDepth 16384 in
theorem bop_12 (a b : Int) : bop 12 a b = (bd (a * b)) := by
  unfold bop
  rw [if_neg (by decide), if_neg (by decide), if_pos rfl]
set_option maxRecDepth 16384 in
theorem bop_13 (a b : Int) : bop 13 a b = (if a = b then 1 else 0) := by
  unfold bop
  rw [if_neg (by decide), if_neg (by decide), if_neg (by decide), if_pos rfl]
set_option maxRecDepth 16384 in
theorem bop_14 (a b : Int) : bop 14 a b = (if a < b then 1 else 0) := by
  unfold bop
  rw [if_neg (by decide), if_neg (by decide), if_neg (by decide), if_neg (by decide), if_pos rfl]
set_option maxRecDepth 16384 in
theorem bop_15 (a b : Int) : bop 15 a b = (if b < a then 1 else 0) := by
  unfold bop
  rw [if_neg (by decide), if_neg (by decide), if_neg (by decide), if_neg (by decide), if_neg (by decide), if_pos rfl]
set_option maxRecDepth 16384 in
theorem bop_16 (a b : Int) : bop 16 a b = (if 1 < a + b then 1 else 0) := by
  unfold bop
  rw [if_neg (by decide), if_neg (by decide), if_neg (by decide), if_neg (by decide), if_neg (by decide), if_neg (by decide), if_pos rfl]
set_option maxRecDepth 16384 in
theorem bop_17 (a b : Int) : bop 17 a b = (if 0 < a + b then 1 else 0) := by
  unfold bop
  rw [if_neg (by decide), if_neg (by decide), if_neg (by decide), if_neg (by decide), if_neg (by decide), if_neg (by decide), if_neg (by decide)]
set_option maxRecDepth 16384 in
theorem ii0 : iI 0 = nI 0 := iI_nat 0
set_option maxRecDepth 16384 in
theorem ii1 : iI 1 = nI 1 := iI_nat 1
def VB (v : Int) : Prop := -1000000 ≤ v ∧ v ≤ 1000000
set_option maxRecDepth 16384 in
theorem e_done {s : Nat} {a b : Int} {h : PH} (hs : 10 ≤ s) (hs2 : s ≤ 17) (ha : VB a) (hb : VB b) : f_X12_done (nI s) (iL a) (iL b) h = some (iI (bop s a b), h) := by
  obtain ⟨a1, a2⟩ := ha
  obtain ⟨b1, b2⟩ := hb
  have hm := mul_bd a1 a2 b1 b2
  rcases (show s = 10 ∨ s = 11 ∨ s = 12 ∨ s = 13 ∨ s = 14 ∨ s = 15 ∨ s = 16 ∨ s = 17 by omega) with rfl | rfl | rfl | rfl | rfl | rfl | rfl | rfl
  · unfold f_X12_done
    rw [show (nI 10).toInt = 10 from by decide +kernel]
    rw [if_neg (by decide)]
    simp only [show ((10 : Int) - 10).toNat = 0 from rfl, List.getD_cons_succ, List.getD_cons_zero, pw_lt]
    rw [iL_add (by omega) (by omega) (by omega) (by omega), e_bound (by omega) (by omega), bop_10]
    rfl
  · unfold f_X12_done
    rw [show (nI 11).toInt = 11 from by decide +kernel]
    rw [if_neg (by decide)]
    simp only [show ((11 : Int) - 10).toNat = 1 from rfl, List.getD_cons_succ, List.getD_cons_zero, pw_lt]
    rw [iL_sub (by omega) (by omega) (by omega) (by omega), e_bound (by omega) (by omega), bop_11]
    rfl
  · unfold f_X12_done
    rw [show (nI 12).toInt = 12 from by decide +kernel]
    rw [if_neg (by decide)]
    simp only [show ((12 : Int) - 10).toNat = 2 from rfl, List.getD_cons_succ, List.getD_cons_zero, pw_lt]
    rw [iL_mul (by omega) (by omega) (by omega) (by omega), e_bound (by omega) (by omega), bop_12]
    rfl
  · unfold f_X12_done
    rw [show (nI 13).toInt = 13 from by decide +kernel]
    rw [if_neg (by decide)]
    simp only [show ((13 : Int) - 10).toNat = 3 from rfl, List.getD_cons_succ, List.getD_cons_zero, pw_lt]
    have q : lg_cmp (iL a) (iL b) = 0 ↔ a = b := by rw [lg_cmp_eq, iL_eq (by omega) (by omega) (by omega) (by omega)]
    have e : bop 13 a b = if a = b then 1 else 0 := bop_13 a b
    rw [e]
    by_cases c : a = b
    · rw [if_pos (q.mpr c), if_pos c, ii1]; rfl
    · rw [if_neg (fun z => c (q.mp z)), if_neg c, ii0]; rfl
  · unfold f_X12_done
    rw [show (nI 14).toInt = 14 from by decide +kernel]
    rw [if_neg (by decide)]
    simp only [show ((14 : Int) - 10).toNat = 4 from rfl, List.getD_cons_succ, List.getD_cons_zero, pw_lt]
    have q : 0 ≤ lg_cmp (iL a) (iL b) ↔ b ≤ a := by rw [lg_cmp_ge, iL_le (by omega) (by omega) (by omega) (by omega)]
    have e : bop 14 a b = if a < b then 1 else 0 := bop_14 a b
    rw [e]
    by_cases c : b ≤ a
    · rw [if_pos (q.mpr c), if_neg (by omega), ii0]; rfl
    · rw [if_neg (fun z => c (q.mp z)), if_pos (by omega), ii1]; rfl
  · unfold f_X12_done
    rw [show (nI 15).toInt = 15 from by decide +kernel]
    rw [if_neg (by decide)]
    simp only [show ((15 : Int) - 10).toNat = 5 from rfl, List.getD_cons_succ, List.getD_cons_zero, pw_lt]
    have q : lg_cmp (iL a) (iL b) ≤ 0 ↔ a ≤ b := by rw [lg_cmp_le, iL_le (by omega) (by omega) (by omega) (by omega)]
    have e : bop 15 a b = if b < a then 1 else 0 := bop_15 a b
    rw [e]
    by_cases c : a ≤ b
    · rw [if_pos (q.mpr c), if_neg (by omega), ii0]; rfl
    · rw [if_neg (fun z => c (q.mp z)), if_pos (by omega), ii1]; rfl
  · unfold f_X12_done
    rw [show (nI 16).toInt = 16 from by decide +kernel]
    rw [if_neg (by decide)]
    simp only [show ((16 : Int) - 10).toNat = 6 from rfl, List.getD_cons_succ, List.getD_cons_zero, pw_lt]
    have q : lg_cmp (iL a + iL b) (1 : Int64) ≤ 0 ↔ a + b ≤ 1 := by rw [lg_cmp_le, iL_add (by omega) (by omega) (by omega) (by omega), l1, iL_le (by omega) (by omega) (by omega) (by omega)]
    have e : bop 16 a b = if 1 < a + b then 1 else 0 := bop_16 a b
    rw [e]
    by_cases c : a + b ≤ 1
    · rw [if_pos (q.mpr c), if_neg (by omega), ii0]; rfl
    · rw [if_neg (fun z => c (q.mp z)), if_pos (by omega), ii1]; rfl
  · unfold f_X12_done
    rw [show (nI 17).toInt = 17 from by decide +kernel]
    rw [if_pos (by decide)]
    simp only [pw_lt]
    have q : lg_cmp (iL a + iL b) (0 : Int64) ≤ 0 ↔ a + b ≤ 0 := by rw [lg_cmp_le, iL_add (by omega) (by omega) (by omega) (by omega), l0, iL_le (by omega) (by omega) (by omega) (by omega)]
    have e : bop 17 a b = if 0 < a + b then 1 else 0 := bop_17 a b
    rw [e]
    by_cases c : a + b ≤ 0
    · rw [if_pos (q.mpr c), if_neg (by omega), ii0]; rfl
    · rw [if_neg (fun z => c (q.mp z)), if_pos (by omega), ii1]; rfl
set_option maxRecDepth 16384 in
theorem c_kept {v : Int} {h : PH} (h1 : -4000000000000 ≤ v) (h2 : v ≤ 4000000000000) : f_X3_kept (iL v) h = some (iI (bd v), h) := by
  unfold f_X3_kept
  rw [i6m, i6, i6mi, i6i]
  simp only [pw_lt]
  have q1 : lg_cmp (iL v) (iL 1000000) ≤ 0 ↔ v ≤ 1000000 := by rw [lg_cmp_le, iL_le (by omega) (by omega) (by omega) (by omega)]
  have q2 : 0 ≤ lg_cmp (iL v) (iL (-1000000)) ↔ -1000000 ≤ v := by rw [lg_cmp_ge, iL_le (by omega) (by omega) (by omega) (by omega)]
  unfold bd
  by_cases c1 : v ≤ 1000000
  · rw [if_pos (q1.mpr c1)]
    by_cases c2 : -1000000 ≤ v
    · rw [if_pos (q2.mpr c2), if_neg (by omega), if_neg (by omega), iL_i (by omega) (by omega)]
    · rw [if_neg (fun z => c2 (q2.mp z)), if_pos (by omega)]
  · rw [if_neg (fun z => c1 (q1.mp z)), if_neg (by omega), if_pos (by omega)]
/- the class's code for a step of two -/
def opc (s : Nat) : Nat := if s = 10 then 8 else if s = 11 then 9 else if s = 12 then 10 else if s = 13 then 5 else if s = 14 then 6 else if s = 15 then 7 else if s = 16 then 3 else 2
def V01 (v : Int) : Prop := v = 0 ∨ v = 1
set_option maxRecDepth 16384 in
theorem bd_s {v : Int} (h1 : -1000000 ≤ v) (h2 : v ≤ 1000000) : bd v = v := by
  unfold bd
  rw [if_neg (by omega), if_neg (by omega)]
set_option maxRecDepth 16384 in
theorem c_rk10 {a b : Int} {h : PH} : f_X3_reckon (nI (opc 10)) (iL a) (iL b) h = (some ((iL a + iL b), h)) := by
  rw [show opc 10 = 8 from rfl]
  unfold f_X3_reckon
  rw [show (nI 8).toInt = 8 from by decide +kernel]
  simp only [pw_lt]
  rw [if_neg (by decide)]
  simp only [show ((8 : Int) - 2).toNat = 6 from rfl, List.getD_cons_succ, List.getD_cons_zero]
set_option maxRecDepth 16384 in
theorem c_rk11 {a b : Int} {h : PH} : f_X3_reckon (nI (opc 11)) (iL a) (iL b) h = (some ((iL a - iL b), h)) := by
  rw [show opc 11 = 9 from rfl]
  unfold f_X3_reckon
  rw [show (nI 9).toInt = 9 from by decide +kernel]
  simp only [pw_lt]
  rw [if_neg (by decide)]
  simp only [show ((9 : Int) - 2).toNat = 7 from rfl, List.getD_cons_succ, List.getD_cons_zero]
set_option maxRecDepth 16384 in
theorem c_rk12 {a b : Int} {h : PH} : f_X3_reckon (nI (opc 12)) (iL a) (iL b) h = (some ((iL a * iL b), h)) := by
  rw [show opc 12 = 10 from rfl]
  unfold f_X3_reckon
  rw [show (nI 10).toInt = 10 from by decide +kernel]
  simp only [pw_lt]
  rw [if_pos (by decide)]
set_option maxRecDepth 16384 in
theorem c_rk13 {a b : Int} {h : PH} : f_X3_reckon (nI (opc 13)) (iL a) (iL b) h = (if lg_cmp (iL a) (iL b) = 0 then some ((1 : Int64), h) else some ((0 : Int64), h)) := by
  rw [show opc 13 = 5 from rfl]
  unfold f_X3_reckon
  rw [show (nI 5).toInt = 5 from by decide +kernel]
  simp only [pw_lt]
  rw [if_neg (by decide)]
  simp only [show ((5 : Int) - 2).toNat = 3 from rfl, List.getD_cons_succ, List.getD_cons_zero]
set_option maxRecDepth 16384 in
theorem c_rk14 {a b : Int} {h : PH} : f_X3_reckon (nI (opc 14)) (iL a) (iL b) h = (if 0 ≤ lg_cmp (iL a) (iL b) then some ((0 : Int64), h) else some ((1 : Int64), h)) := by
  rw [show opc 14 = 6 from rfl]
  unfold f_X3_reckon
  rw [show (nI 6).toInt = 6 from by decide +kernel]
  simp only [pw_lt]
  rw [if_neg (by decide)]
  simp only [show ((6 : Int) - 2).toNat = 4 from rfl, List.getD_cons_succ, List.getD_cons_zero]
set_option maxRecDepth 16384 in
theorem c_rk15 {a b : Int} {h : PH} : f_X3_reckon (nI (opc 15)) (iL a) (iL b) h = (if lg_cmp (iL a) (iL b) ≤ 0 then some ((0 : Int64), h) else some ((1 : Int64), h)) := by
  rw [show opc 15 = 7 from rfl]
  unfold f_X3_reckon
  rw [show (nI 7).toInt = 7 from by decide +kernel]
  simp only [pw_lt]
  rw [if_neg (by decide)]
  simp only [show ((7 : Int) - 2).toNat = 5 from rfl, List.getD_cons_succ, List.getD_cons_zero]
set_option maxRecDepth 16384 in
theorem c_rk16 {a b : Int} {h : PH} : f_X3_reckon (nI (opc 16)) (iL a) (iL b) h = (some (iL a &&& iL b, h)) := by
  rw [show opc 16 = 3 from rfl]
  unfold f_X3_reckon
  rw [show (nI 3).toInt = 3 from by decide +kernel]
  simp only [pw_lt]
  rw [if_neg (by decide)]
  simp only [show ((3 : Int) - 2).toNat = 1 from rfl, List.getD_cons_succ, List.getD_cons_zero]
set_option maxRecDepth 16384 in
theorem c_rk17 {a b : Int} {h : PH} : f_X3_reckon (nI (opc 17)) (iL a) (iL b) h = (some (iL a ||| iL b, h)) := by
  rw [show opc 17 = 2 from rfl]
  unfold f_X3_reckon
  rw [show (nI 2).toInt = 2 from by decide +kernel]
  simp only [pw_lt]
  rw [if_neg (by decide)]
  simp only [show ((2 : Int) - 2).toNat = 0 from rfl, List.getD_cons_succ, List.getD_cons_zero]
set_option maxRecDepth 16384 in
theorem c_reckon {s : Nat} {a b : Int} {h : PH} (hs : 10 ≤ s) (hs2 : s ≤ 17) (ha : VB a) (hb : VB b) (ht : 16 ≤ s → V01 a ∧ V01 b) : ∃ v, f_X3_reckon (nI (opc s)) (iL a) (iL b) h = some (iL v, h) ∧ bd v = bop s a b ∧ -4000000000000 ≤ v ∧ v ≤ 4000000000000 := by
  obtain ⟨a1, a2⟩ := ha
  obtain ⟨b1, b2⟩ := hb
  have hm := mul_bd a1 a2 b1 b2
  have k0 : (0 : Int64) = iL 0 := l0
  have k1 : (1 : Int64) = iL 1 := l1
  rcases (show s = 10 ∨ s = 11 ∨ s = 12 ∨ s = 13 ∨ s = 14 ∨ s = 15 ∨ s = 16 ∨ s = 17 by omega) with rfl | rfl | rfl | rfl | rfl | rfl | rfl | rfl
  · refine ⟨a + b, ?_, by rw [bop_10], by omega, by omega⟩
    rw [c_rk10, iL_add (by omega) (by omega) (by omega) (by omega)]
  · refine ⟨a - b, ?_, by rw [bop_11], by omega, by omega⟩
    rw [c_rk11, iL_sub (by omega) (by omega) (by omega) (by omega)]
  · refine ⟨a * b, ?_, by rw [bop_12], by omega, by omega⟩
    rw [c_rk12, iL_mul (by omega) (by omega) (by omega) (by omega)]
  · have e : bop 13 a b = if a = b then 1 else 0 := rfl
    have q : lg_cmp (iL a) (iL b) = 0 ↔ a = b := by rw [lg_cmp_eq, iL_eq (by omega) (by omega) (by omega) (by omega)]
    by_cases c : a = b
    · refine ⟨1, ?_, by rw [e, if_pos c]; exact bd_s (by omega) (by omega), by omega, by omega⟩
      rw [c_rk13, if_pos (q.mpr c), k1]
    · refine ⟨0, ?_, by rw [e, if_neg c]; exact bd_s (by omega) (by omega), by omega, by omega⟩
      rw [c_rk13, if_neg (fun z => c (q.mp z)), k0]
  · have e : bop 14 a b = if a < b then 1 else 0 := rfl
    have q : 0 ≤ lg_cmp (iL a) (iL b) ↔ b ≤ a := by rw [lg_cmp_ge, iL_le (by omega) (by omega) (by omega) (by omega)]
    by_cases c : b ≤ a
    · refine ⟨0, ?_, by rw [e, if_neg (by omega)]; exact bd_s (by omega) (by omega), by omega, by omega⟩
      rw [c_rk14, if_pos (q.mpr c), k0]
    · refine ⟨1, ?_, by rw [e, if_pos (by omega)]; exact bd_s (by omega) (by omega), by omega, by omega⟩
      rw [c_rk14, if_neg (fun z => c (q.mp z)), k1]
  · have e : bop 15 a b = if b < a then 1 else 0 := rfl
    have q : lg_cmp (iL a) (iL b) ≤ 0 ↔ a ≤ b := by rw [lg_cmp_le, iL_le (by omega) (by omega) (by omega) (by omega)]
    by_cases c : a ≤ b
    · refine ⟨0, ?_, by rw [e, if_neg (by omega)]; exact bd_s (by omega) (by omega), by omega, by omega⟩
      rw [c_rk15, if_pos (q.mpr c), k0]
    · refine ⟨1, ?_, by rw [e, if_pos (by omega)]; exact bd_s (by omega) (by omega), by omega, by omega⟩
      rw [c_rk15, if_neg (fun z => c (q.mp z)), k1]
  · obtain ⟨t1, t2⟩ := ht (by omega)
    rw [c_rk16]
    rcases t1 with rfl | rfl <;> rcases t2 with rfl | rfl
    · exact ⟨0, by rw [show iL 0 &&& iL 0 = iL 0 by decide +kernel], by decide +kernel, by omega, by omega⟩
    · exact ⟨0, by rw [show iL 0 &&& iL 1 = iL 0 by decide +kernel], by decide +kernel, by omega, by omega⟩
    · exact ⟨0, by rw [show iL 1 &&& iL 0 = iL 0 by decide +kernel], by decide +kernel, by omega, by omega⟩
    · exact ⟨1, by rw [show iL 1 &&& iL 1 = iL 1 by decide +kernel], by decide +kernel, by omega, by omega⟩
  · obtain ⟨t1, t2⟩ := ht (by omega)
    rw [c_rk17]
    rcases t1 with rfl | rfl <;> rcases t2 with rfl | rfl
    · exact ⟨0, by rw [show iL 0 ||| iL 0 = iL 0 by decide +kernel], by decide +kernel, by omega, by omega⟩
    · exact ⟨1, by rw [show iL 0 ||| iL 1 = iL 1 by decide +kernel], by decide +kernel, by omega, by omega⟩
    · exact ⟨1, by rw [show iL 1 ||| iL 0 = iL 1 by decide +kernel], by decide +kernel, by omega, by omega⟩
    · exact ⟨1, by rw [show iL 1 ||| iL 1 = iL 1 by decide +kernel], by decide +kernel, by omega, by omega⟩

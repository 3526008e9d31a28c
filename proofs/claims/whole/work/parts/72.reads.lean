/-! ===== readings: the reference ===== -/
def AW (V : Nat → Nat) (P w : Nat) : Nat := orTo 5 (fun i => decide (i < P) && (w.testBit (V i / 2) == decide (V i % 2 = 1)))
set_option maxRecDepth 16384 in
theorem AW_lt (V : Nat → Nat) (P w : Nat) : AW V P w < 32 := orTo_lt _ 5
set_option maxRecDepth 16384 in
theorem AW_tb {V : Nat → Nat} {P w i : Nat} (hi : i < P) (hP : P ≤ 5) : (AW V P w).testBit i = (w.testBit (V i / 2) == decide (V i % 2 = 1)) := by
  unfold AW
  rw [orTo_tb, decide_eq_true (by omega), decide_eq_true hi, Bool.true_and, Bool.true_and]
def b6 (x : Int64) (i : Nat) : Bool := x.toBitVec.getLsbD i
set_option maxRecDepth 16384 in
theorem b6_ext {x y : Int64} (h : ∀ i, i < 64 → b6 x i = b6 y i) : x = y := Int64.toBitVec_inj.mp (BitVec.eq_of_getLsbD_eq (fun i hi => h i hi))
set_option maxRecDepth 16384 in
theorem b6_or (x y : Int64) (i : Nat) : b6 (x ||| y) i = (b6 x i || b6 y i) := by unfold b6; rw [Int64.toBitVec_or, BitVec.getLsbD_or]
set_option maxRecDepth 16384 in
theorem b6_and (x y : Int64) (i : Nat) : b6 (x &&& y) i = (b6 x i && b6 y i) := by unfold b6; rw [Int64.toBitVec_and, BitVec.getLsbD_and]
set_option maxRecDepth 16384 in
theorem b6_0 (i : Nat) : b6 0 i = false := BitVec.getLsbD_zero
set_option maxRecDepth 16384 in
theorem b6_1 {i : Nat} (h : i < 64) : b6 (1 : Int64) i = decide (i = 0) := by
  have e : b6 (1 : Int64) i = b6 (lN 1) i := rfl
  rw [e]
  unfold b6
  rw [lN_bit h]
  by_cases c : i = 0
  · rw [c]; rfl
  · rw [decide_eq_false c]
    exact Nat.testBit_lt_two_pow (Nat.one_lt_two_pow c)
/- the truth of reading r in weather w -/
def rb (h : PH) (r w : Nat) : Bool := b6 (h.2 170 (64 * r + w / 64)) (w % 64)
def RR (K : Nat → Int32) (B : Nat → Nat) (i : Nat) (L : List Nat) (F : Nat) (h : PH) : Prop := h.1 171 i = nI F ∧ h.1 172 i = nI L.length ∧ ∀ k, k < L.length → ∀ w, w < 4096 → rb h (F + k) w = (decide (w ≤ ga K) && (L.getD k 0).testBit (B w))
def tot (P d f : Nat) : Nat := sumTo d (fun e => (P - e) * cn e) + f * cn d
def totB (P d f e g : Nat) : Bool := decide (P < g + e + 1) || (decide (P < f + d + 1) || (!(decide (e < d) || (decide (e = d) && decide (g < f))) || decide (tot P e g + cn e ≤ tot P d f)))
set_option maxRecDepth 16384 in
theorem tot_all : allN 6 (fun P => allN 5 (fun d => allN 5 (fun f => allN 5 (fun e => allN 5 (fun g => totB P d f e g))))) = true := by decide +kernel
set_option maxRecDepth 16384 in
theorem tot_le {P d f e g : Nat} (hP : P ≤ 5) (hg : g + e < P) (hf : f + d < P) (h : e < d ∨ e = d ∧ g < f) : tot P e g + cn e ≤ tot P d f := by
  have := allN_at (allN_at (allN_at (allN_at (allN_at tot_all P (by omega)) d (by omega)) f (by omega)) e (by omega)) g (by omega)
  unfold totB at this
  rw [decide_eq_false (show ¬ P < g + e + 1 by omega), decide_eq_false (show ¬ P < f + d + 1 by omega), Bool.false_or, Bool.false_or] at this
  have hc : (decide (e < d) || (decide (e = d) && decide (g < f))) = true := by
    rcases h with h | ⟨h1, h2⟩
    · rw [decide_eq_true h, Bool.true_or]
    · rw [decide_eq_true h1, decide_eq_true h2, Bool.and_true, Bool.or_true]
  rw [hc] at this
  exact of_decide_eq_true this
set_option maxRecDepth 16384 in
theorem tot_39 : allN 6 (fun P => allN 5 (fun d => allN 5 (fun f => decide (P < f + d + 1) || decide (tot P d f + cn d ≤ 39)))) = true := by decide +kernel
set_option maxRecDepth 16384 in
theorem tot_b {P d f : Nat} (hP : P ≤ 5) (hf : f + d < P) : tot P d f + cn d ≤ 39 := by
  have := allN_at (allN_at (allN_at tot_39 P (by omega)) d (by omega)) f (by omega)
  rw [decide_eq_false (show ¬ P < f + d + 1 by omega), Bool.false_or] at this
  exact of_decide_eq_true this
set_option maxRecDepth 16384 in
theorem tot_s (P d f : Nat) : tot P d (f + 1) = tot P d f + cn d := by
  unfold tot
  rw [Nat.succ_mul]
  omega
set_option maxRecDepth 16384 in
theorem tot_d {P d : Nat} (h : d ≤ P) : tot P (d + 1) 0 = tot P d (P - d) := by
  unfold tot
  rw [sumTo]
  omega
/- one reading is laid at R -/
def fL (R : Nat) (h h' : PH) : Prop := eqx [152, 170] h h' ∧ (∀ j, j ≠ 33 → h'.1 152 j = h.1 152 j) ∧ (∀ x, x < 64 * R → h'.2 170 x = h.2 170 x) ∧ h'.1 152 33 = nI (R + 1)
set_option maxRecDepth 16384 in
theorem fL_rb {R r w : Nat} {h h' : PH} (f : fL R h h') (hr : r < R) (hw : w < 4096) : rb h' r w = rb h r w := by
  unfold rb
  rw [f.2.2.1 _ (by omega)]
set_option maxRecDepth 16384 in
theorem pL1 {h : PH} {a j : Nat} {v : Int64} {b k : Nat} : (pL h a j v).1 b k = h.1 b k := rfl
set_option maxRecDepth 16384 in
theorem e_laysPair {R one two : Nat} {j : Bool} {h : PH} (hR : R < 39) (h1 : one < R) (h2 : two < R) (v : h.1 152 33 = nI R) : ok (f_X12_laysPair 152 (nI one) (nI two) (bI j) h) (fun _ h' => fL R h h' ∧ ∀ w, w < 4096 → rb h' R w = if j then (rb h one w || rb h two w) else (rb h one w && rb h two w)) := by
  unfold f_X12_laysPair
  refine ok_lt ?_
  refine lp_ok (fun m s h1 => ∃ k, k + m = 64 ∧ s = nI k ∧ eqx [170] h h1 ∧ (∀ x, x < 64 * R → h1.2 170 x = h.2 170 x) ∧ ∀ q, q < k → ∀ i, b6 (h1.2 170 (64 * R + q)) i = if j then (b6 (h.2 170 (64 * one + q)) i || b6 (h.2 170 (64 * two + q)) i) else (b6 (h.2 170 (64 * one + q)) i && b6 (h.2 170 (64 * two + q)) i)) ?_ FU 64 _ h ⟨0, by omega, rfl, eqx_rfl _ _, fun _ _ => rfl, fun q hq => absurd hq (Nat.not_lt_zero q)⟩ (fu_lt (by omega))
  rintro m rec s h1' ⟨k, hk, rfl, e1, o1, y1⟩ hrec
  have v33 : h1'.1 152 33 = nI R := by rw [(e1 152 (by decide)).1]; exact v
  unfold b_X12_laysPair_3
  simp only [r_152_30]
  by_cases h0 : m = 0
  · rw [if_pos (show (64 : Int32) ≤ nI k by rw [pw_lit, pw_leI (by omega) (by omega)]; omega)]
    refine ok_lt ?_
    have hv : h1'.1 152 33 + (1 : Int32) = nI (R + 1) := by
      rw [v33]
      exact nI_add R 1
    rw [hv]
    refine ok_some ⟨⟨eqx_trans (eqx_mono e1 (by decide)) (eqx_pI (by decide)), fun i hi => by rw [pw_pIo (by omega), (e1 152 (by decide)).1], fun x hx => o1 x hx, pw_pIs⟩, fun w hw => ?_⟩
    have hq : w / 64 < 64 := by omega
    unfold rb
    exact y1 _ (by omega) _
  · have a1 : (64 : Int32) * nI one + nI k = nI (64 * one + k) := by rw [pw_lit, pw_mul, nI_add]
    have a2 : (64 : Int32) * nI two + nI k = nI (64 * two + k) := by rw [pw_lit, pw_mul, nI_add]
    have a3 : (64 : Int32) * nI R + nI k = nI (64 * R + k) := by rw [pw_lit, pw_mul, nI_add]
    rw [if_neg (show ¬ (64 : Int32) ≤ nI k by rw [pw_lit, pw_leI (by omega) (by omega)]; omega), a1, pw_ldL (by omega) (by omega), o1 _ (by omega)]
    refine ok_lt ?_
    rw [a2, pw_ldL (by omega) (by omega), o1 _ (by omega)]
    refine ok_lt ?_
    refine ok_joinT (fun t h8 => h8 = h1' ∧ ∀ i, b6 t i = if j then (b6 (h.2 170 (64 * one + k)) i || b6 (h.2 170 (64 * two + k)) i) else (b6 (h.2 170 (64 * one + k)) i && b6 (h.2 170 (64 * two + k)) i)) ?_ (fun j69 hj69 => ?_)
    · rintro t h8 ⟨rfl, ht⟩
      rw [v33, a3, pw_stL (by omega) (by omega)]
      refine ok_lt ?_
      rw [pw_oi, nI_add]
      refine hrec (m - 1) _ _ (by omega) ⟨k + 1, by omega, rfl, eqx_trans e1 (eqx_pL (by decide)), fun x hx => by rw [pw_pLo (by omega)]; exact o1 x hx, fun q hq i => ?_⟩
      by_cases eq : q = k
      · rw [eq, pw_pLs]
        exact ht i
      · rw [pw_pLo (by omega)]
        exact y1 q (by omega) i
    · cases j with
      | false =>
        rw [if_pos (show bI false = (0 : Int32) from rfl)]
        exact hj69 _ _ ⟨rfl, fun i => by rw [b6_and]; rfl⟩
      | true =>
        rw [if_neg (show ¬ bI true = (0 : Int32) by decide)]
        exact hj69 _ _ ⟨rfl, fun i => by rw [b6_or]; rfl⟩
set_option maxRecDepth 16384 in
theorem e_isSoR {v w : Nat} {h : PH} (hv : v < 64) (hw : w < 4096) : f_X12_isSo (nI v) (nI w) h = some (bI (w.testBit (v / 2) == decide (v % 2 = 1)), h) := by
  have nz2 : ∀ o : Option (Int32 × PH), nz (2 : Int32) o = o := fun o => pw_nz (k := 2) (by omega) (by omega)
  unfold f_X12_isSo
  rw [nz2, nz2]
  simp only [pw_lt]
  have hdv : nI v / (2 : Int32) = nI (v / 2) := by rw [pw_lit, pw_dv (by omega) (by omega) (by omega)]
  have hm : nI v - nI (v / 2) * (2 : Int32) = nI (v % 2) := by rw [pw_lit, pw_mul, pw_sub (by omega), show v - v / 2 * 2 = v % 2 by omega]
  have hs : (nI w >>> (nI (v / 2) &&& 31)) &&& (1 : Int32) = nI (if w.testBit (v / 2) then 1 else 0) := by
    rw [pw_lit, pw_lit, pw_and, pw_shr (by omega) (by omega), pw_and, and1_tb]
  rw [hdv, hs, hm]
  have he : (nI (if w.testBit (v / 2) then 1 else 0) = nI (v % 2)) = ((w.testBit (v / 2) == decide (v % 2 = 1)) = true) := by
    rw [pw_eqI (by split <;> omega) (by omega)]
    cases w.testBit (v / 2)
    · rcases (by omega : v % 2 = 0 ∨ v % 2 = 1) with z | z <;> rw [z] <;> decide
    · rcases (by omega : v % 2 = 0 ∨ v % 2 = 1) with z | z <;> rw [z] <;> decide
  simp only [he]
  cases (w.testBit (v / 2) == decide (v % 2 = 1))
  · rw [if_neg (by decide)]
    exact zr_0 h
  · rw [if_pos rfl]
    exact zr_1 h
set_option maxRecDepth 16384 in
theorem e_laysReading {K : Nat → Int32} {R v : Nat} {h : PH} (H : RK K) (k153 : h.1 153 = K) (hR : R < 39) (hv : v < 64) (v33 : h.1 152 33 = nI R) : ok (f_X12_laysReading 152 (nI v) h) (fun _ h' => fL R h h' ∧ ∀ w, w < 4096 → rb h' R w = (decide (w ≤ ga K) && (w.testBit (v / 2) == decide (v % 2 = 1)))) := by
  have hb := rk_b H
  have hga : ga K < 4096 := hb.2.2.2.2.2.2.2.2.2.1
  have nz6 : ∀ o : Option (Unit × PH), nz (64 : Int32) o = o := fun o => pw_nz (k := 64) (by omega) (by omega)
  unfold f_X12_laysReading
  refine ok_lt ?_
  refine ok_join (fun h2 => eqx [170] h h2 ∧ (∀ x, x < 64 * R → h2.2 170 x = h.2 170 x) ∧ ∀ q, q < 64 → h2.2 170 (64 * R + q) = 0) ?_ (fun j29 hj29 => ?_)
  · rintro h2 ⟨e2, o2, z2⟩
    refine ok_lt ?_
    refine lp_ok (fun m s h1 => ∃ w0, w0 + m = ga K + 1 ∧ s = nI w0 ∧ eqx [170] h h1 ∧ (∀ x, x < 64 * R → h1.2 170 x = h.2 170 x) ∧ ∀ w, w < 4096 → b6 (h1.2 170 (64 * R + w / 64)) (w % 64) = (decide (w < w0) && (w.testBit (v / 2) == decide (v % 2 = 1)))) ?_ FU (ga K + 1) _ h2 ⟨0, by omega, rfl, e2, o2, fun w hw => by rw [z2 _ (by omega), decide_eq_false (by omega), Bool.false_and]; exact b6_0 _⟩ (fu_lt (by omega))
    rintro m rec s h1 ⟨w0, hm, rfl, e1, o1, y1⟩ hrec
    have q33 : h1.1 152 33 = nI R := by rw [(e1 152 (by decide)).1]; exact v33
    have q153 : h1.1 153 = K := by rw [(e1 153 (by decide)).1]; exact k153
    have hev := e_everywhere (h := h1) (by rw [q153]; exact H)
    rw [q153] at hev
    unfold b_X12_laysReading_31
    simp only [r_152_30]
    rw [hev]
    simp only [pw_cb]
    by_cases h0 : m = 0
    · rw [if_pos (show nI (ga K) < nI w0 by rw [pw_ltI (by omega) (by omega)]; omega)]
      refine ok_lt ?_
      have hv1 : h1.1 152 33 + (1 : Int32) = nI (R + 1) := by
        rw [q33]
        exact nI_add R 1
      rw [hv1]
      refine ok_some ⟨⟨eqx_trans (eqx_mono e1 (by decide)) (eqx_pI (by decide)), fun i hi => by rw [pw_pIo (by omega), (e1 152 (by decide)).1], fun x hx => o1 x hx, pw_pIs⟩, fun w hw => ?_⟩
      have := y1 w hw
      unfold rb
      rw [show decide (w ≤ ga K) = decide (w < w0) from decide_eq_decide.mpr (by omega)]
      exact this
    · rw [if_neg (show ¬ nI (ga K) < nI w0 by rw [pw_ltI (by omega) (by omega)]; omega), e_isSoR hv (by omega)]
      simp only [pw_cb]
      refine ok_join (fun h9 => eqx [170] h h9 ∧ (∀ x, x < 64 * R → h9.2 170 x = h.2 170 x) ∧ ∀ w, w < 4096 → b6 (h9.2 170 (64 * R + w / 64)) (w % 64) = (decide (w < w0 + 1) && (w.testBit (v / 2) == decide (v % 2 = 1)))) ?_ (fun j73 hj73 => ?_)
      · rintro h9 ⟨e9, o9, y9⟩
        refine ok_lt ?_
        rw [pw_oi, nI_add]
        exact hrec (m - 1) _ _ (by omega) ⟨w0 + 1, by omega, rfl, e9, o9, y9⟩
      · by_cases q : (w0.testBit (v / 2) == decide (v % 2 = 1)) = true
        · have a1 : nI w0 / (64 : Int32) = nI (w0 / 64) := by rw [pw_lit, pw_dv (by omega) (by omega) (by omega)]
          have a2 : (64 : Int32) * nI R + nI (w0 / 64) = nI (64 * R + w0 / 64) := by rw [pw_lit, pw_mul, nI_add]
          have a3 : nI w0 - nI (w0 / 64) * (64 : Int32) = nI (w0 % 64) := by rw [pw_lit, pw_mul, pw_sub (by omega), show w0 - w0 / 64 * 64 = w0 % 64 by omega]
          have hbit : ∀ i, i < 64 → b6 ((1 : Int64) <<< ((nI (w0 % 64)).toInt64 &&& 63)) i = decide (i = w0 % 64) := fun i hi => by
            have e63 : ((nI (w0 % 64)).toInt64 &&& 63) = lN (w0 % 64) := by
              rw [nI_l (by omega)]
              exact (by decide +kernel : ∀ x, x < 64 → lN x &&& 63 = lN x) _ (by omega)
            rw [e63]
            unfold b6
            rw [b64_shl (by omega) _ hi]
            have h1b := b6_1 (i := i - w0 % 64) (by omega)
            unfold b6 at h1b
            rw [h1b]
            by_cases z : i = w0 % 64
            · rw [z, decide_eq_true (Nat.le_refl _), decide_eq_true (Nat.sub_self _), decide_eq_true rfl]
              rfl
            · rw [decide_eq_false z]
              by_cases z2 : w0 % 64 ≤ i
              · rw [decide_eq_false (show ¬ i - w0 % 64 = 0 by omega), Bool.and_false]
              · rw [decide_eq_false z2, Bool.false_and]
          rw [q, if_neg (show ¬ bI true = (0 : Int32) by decide), nz6, q33, a1, a2, pw_ldL (by omega) (by omega), nz6, a3, pw_stL (by omega) (by omega)]
          refine hj73 _ ⟨eqx_trans e1 (eqx_pL (by decide)), fun x hx => by rw [pw_pLo (by omega)]; exact o1 x hx, fun w hw => ?_⟩
          have yw := y1 w hw
          by_cases ew : w / 64 = w0 / 64
          · rw [ew] at yw ⊢
            rw [pw_pLs, b6_or, yw, hbit _ (by omega)]
            by_cases ew2 : w = w0
            · rw [ew2, q, decide_eq_true rfl, Bool.or_true, decide_eq_true (by omega)]
              rfl
            · rw [decide_eq_false (show ¬ w % 64 = w0 % 64 by omega), Bool.or_false, show decide (w < w0) = decide (w < w0 + 1) from decide_eq_decide.mpr (by omega)]
          · rw [pw_pLo (by omega), yw, show decide (w < w0) = decide (w < w0 + 1) from decide_eq_decide.mpr (by have : w ≠ w0 := fun z => ew (by rw [z]); omega)]
        · have q2 : (w0.testBit (v / 2) == decide (v % 2 = 1)) = false := by simpa using q
          rw [q2, if_pos (show bI false = (0 : Int32) from rfl)]
          refine hj73 h1 ⟨e1, o1, fun w hw => ?_⟩
          rw [y1 w hw]
          by_cases ew2 : w = w0
          · rw [ew2, q2, Bool.and_false, Bool.and_false]
          · rw [show decide (w < w0) = decide (w < w0 + 1) from decide_eq_decide.mpr (by omega)]
  · refine lp_ok (fun m s h1 => ∃ k, k + m = 64 ∧ s = nI k ∧ eqx [170] h h1 ∧ (∀ x, x < 64 * R → h1.2 170 x = h.2 170 x) ∧ ∀ q, q < k → h1.2 170 (64 * R + q) = 0) ?_ FU 64 _ h ⟨0, by omega, rfl, eqx_rfl _ _, fun _ _ => rfl, fun q hq => absurd hq (Nat.not_lt_zero q)⟩ (fu_lt (by omega))
    rintro m rec s h1 ⟨k, hk, rfl, e1, o1, y1⟩ hrec
    have q33 : h1.1 152 33 = nI R := by rw [(e1 152 (by decide)).1]; exact v33
    have a3 : (64 : Int32) * nI R + nI k = nI (64 * R + k) := by rw [pw_lit, pw_mul, nI_add]
    unfold b_X12_laysReading_2
    simp only [r_152_30]
    by_cases h0 : m = 0
    · rw [if_pos (show (64 : Int32) ≤ nI k by rw [pw_lit, pw_leI (by omega) (by omega)]; omega)]
      exact hj29 h1 ⟨e1, o1, fun q hq => y1 q (by omega)⟩
    · rw [if_neg (show ¬ (64 : Int32) ≤ nI k by rw [pw_lit, pw_leI (by omega) (by omega)]; omega), q33, a3, pw_stL (by omega) (by omega)]
      refine ok_lt ?_
      rw [pw_oi, nI_add]
      refine hrec (m - 1) _ _ (by omega) ⟨k + 1, by omega, rfl, eqx_trans e1 (eqx_pL (by decide)), fun x hx => by rw [pw_pLo (by omega)]; exact o1 x hx, fun q hq => ?_⟩
      by_cases eq : q = k
      · rw [eq, pw_pLs]
      · rw [pw_pLo (by omega)]
        exact y1 q (by omega)

/-! ===== holding back: numbers ===== -/
def Wt (m : Nat) (w : Nat → Nat) : Nat → Nat → Nat
  | 0, _ => 0
  | _ + 1, 0 => 0
  | n + 1, c + 1 => sumTo m (fun k => max (w k * m ^ n + Wt m w n c) (Wt m w n (c + 1)))
set_option maxRecDepth 16384 in
theorem Wt_0 (m : Nat) (w : Nat → Nat) (c : Nat) : Wt m w 0 c = 0 := by simp [Wt]
set_option maxRecDepth 16384 in
theorem Wt_c0 (m : Nat) (w : Nat → Nat) (n : Nat) : Wt m w n 0 = 0 := by cases n <;> simp [Wt]
set_option maxRecDepth 16384 in
theorem Wt_s (m : Nat) (w : Nat → Nat) (n c : Nat) : Wt m w (n + 1) (c + 1) = sumTo m (fun k => max (w k * m ^ n + Wt m w n c) (Wt m w n (c + 1))) := by rw [Wt]
set_option maxRecDepth 16384 in
theorem Wt_le {m : Nat} {w : Nat → Nat} (hw : ∀ k, w k ≤ 99) : ∀ n c, Wt m w n c ≤ n * 99 * m ^ n
  | 0, c => by rw [Wt_0]; exact Nat.zero_le _
  | n + 1, 0 => by rw [Wt_c0]; exact Nat.zero_le _
  | n + 1, c + 1 => by
    rw [Wt_s]
    have h1 : ∀ k, max (w k * m ^ n + Wt m w n c) (Wt m w n (c + 1)) ≤ (n + 1) * 99 * m ^ n := fun k => by
      have a := Wt_le (m := m) hw n c
      have b := Wt_le (m := m) hw n (c + 1)
      have d : w k * m ^ n ≤ 99 * m ^ n := Nat.mul_le_mul_right _ (hw k)
      have e : (n + 1) * 99 * m ^ n = n * 99 * m ^ n + 99 * m ^ n := by rw [Nat.add_mul, Nat.one_mul, Nat.add_mul]
      rw [e]
      generalize n * 99 * m ^ n = X at *
      generalize 99 * m ^ n = Y at *
      generalize w k * m ^ n = Z at *
      exact Nat.max_le.mpr ⟨by omega, by omega⟩
    have h2 := sumTo_le h1 m
    have e2 : (n + 1) * 99 * m ^ (n + 1) = m * ((n + 1) * 99 * m ^ n) := by rw [Nat.pow_succ, ← Nat.mul_assoc, Nat.mul_comm]
    rw [e2]
    exact h2
set_option maxRecDepth 16384 in
theorem pow6 {m n : Nat} (hm : m ≤ 6) (hn : n ≤ 6) : m ^ n ≤ 46656 := by
  have h1 : m ^ n ≤ 6 ^ n := Nat.pow_le_pow_left hm n
  have h2 : 6 ^ n ≤ 6 ^ 6 := Nat.pow_le_pow_right (by decide) hn
  exact Nat.le_trans h1 h2
set_option maxRecDepth 16384 in
theorem Wt_b {m : Nat} {w : Nat → Nat} {n c : Nat} (hm : m ≤ 6) (hn : n ≤ 6) (hw : ∀ k, w k ≤ 99) : Wt m w n c < 30000000 := by
  have h1 := Wt_le (m := m) hw n c
  have h2 : n * 99 * m ^ n ≤ (6 * 99) * 46656 := Nat.mul_le_mul (Nat.mul_le_mul_right 99 hn) (pow6 hm hn)
  omega
set_option maxRecDepth 16384 in
theorem Wk_b {m : Nat} {w : Nat → Nat} {n c k : Nat} (hm : m ≤ 6) (hn : n ≤ 6) (hw : ∀ k, w k ≤ 99) : w k * m ^ n + Wt m w n c < 60000000 := by
  have h1 := Wt_b (m := m) (n := n) (c := c) hm hn hw
  have h2 : w k * m ^ n ≤ 99 * 46656 := Nat.mul_le_mul (hw k) (pow6 hm hn)
  omega
set_option maxRecDepth 16384 in
theorem mx_l {a b : Nat} (ha : a < 2147483648) (hb : b < 2147483648) : (if lN a < lN b then lN b else lN a) = lN (max b a) := by
  by_cases h : a < b
  · rw [if_pos ((lN_lt ha hb).mpr h), Nat.max_eq_left (by omega)]
  · rw [if_neg (fun z => h ((lN_lt ha hb).mp z)), Nat.max_eq_right (by omega)]
/- the least weight to grant now -/
def lo (m : Nat) (w : Nat → Nat) (n c : Nat) : Nat → Option Nat
  | 0 => none
  | k + 1 => if Wt m w n (c + 1) ≤ w k * m ^ n + Wt m w n c then (match lo m w n c k with
    | none => some (w k)
    | some l => if w k < l then some (w k) else some l) else lo m w n c k
set_option maxRecDepth 16384 in
theorem lo_b {m : Nat} {w : Nat → Nat} {n c : Nat} (hw : ∀ k, w k ≤ 99) : ∀ k l, lo m w n c k = some l → l ≤ 99
  | 0, l, h => by cases h
  | k + 1, l, h => by
    rw [lo] at h
    by_cases c1 : Wt m w n (c + 1) ≤ w k * m ^ n + Wt m w n c
    · rw [if_pos c1] at h
      cases hl : lo m w n c k with
      | none =>
        rw [hl] at h
        cases h
        exact hw k
      | some l' =>
        rw [hl] at h
        have h : (if w k < l' then some (w k) else some l') = some l := h
        by_cases c2 : w k < l'
        · rw [if_pos c2] at h
          cases h
          exact hw k
        · rw [if_neg c2] at h
          cases h
          exact lo_b hw k l hl
    · rw [if_neg c1] at h
      exact lo_b hw k l h
def oL : Option Nat → Int64
  | none => mL
  | some b => lN b
set_option maxRecDepth 16384 in
theorem oL_i (o : Option Nat) : (oL o).toInt32 = oI o := by
  cases o with
  | none => decide +kernel
  | some b => exact lN_i b
set_option maxRecDepth 16384 in
theorem lN_eqm {a : Nat} (ha : a < 2147483648) : (lN a = mL) = False := by
  refine propext ⟨fun e => ?_, False.elim⟩
  have e := congrArg Int64.toInt e
  rw [lN_toInt ha, show mL.toInt = -1 by decide +kernel] at e
  omega
/-! the class -/
def woL : List Nat := [76, 77, 78, 79, 80, 81, 82]
set_option maxRecDepth 16384 in
theorem r_75 {k : Nat} (h : k < 7) : rt 75 k = 76 + k := (by decide : ∀ k, k < 7 → rt 75 k = 76 + k) k h
def HH (m : Nat) (w : Nat → Nat) (h : PH) : Prop := h.1 73 1 = nI m ∧ ∀ k, k < m → h.1 74 k = nI (w k)
set_option maxRecDepth 16384 in
theorem c_byGranting {h : PH} {m x n c : Nat} {w : Nat → Nat} (hn : n < 7) (hc : c < 7) (hx : x < 2147483648) (s : h.2 83 n = lN (m ^ n)) (v : h.2 (76 + n) c = lN (Wt m w n c)) : f_X4_byGranting 73 (nI x) (nI (n + 1)) (nI (c + 1)) h = some (lN (x * m ^ n + Wt m w n c), h) := by
  unfold f_X4_byGranting
  simp (disch := omega) only [pw_lt, pw_cb, pw_cbx, pw_cbxr, pw_lit, pw_litL, pw_oi, pw_oim, pw_oi8, pw_m, pw_ldI, pw_ldL, pw_ldR, pw_stI, pw_stL, pw_nz, pw_ltI, pw_leI, pw_eqI, pw_eqm, pw_eqm2, pw_ltm, pw_mlt, pw_lem, pw_mle, pw_mm, pw_dec, pw_nar0, pw_nar1, nI_add, pw_sub, pw_mul, pw_and, pw_or, pw_andn, pw_shl1, pw_shl, pw_shr, pw_dv, nI_l, lN_i, Bool.false_eq_true, reduceCtorEq, if_false, if_true, ↓reduceIte, if_pos, if_neg, r_73_3, r_73_2, Nat.add_sub_cancel, r_75, s, v, lN_mul, lN_add]
set_option maxRecDepth 16384 in
theorem c_reckonK {h : PH} {m n c : Nat} {w : Nat → Nat} {j : Int64 → PH → Option (Unit × PH)} (hm : m ≤ 6) (hw : ∀ k, w k ≤ 99) (hn : n < 6) (hc : c < 6) (H : HH m w h) (s : h.2 83 n = lN (m ^ n)) (v : ∀ c, c < 7 → h.2 (76 + n) c = lN (Wt m w n c)) : lp (b_X4_reckon_48 73 (nI (n + 1)) (nI (c + 1)) j) FU (lN 0, nI 0) h = j (lN (Wt m w (n + 1) (c + 1))) h := by
  rw [Wt_s]
  refine lp_run (fun i => (lN (sumTo i (fun k => max (w k * m ^ n + Wt m w n c) (Wt m w n (c + 1)))), nI i)) (fun _ => h) m _ ?_ ?_ FU (fu_lt (by omega))
  · intro i hi rec
    have h1 := H.1
    have h2 := H.2 i hi
    have hwi := hw i
    have hb1 := Wk_b (m := m) (w := w) (n := n) (c := c) (k := i) hm (by omega) hw
    have hb2 := Wt_b (m := m) (w := w) (n := n) (c := c + 1) hm (by omega) hw
    have hg := c_byGranting (h := h) (x := w i) (show n < 7 by omega) (show c < 7 by omega) (by omega) s (v c (by omega))
    have hv := v (c + 1) (by omega)
    have hx := mx_l (show Wt m w n (c + 1) < 2147483648 by omega) (show w i * m ^ n + Wt m w n c < 2147483648 by omega)
    unfold b_X4_reckon_48
    simp (disch := omega) only [pw_lt, pw_cb, pw_cbx, pw_cbxr, pw_lit, pw_litL, pw_oi, pw_oim, pw_oi8, pw_m, pw_ldI, pw_ldL, pw_ldR, pw_stI, pw_stL, pw_nz, pw_ltI, pw_leI, pw_eqI, pw_eqm, pw_eqm2, pw_ltm, pw_mlt, pw_lem, pw_mle, pw_mm, pw_dec, pw_nar0, pw_nar1, nI_add, pw_sub, pw_mul, pw_and, pw_or, pw_andn, pw_shl1, pw_shl, pw_shr, pw_dv, nI_l, lN_i, Bool.false_eq_true, reduceCtorEq, if_false, if_true, ↓reduceIte, if_pos, if_neg, h1, r_73_0, h2, hg, r_73_2, Nat.add_sub_cancel, r_75, hv, hx, lN_add, sumTo]
  · intro rec
    have h1 := H.1
    unfold b_X4_reckon_48
    simp (disch := omega) only [pw_lt, pw_cb, pw_cbx, pw_cbxr, pw_lit, pw_litL, pw_oi, pw_oim, pw_oi8, pw_m, pw_ldI, pw_ldL, pw_ldR, pw_stI, pw_stL, pw_nz, pw_ltI, pw_leI, pw_eqI, pw_eqm, pw_eqm2, pw_ltm, pw_mlt, pw_lem, pw_mle, pw_mm, pw_dec, pw_nar0, pw_nar1, nI_add, pw_sub, pw_mul, pw_and, pw_or, pw_andn, pw_shl1, pw_shl, pw_shr, pw_dv, nI_l, lN_i, Bool.false_eq_true, reduceCtorEq, if_false, if_true, ↓reduceIte, if_pos, if_neg, h1, Nat.le_refl]
set_option maxRecDepth 16384 in
theorem c_reckonC {h : PH} {m n : Nat} {w : Nat → Nat} {Q : Unit → PH → Prop} {j : PH → Option (Unit × PH)} (hm : m ≤ 6) (hw : ∀ k, w k ≤ 99) (hn : n < 6) (H : HH m w h) (s : h.2 83 n = lN (m ^ n)) (v : ∀ c, c < 7 → h.2 (76 + n) c = lN (Wt m w n c)) (z : h.2 (77 + n) 0 = lN 0) (hj : ∀ h', eqx [77 + n] h h' → (∀ c, c < 7 → h'.2 (77 + n) c = lN (Wt m w (n + 1) c)) → ok (j h') Q) : ok (lp (b_X4_reckon_36 73 (nI (n + 1)) j) FU (nI 1) h) Q := by
  refine lp_ok (fun d st h1 => d ≤ 6 ∧ st = nI (7 - d) ∧ eqx [77 + n] h h1 ∧ ∀ c, c < 7 - d → h1.2 (77 + n) c = lN (Wt m w (n + 1) c)) ?_ FU 6 _ h ⟨Nat.le_refl _, rfl, eqx_rfl _ _, fun c hc => by rw [show c = 0 by omega, Wt_c0]; exact z⟩ (fu_lt (by omega))
  rintro d rec st h1 ⟨hd, rfl, e1, y1⟩ hrec
  unfold b_X4_reckon_36
  by_cases h0 : d = 0
  · subst h0
    simp (disch := omega) only [pw_lt, pw_cb, pw_cbx, pw_cbxr, pw_lit, pw_litL, pw_oi, pw_oim, pw_oi8, pw_m, pw_ldI, pw_ldL, pw_ldR, pw_stI, pw_stL, pw_nz, pw_ltI, pw_leI, pw_eqI, pw_eqm, pw_eqm2, pw_ltm, pw_mlt, pw_lem, pw_mle, pw_mm, pw_dec, pw_nar0, pw_nar1, nI_add, pw_sub, pw_mul, pw_and, pw_or, pw_andn, pw_shl1, pw_shl, pw_shr, pw_dv, nI_l, lN_i, Bool.false_eq_true, reduceCtorEq, if_false, if_true, ↓reduceIte, if_pos, if_neg]
    exact hj h1 e1 y1
  · generalize hk : 6 - d = c at *
    have e8 : 7 - d = c + 1 := by omega
    have e9 : 7 - (d - 1) = c + 1 + 1 := by omega
    rw [e8] at y1 ⊢
    have hkk := c_reckonK (h := h1) (j := fun y10 h11 => ldR (rt 73 2) 7 (nI (n + 1)) (fun (v12 : Nat) => stL h11 v12 7 (nI (c + 1)) y10 (fun h13 => lt (nI (c + 1) + Int32.ofInt 1) (fun x14 => rec x14 h13)))) hm hw hn (show c < 6 by omega) ⟨by rw [(e1 73 (by simp; omega)).1]; exact H.1, fun k hk => by rw [(e1 74 (by simp; omega)).1]; exact H.2 k hk⟩ (by rw [(e1 83 (by simp; omega)).2]; exact s) (fun c hc => by rw [(e1 (76 + n) (by simp <;> omega)).2]; exact v c hc)
    simp (disch := omega) only [pw_lit, pw_litL, pw_ltI, if_neg]
    refine ok_lt (ok_lt (ok_lt ?_))
    rw [hkk]
    simp (disch := omega) only [r_73_2, pw_ldR, r_75, pw_stL, pw_lt, pw_oi, nI_add]
    refine hrec (d - 1) _ _ (by omega) ⟨by omega, by rw [e9], eqx_trans e1 (eqx_pL (by simp; omega)), fun x hx => ?_⟩
    rw [e9] at hx
    by_cases ex : x = c + 1
    · subst ex
      rw [show 77 + n = 76 + (n + 1) by omega, pw_pLs]
    · rw [pw_pLo (by omega)]
      exact y1 x (by omega)
set_option maxRecDepth 16384 in
theorem c_reckon4 {h : PH} {m nn : Nat} {w : Nat → Nat} (hm : m ≤ 6) (hw : ∀ k, w k ≤ 99) (hnn : nn ≤ 6) (H : HH m w h) (wo : WO h) : ok (f_X4_reckon 73 (nI nn) h) (fun _ h' => eqx (83 :: woL) h h' ∧ WO h' ∧ (∀ i, i ≤ nn → h'.2 83 i = lN (m ^ i)) ∧ ∀ i, i ≤ nn → ∀ c, c < 7 → h'.2 (76 + i) c = lN (Wt m w i c)) := by
  unfold f_X4_reckon
  simp (disch := omega) only [pw_lit, pw_litL, r_73_3, pw_stL]
  refine ok_lt ?_
  have wm : ∀ i, i < 7 → 76 + i ∈ woL := by decide
  refine lp_ok (fun d st h1 => ∃ q, q + d = nn ∧ st = nI (q + 1) ∧ eqx (83 :: woL) h h1 ∧ WO h1 ∧ (∀ i, i ≤ q → h1.2 83 i = lN (m ^ i)) ∧ ∀ i, i ≤ q → ∀ c, c < 7 → h1.2 (76 + i) c = lN (Wt m w i c)) ?_ FU nn _ _ ⟨0, by omega, rfl, eqx_pL (by simp), ?_, fun i hi => ?_, fun i hi c hc => ?_⟩ (fu_lt (by omega))
  · rintro d rec st h1 ⟨q, hq, rfl, e1, wo1, y1, y2⟩ hrec
    unfold b_X4_reckon_9
    by_cases h0 : d = 0
    · have eq : q = nn := by omega
      subst eq
      simp (disch := omega) only [pw_lt, pw_cb, pw_cbx, pw_cbxr, pw_lit, pw_litL, pw_oi, pw_oim, pw_oi8, pw_m, pw_ldI, pw_ldL, pw_ldR, pw_stI, pw_stL, pw_nz, pw_ltI, pw_leI, pw_eqI, pw_eqm, pw_eqm2, pw_ltm, pw_mlt, pw_lem, pw_mle, pw_mm, pw_dec, pw_nar0, pw_nar1, nI_add, pw_sub, pw_mul, pw_and, pw_or, pw_andn, pw_shl1, pw_shl, pw_shr, pw_dv, nI_l, lN_i, Bool.false_eq_true, reduceCtorEq, if_false, if_true, ↓reduceIte, if_pos, if_neg]
      exact ok_some ⟨e1, wo1, y1, y2⟩
    · have hm1 : h1.1 73 1 = nI m := by rw [(e1 73 (by decide)).1]; exact H.1
      have hs := y1 q (Nat.le_refl _)
      simp (disch := omega) only [pw_lit, pw_ltI, if_neg, r_73_3, pw_sub, Nat.add_sub_cancel, pw_ldL, pw_stL, hs, hm1, nI_l, lN_mul]
      refine ok_lt (ok_lt ?_)
      have e2 : eqx [83] h1 (pL h1 83 (q + 1) (lN (m ^ q * m))) := eqx_pL (by simp)
      have v83 : ∀ i, i ≤ q + 1 → (pL h1 83 (q + 1) (lN (m ^ q * m))).2 83 i = lN (m ^ i) := fun i hi => by
        by_cases ei : i = q + 1
        · subst ei
          rw [pw_pLs, Nat.pow_succ]
        · rw [pw_pLo (by omega)]
          exact y1 i (by omega)
      have vW : ∀ i, i < 7 → (pL h1 83 (q + 1) (lN (m ^ q * m))).2 (76 + i) = h1.2 (76 + i) := fun i hi => (e2 _ (by simp; omega)).2
      have h73 : (pL h1 83 (q + 1) (lN (m ^ q * m))).1 = h1.1 := rfl
      generalize pL h1 83 (q + 1) (lN (m ^ q * m)) = h2 at *
      refine c_reckonC (n := q) (m := m) (w := w) hm hw (by omega) ⟨by rw [h73]; exact hm1, fun k hk => by rw [h73, (e1 74 (by decide)).1]; exact H.2 k hk⟩ (v83 q (by omega)) (fun c hc => by rw [vW q (by omega)]; exact y2 q (Nat.le_refl _) c hc) (by rw [show 77 + q = 76 + (q + 1) by omega, vW _ (by omega)]; exact wo1.2 _ (by omega)) (fun h3 e3 y3 => ?_)
      have hsm : ∀ i, i < 7 → i ≠ q + 1 → h3.2 (76 + i) = h1.2 (76 + i) := fun i h1' h2' => by rw [(e3 _ (by simp; omega)).2, vW i h1']
      have y4 : ∀ i, i ≤ q + 1 → ∀ c, c < 7 → h3.2 (76 + i) c = lN (Wt m w i c) := fun i hi c hc => by
        by_cases ei : i = q + 1
        · subst ei
          rw [show 76 + (q + 1) = 77 + q by omega]
          exact y3 c hc
        · rw [hsm i (by omega) ei]
          exact y2 i (by omega) c hc
      simp only [pw_lt, pw_oi, nI_add]
      refine hrec (d - 1) _ h3 (by omega) ⟨q + 1, by omega, rfl, eqx_trans e1 (eqx_trans (eqx_mono e2 (by decide)) (eqx_mono e3 (fun c hc => by simp at hc; subst hc; rw [show 77 + q = 76 + (q + 1) by omega]; exact List.mem_cons_of_mem _ (wm _ (by omega))))), ⟨fun c hc => ?_, fun i hi => ?_⟩, fun i hi => ?_, y4⟩
      · have := y4 0 (by omega) c hc
        rw [Wt_0] at this
        exact this
      · by_cases ei : i = q + 1
        · have := y4 i (by omega) 0 (by omega)
          rw [Wt_c0] at this
          exact this
        · rw [hsm i hi ei]
          exact wo1.2 i hi
      · rw [(e3 83 (by simp; omega)).2]
        exact v83 i hi
  · exact WO_to (eqx_pL (S := [83]) (by simp)) (fun n hn => by simp; omega) wo
  · rw [show i = 0 by omega, pw_pLs, Nat.pow_zero]
  · rw [show i = 0 by omega, pw_pLo (by omega), Wt_0]
    exact wo.1 c hc
set_option maxRecDepth 16384 in
theorem c_worthOf {h : PH} {n c : Nat} {v : Int64} (hn : n < 7) (hc : c < 7) (y : h.2 (76 + n) c = v) : f_X4_worthOf 73 (nI n) (nI c) h = some (v, h) := by
  unfold f_X4_worthOf
  simp (disch := omega) only [pw_lt, pw_cb, pw_cbx, pw_cbxr, pw_lit, pw_litL, pw_oi, pw_oim, pw_oi8, pw_m, pw_ldI, pw_ldL, pw_ldR, pw_stI, pw_stL, pw_nz, pw_ltI, pw_leI, pw_eqI, pw_eqm, pw_eqm2, pw_ltm, pw_mlt, pw_lem, pw_mle, pw_mm, pw_dec, pw_nar0, pw_nar1, nI_add, pw_sub, pw_mul, pw_and, pw_or, pw_andn, pw_shl1, pw_shl, pw_shr, pw_dv, nI_l, lN_i, Bool.false_eq_true, reduceCtorEq, if_false, if_true, ↓reduceIte, if_pos, if_neg, r_73_2, r_75, y]
set_option maxRecDepth 16384 in
theorem c_leastNow0 {h : PH} {m n : Nat} (hm : m ≤ 6) (hn : n < 7) (H : h.1 73 1 = nI m) : f_X4_leastNow 73 (nI n) (nI 0) h = some (mI, h) := by
  unfold f_X4_leastNow
  simp only [pw_lt, pw_lit, pw_m]
  refine lp_run (fun _ => (mI, nI 0)) (fun _ => h) 0 _ (fun i hi => absurd hi (by omega)) ?_ FU (fu_lt (by omega))
  intro rec
  unfold b_X4_leastNow_5
  simp (disch := omega) only [pw_lt, pw_cb, pw_cbx, pw_cbxr, pw_lit, pw_litL, pw_oi, pw_oim, pw_oi8, pw_m, pw_ldI, pw_ldL, pw_ldR, pw_stI, pw_stL, pw_nz, pw_ltI, pw_leI, pw_eqI, pw_eqm, pw_eqm2, pw_ltm, pw_mlt, pw_lem, pw_mle, pw_mm, pw_dec, pw_nar0, pw_nar1, nI_add, pw_sub, pw_mul, pw_and, pw_or, pw_andn, pw_shl1, pw_shl, pw_shr, pw_dv, nI_l, lN_i, Bool.false_eq_true, reduceCtorEq, if_false, if_true, ↓reduceIte, if_pos, if_neg, H, Nat.le_refl, ite_self]
set_option maxRecDepth 16384 in
theorem c_leastNow {h : PH} {m n c : Nat} {w : Nat → Nat} (hm : m ≤ 6) (hw : ∀ k, w k ≤ 99) (hn : n < 6) (hc : c < 6) (H : HH m w h) (s : h.2 83 n = lN (m ^ n)) (v : ∀ c, c < 7 → h.2 (76 + n) c = lN (Wt m w n c)) : f_X4_leastNow 73 (nI (n + 1)) (nI (c + 1)) h = some (oI (lo m w n c m), h) := by
  unfold f_X4_leastNow
  simp only [pw_lt, pw_lit, pw_m]
  refine lp_run (fun i => (oI (lo m w n c i), nI i)) (fun _ => h) m _ ?_ ?_ FU (fu_lt (by omega))
  · intro i hi rec
    have h1 := H.1
    have h2 := H.2 i hi
    have hwi := hw i
    have hb1 := Wk_b (m := m) (w := w) (n := n) (c := c) (k := i) hm (by omega) hw
    have hb2 := Wt_b (m := m) (w := w) (n := n) (c := c + 1) hm (by omega) hw
    have hg := c_byGranting (h := h) (x := w i) (show n < 7 by omega) (show c < 7 by omega) (by omega) s (v c (by omega))
    have hv := v (c + 1) (by omega)
    have hlb := lo_b (m := m) (n := n) (c := c) hw i
    unfold b_X4_leastNow_5
    by_cases c1 : Wt m w n (c + 1) ≤ w i * m ^ n + Wt m w n c
    · cases hl : lo m w n c i with
      | none => simp (disch := omega) only [pw_lt, pw_cb, pw_cbx, pw_cbxr, pw_lit, pw_litL, pw_oi, pw_oim, pw_oi8, pw_m, pw_ldI, pw_ldL, pw_ldR, pw_stI, pw_stL, pw_nz, pw_ltI, pw_leI, pw_eqI, pw_eqm, pw_eqm2, pw_ltm, pw_mlt, pw_lem, pw_mle, pw_mm, pw_dec, pw_nar0, pw_nar1, nI_add, pw_sub, pw_mul, pw_and, pw_or, pw_andn, pw_shl1, pw_shl, pw_shr, pw_dv, nI_l, lN_i, Bool.false_eq_true, reduceCtorEq, if_false, if_true, ↓reduceIte, if_pos, if_neg, h1, r_73_0, h2, hg, r_73_2, Nat.add_sub_cancel, r_75, hv, pw_cl, lN_lt, lo, hl, oI, c1]
      | some l =>
        have hlb := hlb l hl
        by_cases c2 : w i < l
        · simp (disch := omega) only [pw_lt, pw_cb, pw_cbx, pw_cbxr, pw_lit, pw_litL, pw_oi, pw_oim, pw_oi8, pw_m, pw_ldI, pw_ldL, pw_ldR, pw_stI, pw_stL, pw_nz, pw_ltI, pw_leI, pw_eqI, pw_eqm, pw_eqm2, pw_ltm, pw_mlt, pw_lem, pw_mle, pw_mm, pw_dec, pw_nar0, pw_nar1, nI_add, pw_sub, pw_mul, pw_and, pw_or, pw_andn, pw_shl1, pw_shl, pw_shr, pw_dv, nI_l, lN_i, Bool.false_eq_true, reduceCtorEq, if_false, if_true, ↓reduceIte, if_pos, if_neg, h1, r_73_0, h2, hg, r_73_2, Nat.add_sub_cancel, r_75, hv, pw_cl, lN_lt, lo, hl, oI, c1, c2]
        · simp (disch := omega) only [pw_lt, pw_cb, pw_cbx, pw_cbxr, pw_lit, pw_litL, pw_oi, pw_oim, pw_oi8, pw_m, pw_ldI, pw_ldL, pw_ldR, pw_stI, pw_stL, pw_nz, pw_ltI, pw_leI, pw_eqI, pw_eqm, pw_eqm2, pw_ltm, pw_mlt, pw_lem, pw_mle, pw_mm, pw_dec, pw_nar0, pw_nar1, nI_add, pw_sub, pw_mul, pw_and, pw_or, pw_andn, pw_shl1, pw_shl, pw_shr, pw_dv, nI_l, lN_i, Bool.false_eq_true, reduceCtorEq, if_false, if_true, ↓reduceIte, if_pos, if_neg, h1, r_73_0, h2, hg, r_73_2, Nat.add_sub_cancel, r_75, hv, pw_cl, lN_lt, lo, hl, oI, c1, c2]
    · simp (disch := omega) only [pw_lt, pw_cb, pw_cbx, pw_cbxr, pw_lit, pw_litL, pw_oi, pw_oim, pw_oi8, pw_m, pw_ldI, pw_ldL, pw_ldR, pw_stI, pw_stL, pw_nz, pw_ltI, pw_leI, pw_eqI, pw_eqm, pw_eqm2, pw_ltm, pw_mlt, pw_lem, pw_mle, pw_mm, pw_dec, pw_nar0, pw_nar1, nI_add, pw_sub, pw_mul, pw_and, pw_or, pw_andn, pw_shl1, pw_shl, pw_shr, pw_dv, nI_l, lN_i, Bool.false_eq_true, reduceCtorEq, if_false, if_true, ↓reduceIte, if_pos, if_neg, h1, r_73_0, h2, hg, r_73_2, Nat.add_sub_cancel, r_75, hv, pw_cl, lN_lt, lo, c1]
  · intro rec
    have h1 := H.1
    unfold b_X4_leastNow_5
    simp (disch := omega) only [pw_lt, pw_cb, pw_cbx, pw_cbxr, pw_lit, pw_litL, pw_oi, pw_oim, pw_oi8, pw_m, pw_ldI, pw_ldL, pw_ldR, pw_stI, pw_stL, pw_nz, pw_ltI, pw_leI, pw_eqI, pw_eqm, pw_eqm2, pw_ltm, pw_mlt, pw_lem, pw_mle, pw_mm, pw_dec, pw_nar0, pw_nar1, nI_add, pw_sub, pw_mul, pw_and, pw_or, pw_andn, pw_shl1, pw_shl, pw_shr, pw_dv, nI_l, lN_i, Bool.false_eq_true, reduceCtorEq, if_false, if_true, ↓reduceIte, if_pos, if_neg, h1, Nat.le_refl]
/- numbers that are weights -/
def isW (v : Int64) : Prop := ∃ x, x ≤ 99 ∧ v = lN x
set_option maxRecDepth 16384 in
theorem isW_iff {v : Int64} : isW v ↔ (¬ v < lN 0 ∧ v ≤ lN 99) := by
  have := in_lN (v := v) (n := 99) (by decide)
  simp only [Bool.and_eq_true, decide_eq_true_eq] at this
  unfold isW
  rw [← this]
  exact and_congr_left (fun _ => ⟨fun h => Int64.not_lt.mpr h, fun h => Int64.not_lt.mp h⟩)
set_option maxRecDepth 16384 in
theorem c_take4 {h : PH} {t m : Nat} {f : Nat → Int64} (ht : t < 4) (h1 : 1 ≤ m) (hm : m ≤ 6) (hmany : h.1 (85 + 2 * t) 1 = nI m) (hrow : ∀ k, k < 30 → h.2 (86 + 2 * t) k = f k) (hW : ∀ k, k < m → isW (f k)) : ok (f_X4_take 73 (85 + 2 * t) h) (fun r h' => r = bI true ∧ eqx [73, 74] h h' ∧ h'.1 73 1 = nI m ∧ ∀ k, k < m → h'.1 74 k = (f k).toInt32) := by
  unfold f_X4_take
  refine ok_lt (ok_lt ?_)
  have e0 : eqx [73] h (pI h 73 1 (nI m)) := eqx_pI (by simp)
  simp (disch := omega) only [hmany, pw_lit, pw_pIs, pw_ltI, pw_leI, if_pos, if_neg]
  refine ok_lt (ok_lt ?_)
  refine lp_ok (fun n st h2 => n ≤ m ∧ st = nI (m - n) ∧ eqx [73, 74] h h2 ∧ h2.1 73 1 = nI m ∧ ∀ k, k < m - n → h2.1 74 k = (f k).toInt32) ?_ FU m _ _ ⟨Nat.le_refl _, by rw [Nat.sub_self], eqx_mono e0 (by decide), pw_pIs, fun k hk => absurd hk (by omega)⟩ (fu_lt (by omega))
  rintro n rec st h2 ⟨hn, rfl, e2, y1, y2⟩ hrec
  unfold b_X4_take_29
  by_cases h0 : n = 0
  · subst h0
    simp (disch := omega) only [pw_lt, pw_cb, pw_cbx, pw_cbxr, pw_lit, pw_litL, pw_oi, pw_oim, pw_oi8, pw_m, pw_ldI, pw_ldL, pw_ldR, pw_stI, pw_stL, pw_nz, pw_ltI, pw_leI, pw_eqI, pw_eqm, pw_eqm2, pw_ltm, pw_mlt, pw_lem, pw_mle, pw_mm, pw_dec, pw_nar0, pw_nar1, nI_add, pw_sub, pw_mul, pw_and, pw_or, pw_andn, pw_shl1, pw_shl, pw_shr, pw_dv, nI_l, lN_i, Bool.false_eq_true, reduceCtorEq, if_false, if_true, ↓reduceIte, if_pos, if_neg, y1, Nat.sub_zero, Nat.le_refl]
    exact ok_some ⟨rfl, e2, y1, y2⟩
  · generalize hk : m - n = k at *
    have e9 : m - (n - 1) = k + 1 := by omega
    have v : h2.2 (86 + 2 * t) k = f k := by rw [(e2 _ (by simp; omega)).2]; exact hrow k (by omega)
    obtain ⟨q1, q2⟩ := isW_iff.mp (hW k (by omega))
    simp (disch := omega) only [pw_lt, pw_cb, pw_cbx, pw_cbxr, pw_lit, pw_litL, pw_oi, pw_oim, pw_oi8, pw_m, pw_ldI, pw_ldL, pw_ldR, pw_stI, pw_stL, pw_nz, pw_ltI, pw_leI, pw_eqI, pw_eqm, pw_eqm2, pw_ltm, pw_mlt, pw_lem, pw_mle, pw_mm, pw_dec, pw_nar0, pw_nar1, nI_add, pw_sub, pw_mul, pw_and, pw_or, pw_andn, pw_shl1, pw_shl, pw_shr, pw_dv, nI_l, Bool.false_eq_true, reduceCtorEq, if_false, if_true, ↓reduceIte, if_pos, if_neg, y1, r_tr, v, pw_cl, pw_cle, q1, q2, r_73_0]
    refine hrec (n - 1) _ _ (by omega) ⟨by omega, by rw [e9], eqx_trans e2 (eqx_pI (by decide)), by rw [pw_pIo (by omega)]; exact y1, fun x hx => ?_⟩
    rw [e9] at hx
    by_cases ex : x = k
    · subst ex
      rw [pw_pIs]
    · rw [pw_pIo (by omega)]
      exact y2 x (by omega)
set_option maxRecDepth 16384 in
theorem c_take4n {h : PH} {t m : Nat} {f : Nat → Int64} (ht : t < 4) (hm : m ≤ 30) (hmany : h.1 (85 + 2 * t) 1 = nI m) (hrow : ∀ k, k < 30 → h.2 (86 + 2 * t) k = f k) (hW : ¬ (1 ≤ m ∧ m ≤ 6 ∧ ∀ k, k < m → isW (f k))) : ok (f_X4_take 73 (85 + 2 * t) h) (fun r h' => r = bI false ∧ eqx [73, 74] h h') := by
  unfold f_X4_take
  refine ok_lt ?_
  have e0 : eqx [73] h (pI h 73 1 (nI m)) := eqx_pI (by simp)
  refine ok_join (fun h2 => eqx [73, 74] h h2) (fun h2 e2 => ok_some ⟨rfl, e2⟩) (fun j hj => ?_)
  simp (disch := omega) only [hmany, pw_lit, pw_pIs]
  by_cases c1 : 1 ≤ m
  · by_cases c2 : m ≤ 6
    · simp (disch := omega) only [pw_ltI, pw_leI, if_pos, if_neg]
      refine ok_lt ?_
      refine ok_join (fun h2 => eqx [73, 74] h h2) (fun h2 e2 => ok_some ⟨rfl, e2⟩) (fun j2 hj2 => ?_)
      refine lp_ok (fun n st h2 => n ≤ m ∧ st = nI (m - n) ∧ eqx [73, 74] h h2 ∧ h2.1 73 1 = nI m ∧ ∀ k, k < m - n → isW (f k)) ?_ FU m _ _ ⟨Nat.le_refl _, by rw [Nat.sub_self], eqx_mono e0 (by decide), pw_pIs, fun k hk => absurd hk (by omega)⟩ (fu_lt (by omega))
      rintro n rec st h2 ⟨hn, rfl, e2, y1, y2⟩ hrec
      unfold b_X4_take_29
      by_cases h0 : n = 0
      · exact absurd ⟨c1, c2, fun k hk => y2 k (by omega)⟩ hW
      · generalize hk : m - n = k at *
        have e9 : m - (n - 1) = k + 1 := by omega
        have v : h2.2 (86 + 2 * t) k = f k := by rw [(e2 _ (by simp; omega)).2]; exact hrow k (by omega)
        by_cases q : isW (f k)
        · obtain ⟨q1, q2⟩ := isW_iff.mp q
          simp (disch := omega) only [pw_lt, pw_cb, pw_cbx, pw_cbxr, pw_lit, pw_litL, pw_oi, pw_oim, pw_oi8, pw_m, pw_ldI, pw_ldL, pw_ldR, pw_stI, pw_stL, pw_nz, pw_ltI, pw_leI, pw_eqI, pw_eqm, pw_eqm2, pw_ltm, pw_mlt, pw_lem, pw_mle, pw_mm, pw_dec, pw_nar0, pw_nar1, nI_add, pw_sub, pw_mul, pw_and, pw_or, pw_andn, pw_shl1, pw_shl, pw_shr, pw_dv, nI_l, Bool.false_eq_true, reduceCtorEq, if_false, if_true, ↓reduceIte, if_pos, if_neg, y1, r_tr, v, pw_cl, pw_cle, q1, q2, r_73_0]
          refine hrec (n - 1) _ _ (by omega) ⟨by omega, by rw [e9], eqx_trans e2 (eqx_pI (by decide)), by rw [pw_pIo (by omega)]; exact y1, fun x hx => ?_⟩
          rw [e9] at hx
          by_cases ex : x = k
          · subst ex
            exact q
          · exact y2 x (by omega)
        · by_cases q1 : f k < lN 0
          · simp (disch := omega) only [pw_lt, pw_cb, pw_cbx, pw_cbxr, pw_lit, pw_litL, pw_oi, pw_oim, pw_oi8, pw_m, pw_ldI, pw_ldL, pw_ldR, pw_stI, pw_stL, pw_nz, pw_ltI, pw_leI, pw_eqI, pw_eqm, pw_eqm2, pw_ltm, pw_mlt, pw_lem, pw_mle, pw_mm, pw_dec, pw_nar0, pw_nar1, nI_add, pw_sub, pw_mul, pw_and, pw_or, pw_andn, pw_shl1, pw_shl, pw_shr, pw_dv, nI_l, lN_i, Bool.false_eq_true, reduceCtorEq, if_false, if_true, ↓reduceIte, if_pos, if_neg, y1, r_tr, v, pw_cl, q1]
            exact hj2 h2 e2
          · have q2 : ¬ f k ≤ lN 99 := fun z => q (isW_iff.mpr ⟨q1, z⟩)
            simp (disch := omega) only [pw_lt, pw_cb, pw_cbx, pw_cbxr, pw_lit, pw_litL, pw_oi, pw_oim, pw_oi8, pw_m, pw_ldI, pw_ldL, pw_ldR, pw_stI, pw_stL, pw_nz, pw_ltI, pw_leI, pw_eqI, pw_eqm, pw_eqm2, pw_ltm, pw_mlt, pw_lem, pw_mle, pw_mm, pw_dec, pw_nar0, pw_nar1, nI_add, pw_sub, pw_mul, pw_and, pw_or, pw_andn, pw_shl1, pw_shl, pw_shr, pw_dv, nI_l, lN_i, Bool.false_eq_true, reduceCtorEq, if_false, if_true, ↓reduceIte, if_pos, if_neg, y1, r_tr, v, pw_cl, pw_cle, q1, q2]
            exact hj2 h2 e2
    · simp (disch := omega) only [pw_ltI, pw_leI, if_neg]
      exact hj _ (eqx_mono e0 (by decide))
  · simp (disch := omega) only [pw_ltI, if_pos]
    exact hj _ (eqx_mono e0 (by decide))

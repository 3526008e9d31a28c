/-! ===== the text, cut into tokens ===== -/
def rnF (f : Nat → Bool) : Nat → Nat → Nat
  | 0, p => p
  | k + 1, p => if f p then rnF f k (p + 1) else p
def runF (f : Nat → Bool) (n p : Nat) : Nat := rnF f (n - p) p
set_option maxRecDepth 16384 in
theorem runF_n {f : Nat → Bool} {n p : Nat} (h : n ≤ p) : runF f n p = p := by
  unfold runF
  rw [show n - p = 0 by omega, rnF]
set_option maxRecDepth 16384 in
theorem runF_s {f : Nat → Bool} {n p : Nat} (h : p < n) (hf : f p = true) : runF f n p = runF f n (p + 1) := by
  unfold runF
  rw [show n - p = (n - (p + 1)) + 1 by omega, rnF, if_pos hf]
set_option maxRecDepth 16384 in
theorem runF_e {f : Nat → Bool} {n p : Nat} (hf : f p = false) : runF f n p = p := by
  unfold runF
  cases n - p with
  | zero => rw [rnF]
  | succ k => rw [rnF, if_neg (by rw [hf]; decide)]
set_option maxRecDepth 16384 in
theorem rnF_b {f : Nat → Bool} : ∀ k p, p ≤ rnF f k p ∧ rnF f k p ≤ p + k ∧ (∀ i, p ≤ i → i < rnF f k p → f i = true) ∧ (rnF f k p < p + k → f (rnF f k p) = false)
  | 0, p => by rw [rnF]; exact ⟨Nat.le_refl _, Nat.le_refl _, fun i h1 h2 => by omega, fun h => by omega⟩
  | k + 1, p => by
    rw [rnF]
    by_cases c : f p = true
    · rw [if_pos c]
      obtain ⟨h1, h2, h3, h4⟩ := rnF_b (f := f) k (p + 1)
      refine ⟨by omega, by omega, fun i q1 q2 => ?_, fun q => h4 (by omega)⟩
      by_cases e : i = p
      · rw [e]; exact c
      · exact h3 i (by omega) q2
    · rw [if_neg c]
      exact ⟨Nat.le_refl _, by omega, fun i h1 h2 => by omega, fun _ => by simpa using c⟩
set_option maxRecDepth 16384 in
theorem runF_b {f : Nat → Bool} {n p : Nat} (h : p ≤ n) : p ≤ runF f n p ∧ runF f n p ≤ n ∧ (∀ i, p ≤ i → i < runF f n p → f i = true) ∧ (runF f n p < n → f (runF f n p) = false) := by
  obtain ⟨h1, h2, h3, h4⟩ := rnF_b (f := f) (n - p) p
  have e : runF f n p = rnF f (n - p) p := rfl
  rw [e]
  exact ⟨h1, by omega, h3, fun q => h4 (by omega)⟩
def isB (c : Nat) : Bool := decide (c = 10 ∨ c = 32)
def isL (c : Nat) : Bool := decide (97 ≤ c) && decide (c ≤ 122)
def isD (c : Nat) : Bool := decide (48 ≤ c) && decide (c ≤ 57)
def sgL : List Nat := [59, 58, 43, 45, 42, 40, 41, 91, 93, 61, 60, 62]
def isG (c : Nat) : Bool := sgL.contains c
def sk (n : Nat) (X : Nat → Nat) (p : Nat) : Nat := runF (fun i => isB (X i)) n p
def enT (n : Nat) (X : Nat → Nat) (b : Nat) : Nat := if n ≤ b then b else if isL (X b) then runF (fun i => isL (X i)) n b else if isD (X b) then runF (fun i => isD (X i)) n b else b + 1
/- kinds: 0 the end, 1 none, 2 a word, 3 a number, 4 a sign -/
def tkd (n : Nat) (X : Nat → Nat) (b : Nat) : Nat := if n ≤ b then 0 else if isL (X b) then 2 else if isD (X b) then (if enT n X b - b ≤ 3 then 3 else 1) else if isG (X b) then 4 else 1
def krf (n : Nat) (X : Nat → Nat) (b : Nat) : Nat := if tkd n X b = 4 then X b else if tkd n X b = 3 then 2 else if tkd n X b = 2 then 1 else if tkd n X b = 1 then 3 else 0
def vlN (X : Nat → Nat) (b : Nat) : Nat → Nat
  | 0 => 0
  | i + 1 => 10 * vlN X b i + (X (b + i) - 48)
def vl (n : Nat) (X : Nat → Nat) (b : Nat) : Nat := vlN X b (enT n X b - b)
def nx (n : Nat) (X : Nat → Nat) (b : Nat) : Nat := sk n X (enT n X b)
set_option maxRecDepth 16384 in
theorem en_b {n : Nat} {X : Nat → Nat} {b : Nat} (h : b ≤ n) : b ≤ enT n X b ∧ enT n X b ≤ n ∧ (b < n → b < enT n X b) := by
  unfold enT
  by_cases c : n ≤ b
  · rw [if_pos c]
    exact ⟨Nat.le_refl _, h, fun q => by omega⟩
  · rw [if_neg c]
    by_cases c1 : isL (X b) = true
    · rw [if_pos c1, runF_s (f := fun i => isL (X i)) (by omega) c1]
      have := runF_b (f := fun i => isL (X i)) (n := n) (p := b + 1) (by omega)
      exact ⟨by omega, by omega, fun _ => by omega⟩
    · rw [if_neg c1]
      by_cases c2 : isD (X b) = true
      · rw [if_pos c2, runF_s (f := fun i => isD (X i)) (by omega) c2]
        have := runF_b (f := fun i => isD (X i)) (n := n) (p := b + 1) (by omega)
        exact ⟨by omega, by omega, fun _ => by omega⟩
      · rw [if_neg c2]
        exact ⟨by omega, by omega, fun _ => by omega⟩
set_option maxRecDepth 16384 in
theorem sk_b {n : Nat} {X : Nat → Nat} {p : Nat} (h : p ≤ n) : p ≤ sk n X p ∧ sk n X p ≤ n := by
  have := runF_b (f := fun i => isB (X i)) (n := n) h
  exact ⟨this.1, this.2.1⟩
set_option maxRecDepth 16384 in
theorem nx_b {n : Nat} {X : Nat → Nat} {b : Nat} (h : b ≤ n) : enT n X b ≤ nx n X b ∧ nx n X b ≤ n ∧ (b < n → b < nx n X b) := by
  have h1 := en_b (X := X) h
  have h2 := sk_b (X := X) h1.2.1
  unfold nx
  exact ⟨h2.1, h2.2, fun q => by have := h1.2.2 q; omega⟩
set_option maxRecDepth 16384 in
theorem tkd_n {n : Nat} {X : Nat → Nat} {b : Nat} (h : tkd n X b ≠ 0) : b < n := by
  unfold tkd at h
  by_cases c : n ≤ b
  · rw [if_pos c] at h
    exact absurd rfl h
  · omega
set_option maxRecDepth 16384 in
theorem tkd_le (n : Nat) (X : Nat → Nat) (b : Nat) : tkd n X b ≤ 4 := by
  unfold tkd
  split
  · omega
  · split
    · omega
    · split
      · split <;> omega
      · split <;> omega
/- the text, as both hold it -/
def TX (n : Nat) (X : Nat → Nat) (h : PH) : Prop := n ≤ 900 ∧ ∀ k, k < n → X k < 256 ∧ h.1 158 k = nI (X k) ∧ h.1 1 k = (nI (X k)).toInt8.toInt32
set_option maxRecDepth 16384 in
theorem TX_to {n : Nat} {X : Nat → Nat} {h h' : PH} {S : List Nat} (e : eqx S h h') (a : 158 ∉ S) (b : 1 ∉ S) (t : TX n X h) : TX n X h' := ⟨t.1, fun k hk => by rw [(e 158 a).1, (e 1 b).1]; exact t.2 k hk⟩
/- a byte as the class sees it -/
def sby (b : Nat) : Int32 := (nI b).toInt8.toInt32
set_option maxRecDepth 16384 in
theorem sby_lo {b : Nat} (h : b < 128) : sby b = nI b := (by decide +kernel : ∀ b, b < 128 → sby b = nI b) b h
set_option maxRecDepth 16384 in
theorem sby_hi {b : Nat} (h : 128 ≤ b) (h2 : b < 256) : sby b < nI 0 := (by decide +kernel : ∀ b, b < 256 → 128 ≤ b → sby b < nI 0) b h2 h
set_option maxRecDepth 16384 in
theorem sby_eq {b c : Nat} (hb : b < 256) (hc : c < 128) : (sby b = nI c) = (b = c) := by
  rcases Nat.lt_or_ge b 128 with h | h
  · rw [sby_lo h, pw_eqI (by omega) (by omega)]
  · refine propext ⟨fun e => ?_, fun e => by omega⟩
    have := sby_hi h hb
    rw [e, pw_ltI (by omega) (by omega)] at this
    omega
set_option maxRecDepth 16384 in
theorem sby_lt {b c : Nat} (hb : b < 256) (hc : c < 128) : (sby b < nI c) = (b < c ∨ 128 ≤ b) := by
  rcases Nat.lt_or_ge b 128 with h | h
  · rw [sby_lo h, pw_ltI (by omega) (by omega)]
    refine propext ⟨fun q => Or.inl q, fun q => by omega⟩
  · have h1 := sby_hi h hb
    refine propext ⟨fun _ => Or.inr h, fun _ => ?_⟩
    rw [Int32.lt_iff_toInt_lt, pw_toInt (by omega)] at h1
    rw [Int32.lt_iff_toInt_lt, pw_toInt (by omega)]
    omega
set_option maxRecDepth 16384 in
theorem sby_gt {b c : Nat} (hb : b < 256) (hc : c < 128) : (nI c < sby b) = (c < b ∧ b < 128) := by
  rcases Nat.lt_or_ge b 128 with h | h
  · rw [sby_lo h, pw_ltI (by omega) (by omega)]
    refine propext ⟨fun q => ⟨q, h⟩, fun q => q.1⟩
  · have h1 := sby_hi h hb
    refine propext ⟨fun q => ?_, fun q => by omega⟩
    rw [Int32.lt_iff_toInt_lt, pw_toInt (by omega)] at h1 q
    omega
set_option maxRecDepth 16384 in
theorem isL_iff {c : Nat} : isL c = true ↔ 97 ≤ c ∧ c ≤ 122 := by
  unfold isL
  simp
set_option maxRecDepth 16384 in
theorem isD_iff {c : Nat} : isD c = true ↔ 48 ≤ c ∧ c ≤ 57 := by
  unfold isD
  simp
set_option maxRecDepth 16384 in
theorem isB_iff {c : Nat} : isB c = true ↔ c = 10 ∨ c = 32 := by
  unfold isB
  simp
/-! the class's tokens -/
def TC (n : Nat) (X : Nat → Nat) (b : Nat) (h : PH) : Prop := h.1 15 1 = nI n ∧ h.1 15 2 = nI (enT n X b) ∧ h.1 15 3 = nI b ∧ h.1 15 4 = nI (tkd n X b) ∧ b ≤ n
set_option maxRecDepth 16384 in
theorem TC_to {n : Nat} {X : Nat → Nat} {b : Nat} {h h' : PH} {S : List Nat} (e : eqx S h h') (a : 15 ∉ S) (t : TC n X b h) : TC n X b h' := by
  unfold TC
  rw [(e 15 a).1]
  exact t
set_option maxRecDepth 16384 in
theorem c_runEnd {n : Nat} {X : Nat → Nat} {lo hi b : Nat} {h : PH} (T : TX n X h) (hlo : lo < 128) (hhi : hi < 128) (v1 : h.1 15 1 = nI n) (v3 : h.1 15 3 = nI b) (hb : b ≤ n) : f_X9_runEnd 15 (nI lo) (nI hi) h = some (nI (runF (fun i => decide (lo ≤ X i) && decide (X i ≤ hi)) n b), h) := by
  unfold f_X9_runEnd
  simp only [pw_lt, v3]
  have hn := T.1
  obtain ⟨r, x, hx, y1, y2⟩ : ok (lp (b_X9_runEnd_5 15 (nI lo) (nI hi) (fun (y2 : Int32) (h3 : PH) => some (y2, h3))) FU (nI b) h) (fun r h' => r = nI (runF (fun i => decide (lo ≤ X i) && decide (X i ≤ hi)) n b) ∧ h' = h) := by
    refine lp_ok (fun k s h1 => ∃ p, p + k = n ∧ b ≤ p ∧ s = nI p ∧ h1 = h ∧ runF (fun i => decide (lo ≤ X i) && decide (X i ≤ hi)) n b = runF (fun i => decide (lo ≤ X i) && decide (X i ≤ hi)) n p) ?_ FU (n - b) _ h ⟨b, by omega, Nat.le_refl _, rfl, rfl, rfl⟩ (fu_lt (by omega))
    rintro k rec s h1 ⟨p, hp, hbp, rfl, rfl, hr⟩ hrec
    unfold b_X9_runEnd_5
    by_cases h0 : k = 0
    · have hpn : p = n := by omega
      subst hpn
      rw [runF_n (Nat.le_refl _)] at hr
      simp (disch := omega) only [pw_lt, pw_cb, pw_cbx, pw_cbxr, pw_lit, pw_litL, pw_oi, pw_oim, pw_oi8, pw_m, pw_ldI, pw_ldL, pw_ldR, pw_stI, pw_stL, pw_nz, pw_ltI, pw_leI, pw_eqI, pw_eqm, pw_eqm2, pw_ltm, pw_mlt, pw_lem, pw_mle, pw_mm, pw_dec, pw_nar0, pw_nar1, nI_add, pw_sub, pw_mul, pw_and, pw_or, pw_andn, pw_shl1, pw_shl, pw_shr, pw_dv, nI_l, lN_i, Bool.false_eq_true, reduceCtorEq, if_false, if_true, ↓reduceIte, if_pos, if_neg, v1, Nat.le_refl]
      exact ok_some ⟨by rw [hr], rfl⟩
    · obtain ⟨t1, t2, t3⟩ := T.2 p (by omega)
      have t3 : h1.1 1 p = sby (X p) := t3
      by_cases c : lo ≤ X p ∧ X p ≤ hi
      · have hf : (fun i => decide (lo ≤ X i) && decide (X i ≤ hi)) p = true := by
          show (decide (lo ≤ X p) && decide (X p ≤ hi)) = true
          rw [decide_eq_true c.1, decide_eq_true c.2]
          rfl
        rw [runF_s (f := fun i => decide (lo ≤ X i) && decide (X i ≤ hi)) (by omega) hf] at hr
        simp (disch := omega) only [pw_lt, pw_cb, pw_cbx, pw_cbxr, pw_lit, pw_litL, pw_oi, pw_oim, pw_oi8, pw_m, pw_ldI, pw_ldL, pw_ldR, pw_stI, pw_stL, pw_nz, pw_ltI, pw_leI, pw_eqI, pw_eqm, pw_eqm2, pw_ltm, pw_mlt, pw_lem, pw_mle, pw_mm, pw_dec, pw_nar0, pw_nar1, nI_add, pw_sub, pw_mul, pw_and, pw_or, pw_andn, pw_shl1, pw_shl, pw_shr, pw_dv, nI_l, lN_i, Bool.false_eq_true, reduceCtorEq, if_false, if_true, ↓reduceIte, if_pos, if_neg, v1, r_15_0, t3, sby_lt, sby_gt]
        exact hrec (k - 1) _ _ (by omega) ⟨p + 1, by omega, by omega, rfl, rfl, hr⟩
      · have hf : (fun i => decide (lo ≤ X i) && decide (X i ≤ hi)) p = false := by
          show (decide (lo ≤ X p) && decide (X p ≤ hi)) = false
          rw [← Bool.decide_and]
          exact decide_eq_false c
        rw [runF_e (f := fun i => decide (lo ≤ X i) && decide (X i ≤ hi)) hf] at hr
        by_cases c1 : X p < lo ∨ 128 ≤ X p
        · simp (disch := omega) only [pw_lt, pw_cb, pw_cbx, pw_cbxr, pw_lit, pw_litL, pw_oi, pw_oim, pw_oi8, pw_m, pw_ldI, pw_ldL, pw_ldR, pw_stI, pw_stL, pw_nz, pw_ltI, pw_leI, pw_eqI, pw_eqm, pw_eqm2, pw_ltm, pw_mlt, pw_lem, pw_mle, pw_mm, pw_dec, pw_nar0, pw_nar1, nI_add, pw_sub, pw_mul, pw_and, pw_or, pw_andn, pw_shl1, pw_shl, pw_shr, pw_dv, nI_l, lN_i, Bool.false_eq_true, reduceCtorEq, if_false, if_true, ↓reduceIte, if_pos, if_neg, v1, r_15_0, t3, sby_lt]
          exact ok_some ⟨by rw [hr], rfl⟩
        · have c2 : hi < X p ∧ X p < 128 := by omega
          simp (disch := omega) only [pw_lt, pw_cb, pw_cbx, pw_cbxr, pw_lit, pw_litL, pw_oi, pw_oim, pw_oi8, pw_m, pw_ldI, pw_ldL, pw_ldR, pw_stI, pw_stL, pw_nz, pw_ltI, pw_leI, pw_eqI, pw_eqm, pw_eqm2, pw_ltm, pw_mlt, pw_lem, pw_mle, pw_mm, pw_dec, pw_nar0, pw_nar1, nI_add, pw_sub, pw_mul, pw_and, pw_or, pw_andn, pw_shl1, pw_shl, pw_shr, pw_dv, nI_l, lN_i, Bool.false_eq_true, reduceCtorEq, if_false, if_true, ↓reduceIte, if_pos, if_neg, v1, r_15_0, t3, sby_lt, sby_gt]
          exact ok_some ⟨by rw [hr], rfl⟩
  rw [hx, y1, y2]
set_option maxRecDepth 16384 in
theorem e_len {w : Nat} {h : PH} (hw : slen w < 2147483648) : f_J0_length_8abf5 w h = some (nI (slen w), h) := by
  have hs : (Int32.ofNat (slen w) >>> (nI 0 &&& 31)) = nI (slen w) := by
    have := pw_shr (a := slen w) (i := 0) hw (by decide)
    exact this
  unfold f_J0_length_8abf5 f_J0_coder_7d493
  have hb : br_ (nI 0) h = some (nI 0, h) := rfl
  simp (disch := omega) only [pw_lt, pw_lit, pw_eqI, show ¬ (1 = 0) by decide, if_false, hb, pw_cb]
  exact congrArg (fun z => some (z, h)) hs
set_option maxRecDepth 16384 in
theorem slen_lt {w : Nat} (hw : w < 66) : slen w < 128 := (by decide +kernel : ∀ w, w < 66 → slen w < 128) w hw
def wbN (w k : Nat) : Nat := ((sb w).getD k 0).toNatClampNeg
set_option maxRecDepth 16384 in
theorem wb_ok {w k : Nat} (hw : w < 66) (hk : k < slen w) : (sb w).getD k 0 = nI (wbN w k) ∧ wbN w k < 128 :=
  (by decide +kernel : ∀ w, w < 66 → ∀ k, k < slen w → (sb w).getD k 0 = nI (wbN w k) ∧ wbN w k < 128) w hw k hk
set_option maxRecDepth 16384 in
theorem ch_ok {c : Nat} (hc : c < 256) : ((nI c &&& nI 255).toUInt32 % 65536).toInt32 = nI c := (by decide +kernel : ∀ c, c < 256 → ((nI c &&& nI 255).toUInt32 % 65536).toInt32 = nI c) c hc
set_option maxRecDepth 16384 in
theorem ch_sv {c : Nat} (hc : c < 256) : ((sby c &&& nI 255).toUInt32 % 65536).toInt32 = nI c := (by decide +kernel : ∀ c, c < 256 → ((sby c &&& nI 255).toUInt32 % 65536).toInt32 = nI c) c hc
set_option maxRecDepth 16384 in
theorem cr_ok {c : Nat} {h : PH} (hc : c < 256) : cr (nI c) h = some (nI c, h) := if_pos ((by decide +kernel : ∀ c, c < 256 → (nI c).toUInt32.toUInt16.toUInt32.toInt32 = nI c) c hc)
set_option maxRecDepth 16384 in
theorem pw_ldS {γ : Type} {q k : Nat} {g : Int32 → Option γ} (hk : k < slen q) (hn : k < 2147483648) : ldS q (nI k) g = g ((sb q).getD k 0) := by
  unfold ldS
  rw [pw_toInt hn, pw_clamp hn, if_pos ⟨by omega, by omega⟩]
set_option maxRecDepth 16384 in
theorem e_isLat {w : Nat} {h : PH} : f_J0_isLatin1_aae02 w h = some (nI 1, h) := rfl
set_option maxRecDepth 16384 in
theorem e_charAt {w k : Nat} {h : PH} (hw : w < 66) (hk : k < slen w) : f_J0_charAt_5068e w (nI k) h = some (nI (wbN w k), h) := by
  have hl := slen_lt hw
  obtain ⟨a1, a2⟩ := wb_ok hw hk
  have a1 : (sb w).getD k (nI 0) = nI (wbN w k) := a1
  have hch := ch_ok (show wbN w k < 256 by omega)
  have hcr := cr_ok (h := h) (show wbN w k < 256 by omega)
  have hof : Int32.ofNat (slen w) = nI (slen w) := rfl
  unfold f_J0_charAt_5068e f_J1_charAt_3b067 f_J0_checkIndex_df160 f_J3_checkIndex_8e157
  rw [e_isLat]
  simp (disch := omega) only [pw_cb, pw_lit, pw_eqI, show ¬ (1 = 0) by decide, if_false, pw_lt, hof, pw_ltI, if_neg, if_pos, pw_ldS, a1, hch, hcr]
/- a token is a certain word or sign -/
def isWd (n : Nat) (X : Nat → Nat) (b w : Nat) : Bool := decide (enT n X b - b = slen w) && allN (slen w) (fun k => decide (X (b + k) = wbN w k))
set_option maxRecDepth 16384 in
theorem isWd_iff {n : Nat} {X : Nat → Nat} {b w : Nat} : isWd n X b w = true ↔ enT n X b - b = slen w ∧ ∀ k, k < slen w → X (b + k) = wbN w k := by
  unfold isWd
  rw [Bool.and_eq_true, decide_eq_true_eq, allN_iff]
  simp only [decide_eq_true_eq]
set_option maxRecDepth 16384 in
theorem c_at' {n : Nat} {X : Nat → Nat} {b w : Nat} {h : PH} (T : TX n X h) (C : TC n X b h) (hw : w < 66) : f_X9_at 15 w h = some (bI (isWd n X b w), h) := by
  have hl := slen_lt hw
  have hn := T.1
  obtain ⟨c1, c2, c3, c4, hb⟩ := C
  have heb := en_b (X := X) hb
  unfold f_X9_at
  rw [e_len (by omega)]
  simp (disch := omega) only [pw_cb, c2, c3, pw_sub, pw_eqI]
  by_cases q : enT n X b - b = slen w
  · rw [if_pos q]
    obtain ⟨r, x, hx, y1, y2⟩ : ok (lp (b_X9_at_20 15 w) FU (nI 0) h) (fun r h' => r = bI (isWd n X b w) ∧ h' = h) := by
      refine lp_ok (fun m s h1 => m ≤ slen w ∧ s = nI (slen w - m) ∧ h1 = h ∧ ∀ k, k < slen w - m → X (b + k) = wbN w k) ?_ FU (slen w) _ h ⟨Nat.le_refl _, by rw [Nat.sub_self], rfl, fun k hk => absurd hk (by omega)⟩ (fu_lt (by omega))
      rintro m rec s h1 ⟨hm, rfl, rfl, y⟩ hrec
      unfold b_X9_at_20
      rw [e_len (by omega)]
      by_cases h0 : m = 0
      · subst h0
        have hf : isWd n X b w = true := isWd_iff.mpr ⟨q, fun k hk => y k (by omega)⟩
        simp (disch := omega) only [pw_lt, pw_cb, pw_cbx, pw_cbxr, pw_lit, pw_litL, pw_oi, pw_oim, pw_oi8, pw_m, pw_ldI, pw_ldL, pw_ldR, pw_stI, pw_stL, pw_nz, pw_ltI, pw_leI, pw_eqI, pw_eqm, pw_eqm2, pw_ltm, pw_mlt, pw_lem, pw_mle, pw_mm, pw_dec, pw_nar0, pw_nar1, nI_add, pw_sub, pw_mul, pw_and, pw_or, pw_andn, pw_shl1, pw_shl, pw_shr, pw_dv, nI_l, lN_i, Bool.false_eq_true, reduceCtorEq, if_false, if_true, ↓reduceIte, if_pos, if_neg, Nat.sub_zero, Nat.le_refl]
        exact ok_some ⟨by rw [hf]; rfl, rfl⟩
      · generalize hk : slen w - m = k at *
        have e9 : slen w - (m - 1) = k + 1 := by omega
        obtain ⟨t1, t2, t3⟩ := T.2 (b + k) (by omega)
        have t3 : h1.1 1 (b + k) = sby (X (b + k)) := t3
        have hc := e_charAt (h := h1) hw (show k < slen w by omega)
        have hcl := (wb_ok hw (show k < slen w by omega)).2
        by_cases e : X (b + k) = wbN w k
        · simp (disch := omega) only [pw_lt, pw_cb, pw_cbx, pw_cbxr, pw_lit, pw_litL, pw_oi, pw_oim, pw_oi8, pw_m, pw_ldI, pw_ldL, pw_ldR, pw_stI, pw_stL, pw_nz, pw_ltI, pw_leI, pw_eqI, pw_eqm, pw_eqm2, pw_ltm, pw_mlt, pw_lem, pw_mle, pw_mm, pw_dec, pw_nar0, pw_nar1, nI_add, pw_sub, pw_mul, pw_and, pw_or, pw_andn, pw_shl1, pw_shl, pw_shr, pw_dv, nI_l, lN_i, Bool.false_eq_true, reduceCtorEq, if_false, if_true, ↓reduceIte, if_pos, if_neg, c3, r_15_0, t3, hc, sby_eq]
          refine hrec (m - 1) _ _ (by omega) ⟨by omega, by rw [e9], rfl, fun x hx => ?_⟩
          rw [e9] at hx
          by_cases ex : x = k
          · subst ex
            exact e
          · exact y x (by omega)
        · have hf : isWd n X b w = false := by
            cases hq : isWd n X b w
            · rfl
            · exact absurd ((isWd_iff.mp hq).2 k (by omega)) e
          simp (disch := omega) only [pw_lt, pw_cb, pw_cbx, pw_cbxr, pw_lit, pw_litL, pw_oi, pw_oim, pw_oi8, pw_m, pw_ldI, pw_ldL, pw_ldR, pw_stI, pw_stL, pw_nz, pw_ltI, pw_leI, pw_eqI, pw_eqm, pw_eqm2, pw_ltm, pw_mlt, pw_lem, pw_mle, pw_mm, pw_dec, pw_nar0, pw_nar1, nI_add, pw_sub, pw_mul, pw_and, pw_or, pw_andn, pw_shl1, pw_shl, pw_shr, pw_dv, nI_l, lN_i, Bool.false_eq_true, reduceCtorEq, if_false, if_true, ↓reduceIte, if_pos, if_neg, c3, r_15_0, t3, hc, sby_eq]
          exact ok_some ⟨by rw [hf]; rfl, rfl⟩
    have hx : lp (b_X9_at_20 15 w) FU (0 : Int32) h = some (r, x) := hx
    simp only [pw_lt]
    rw [hx, y1, y2]
  · have hf : isWd n X b w = false := by
      cases hq : isWd n X b w
      · rfl
      · exact absurd (isWd_iff.mp hq).1 q
    rw [if_neg q, hf]
    rfl
set_option maxRecDepth 16384 in
theorem c_value {n : Nat} {X : Nat → Nat} {b : Nat} {h : PH} (T : TX n X h) (C : TC n X b h) (hk : tkd n X b = 3) : f_X9_value 15 h = some (nI (vl n X b), h) ∧ vl n X b ≤ 999 := by
  have hn := T.1
  have hbn := tkd_n (n := n) (X := X) (b := b) (by omega)
  obtain ⟨c1, c2, c3, c4, hb⟩ := C
  have heb := en_b (X := X) hb
  have hDL : isL (X b) = false ∧ isD (X b) = true ∧ enT n X b - b ≤ 3 := by
    unfold tkd at hk
    rw [if_neg (by omega)] at hk
    cases h1 : isL (X b)
    · rw [h1, if_neg (by decide)] at hk
      cases h2 : isD (X b)
      · rw [h2, if_neg (by decide)] at hk
        split at hk <;> omega
      · rw [h2, if_pos rfl] at hk
        by_cases c : enT n X b - b ≤ 3
        · exact ⟨rfl, rfl, c⟩
        · rw [if_neg c] at hk
          omega
    · rw [h1, if_pos rfl] at hk
      omega
  obtain ⟨d1, d2, d3⟩ := hDL
  have hen : enT n X b = runF (fun i => isD (X i)) n b := by
    unfold enT
    rw [if_neg (by omega), d1, if_neg (by decide), d2, if_pos rfl]
  have hdig : ∀ i, i < enT n X b - b → 48 ≤ X (b + i) ∧ X (b + i) ≤ 57 := fun i hi => by
    have := (runF_b (f := fun i => isD (X i)) hb).2.2.1 (b + i) (by omega) (by rw [← hen]; omega)
    exact isD_iff.mp this
  have hvb : ∀ i, i ≤ enT n X b - b → vlN X b i < 10 ^ i := by
    intro i
    induction i with
    | zero => intro _; simp [vlN]
    | succ i ih =>
      intro hi
      have h1 := ih (by omega)
      have h2 := hdig i (by omega)
      rw [vlN, Nat.pow_succ]
      omega
  have h999 : vl n X b ≤ 999 := by
    have h1 := hvb (enT n X b - b) (Nat.le_refl _)
    have h2 : 10 ^ (enT n X b - b) ≤ 10 ^ 3 := Nat.pow_le_pow_right (by decide) d3
    have h3 : 10 ^ 3 = 1000 := rfl
    unfold vl
    omega
  refine ⟨?_, h999⟩
  unfold f_X9_value
  simp only [pw_lt, pw_lit, c3]
  refine lp_run (fun i => (nI (vlN X b i), nI (b + i))) (fun _ => h) (enT n X b - b) _ ?_ ?_ FU (fu_lt (by omega))
  · intro i hi rec
    obtain ⟨t1, t2, t3⟩ := T.2 (b + i) (by omega)
    have t3 : h.1 1 (b + i) = sby (X (b + i)) := t3
    have hd := hdig i hi
    have hsv := sby_lo (b := X (b + i)) (by omega)
    have hv := hvb i (by omega)
    have h2 : 10 ^ i ≤ 10 ^ 3 := Nat.pow_le_pow_right (by decide) (by omega)
    have h3 : 10 ^ 3 = 1000 := rfl
    have e : 10 * vlN X b i + X (b + i) - 48 = 10 * vlN X b i + (X (b + i) - 48) := by omega
    unfold b_X9_value_7
    simp (disch := omega) only [pw_lt, pw_cb, pw_cbx, pw_cbxr, pw_lit, pw_litL, pw_oi, pw_oim, pw_oi8, pw_m, pw_ldI, pw_ldL, pw_ldR, pw_stI, pw_stL, pw_nz, pw_ltI, pw_leI, pw_eqI, pw_eqm, pw_eqm2, pw_ltm, pw_mlt, pw_lem, pw_mle, pw_mm, pw_dec, pw_nar0, pw_nar1, nI_add, pw_sub, pw_mul, pw_and, pw_or, pw_andn, pw_shl1, pw_shl, pw_shr, pw_dv, nI_l, lN_i, Bool.false_eq_true, reduceCtorEq, if_false, if_true, ↓reduceIte, if_pos, if_neg, c2, r_15_0, t3, hsv, vlN, e, Nat.add_assoc]
  · intro rec
    have e : b + (enT n X b - b) = enT n X b := by omega
    unfold b_X9_value_7
    simp (disch := omega) only [pw_lt, pw_cb, pw_cbx, pw_cbxr, pw_lit, pw_litL, pw_oi, pw_oim, pw_oi8, pw_m, pw_ldI, pw_ldL, pw_ldR, pw_stI, pw_stL, pw_nz, pw_ltI, pw_leI, pw_eqI, pw_eqm, pw_eqm2, pw_ltm, pw_mlt, pw_lem, pw_mle, pw_mm, pw_dec, pw_nar0, pw_nar1, nI_add, pw_sub, pw_mul, pw_and, pw_or, pw_andn, pw_shl1, pw_shl, pw_shr, pw_dv, nI_l, lN_i, Bool.false_eq_true, reduceCtorEq, if_false, if_true, ↓reduceIte, if_pos, if_neg, c2, e, Nat.le_refl]
    rfl

/-! ===== wants: the reference ===== -/
def SN (P : List Nat) (a : Nat) (h : PH) : Prop := ∀ j, j < P.length → h.1 a j = nI (nth P j)
set_option maxRecDepth 16384 in
theorem nth_cons_lt {P : List Nat} {t j : Nat} (hj : j < P.length) : nth (t :: P) j = nth P j := by
  unfold nth
  rw [List.length_cons, show P.length + 1 - 1 - j = (P.length - 1 - j) + 1 by omega]
  rfl
set_option maxRecDepth 16384 in
theorem nth_cons_top {P : List Nat} {t : Nat} : nth (t :: P) P.length = t := by
  unfold nth
  rw [List.length_cons, show P.length + 1 - 1 - P.length = 0 by omega]
  rfl
set_option maxRecDepth 16384 in
theorem SN_push {P : List Nat} {a t : Nat} {h : PH} (S : SN P a h) : SN (t :: P) a (pI h a P.length (nI t)) := by
  intro j hj
  rw [List.length_cons] at hj
  by_cases e : j = P.length
  · subst e
    rw [pw_pIs, nth_cons_top]
  · rw [pw_pIo (by omega), S j (by omega), nth_cons_lt (by omega)]
def NV (t m : Nat) (v : Nat → Nat) (h : PH) : Prop := h.1 175 t = nI m ∧ ∀ k, k < m → h.2 176 (30 * t + k) = lN (v k)
set_option maxRecDepth 16384 in
theorem NV_to {t m : Nat} {v : Nat → Nat} {h h' : PH} {S : List Nat} (e : eqx S h h') (a : 175 ∉ S) (b : 176 ∉ S) (n : NV t m v h) : NV t m v h' := ⟨by rw [(e 175 a).1]; exact n.1, fun k hk => by rw [(e 176 b).2]; exact n.2 k hk⟩
set_option maxRecDepth 16384 in
theorem allN_iff {f : Nat → Bool} : ∀ {n : Nat}, allN n f = true ↔ ∀ i, i < n → f i = true
  | 0 => by simp [allN]
  | n + 1 => by
    rw [allN, Bool.and_eq_true, allN_iff]
    constructor
    · rintro ⟨h1, h2⟩ i hi
      rcases Nat.lt_or_ge i n with q | q
      · exact h1 i q
      · rw [show i = n by omega]
        exact h2
    · intro h
      exact ⟨fun i hi => h i (by omega), h n (by omega)⟩
set_option maxRecDepth 16384 in
theorem pm_nth {P : List Nat} {x : Nat} : pm P x = allN P.length (fun i => so (nth P i) x) := by
  rw [Bool.eq_iff_iff, allN_iff]
  unfold pm
  rw [List.all_eq_true]
  constructor
  · intro h i hi
    exact h _ (nth_mem hi)
  · intro h t ht
    obtain ⟨i, hi, rfl⟩ := mem_nth ht
    exact h i hi
set_option maxRecDepth 16384 in
theorem md2 (t : Nat) : t - t / 2 * 2 = t % 2 := by omega
set_option maxRecDepth 16384 in
theorem e_isSo {t x : Nat} {h : PH} (ht : t < 64) (hx : x < 4096) : f_X12_isSo (nI t) (nI x) h = some (bI (so t x), h) := by
  have hm := md2 t
  have hm2 : t % 2 < 2 := Nat.mod_lt _ (by decide)
  unfold f_X12_isSo
  simp (disch := omega) only [pw_lit, pw_nz, pw_dv, pw_mul, pw_sub, hm, pw_and, pw_shr, pw_tb, pw_lt]
  unfold so
  rcases tf (x.testBit (t / 2)) with b | b
  · rw [b]
    by_cases c : t % 2 = 1
    · simp (disch := omega) only [pw_lt, pw_cb, pw_cbx, pw_cbxr, pw_lit, pw_litL, pw_oi, pw_oim, pw_oi8, pw_m, pw_ldI, pw_ldL, pw_ldR, pw_stI, pw_stL, pw_nz, pw_ltI, pw_leI, pw_eqI, pw_eqm, pw_eqm2, pw_ltm, pw_mlt, pw_lem, pw_mle, pw_mm, pw_dec, pw_nar0, pw_nar1, nI_add, pw_sub, pw_mul, pw_and, pw_or, pw_andn, pw_shl1, pw_shl, pw_shr, pw_dv, nI_l, lN_i, Bool.false_eq_true, reduceCtorEq, if_false, if_true, ↓reduceIte, if_pos, if_neg, c, decide_true]
      rfl
    · have c0 : t % 2 = 0 := by omega
      simp (disch := omega) only [pw_lt, pw_cb, pw_cbx, pw_cbxr, pw_lit, pw_litL, pw_oi, pw_oim, pw_oi8, pw_m, pw_ldI, pw_ldL, pw_ldR, pw_stI, pw_stL, pw_nz, pw_ltI, pw_leI, pw_eqI, pw_eqm, pw_eqm2, pw_ltm, pw_mlt, pw_lem, pw_mle, pw_mm, pw_dec, pw_nar0, pw_nar1, nI_add, pw_sub, pw_mul, pw_and, pw_or, pw_andn, pw_shl1, pw_shl, pw_shr, pw_dv, nI_l, lN_i, Bool.false_eq_true, reduceCtorEq, if_false, if_true, ↓reduceIte, if_pos, if_neg, c0]
      rfl
  · rw [b]
    by_cases c : t % 2 = 1
    · simp (disch := omega) only [pw_lt, pw_cb, pw_cbx, pw_cbxr, pw_lit, pw_litL, pw_oi, pw_oim, pw_oi8, pw_m, pw_ldI, pw_ldL, pw_ldR, pw_stI, pw_stL, pw_nz, pw_ltI, pw_leI, pw_eqI, pw_eqm, pw_eqm2, pw_ltm, pw_mlt, pw_lem, pw_mle, pw_mm, pw_dec, pw_nar0, pw_nar1, nI_add, pw_sub, pw_mul, pw_and, pw_or, pw_andn, pw_shl1, pw_shl, pw_shr, pw_dv, nI_l, lN_i, Bool.false_eq_true, reduceCtorEq, if_false, if_true, ↓reduceIte, if_pos, if_neg, c, decide_true]
      rfl
    · have c0 : t % 2 = 0 := by omega
      simp (disch := omega) only [pw_lt, pw_cb, pw_cbx, pw_cbxr, pw_lit, pw_litL, pw_oi, pw_oim, pw_oi8, pw_m, pw_ldI, pw_ldL, pw_ldR, pw_stI, pw_stL, pw_nz, pw_ltI, pw_leI, pw_eqI, pw_eqm, pw_eqm2, pw_ltm, pw_mlt, pw_lem, pw_mle, pw_mm, pw_dec, pw_nar0, pw_nar1, nI_add, pw_sub, pw_mul, pw_and, pw_or, pw_andn, pw_shl1, pw_shl, pw_shr, pw_dv, nI_l, lN_i, Bool.false_eq_true, reduceCtorEq, if_false, if_true, ↓reduceIte, if_pos, if_neg, c0]
      rfl
set_option maxRecDepth 16384 in
theorem e_doPart {t m : Nat} {v : Nat → Nat} {h : PH} {P : List Nat} (ht : t < 4) (hm : m ≤ 12) (hv : ∀ k, k < m → v k < 8192) (N : NV t m v h) (hl : P.length ≤ 3) (hP : ∀ u, u ∈ P → u < 64) (S : SN P 168 h) : f_X12_doPart 152 (nI t) (nI P.length) h = some (bI (fwt m v P), h) := by
  have key : ∀ (x : Nat) (hx : x < 8192) (j : Int32 → PH → Option (Int32 × PH)), lp (b_X12_doPart_32 152 (nI P.length) (nI x) j) FU (nI 1, nI 0) h = j (bI (pm P (x / 2))) h := by
    intro x hx j
    rw [pm_nth]
    refine lp_run (fun i => (bI (allN i (fun i => so (nth P i) (x / 2))), nI i)) (fun _ => h) P.length _ ?_ ?_ FU (fu_lt (by omega))
    · intro i hi rec
      have s1 := S i hi
      have hu := hP _ (nth_mem hi)
      have hs := e_isSo (h := h) hu (show x / 2 < 4096 by omega)
      unfold b_X12_doPart_32
      rcases tf (allN i (fun i => so (nth P i) (x / 2))) with a | a
      · simp (disch := omega) only [pw_lt, pw_cb, pw_cbx, pw_cbxr, pw_lit, pw_litL, pw_oi, pw_oim, pw_oi8, pw_m, pw_ldI, pw_ldL, pw_ldR, pw_stI, pw_stL, pw_nz, pw_ltI, pw_leI, pw_eqI, pw_eqm, pw_eqm2, pw_ltm, pw_mlt, pw_lem, pw_mle, pw_mm, pw_dec, pw_nar0, pw_nar1, nI_add, pw_sub, pw_mul, pw_and, pw_or, pw_andn, pw_shl1, pw_shl, pw_shr, pw_dv, nI_l, lN_i, Bool.false_eq_true, reduceCtorEq, if_false, if_true, ↓reduceIte, if_pos, if_neg, a, bI_0', allN, Bool.false_and]
        rfl
      · rcases tf (so (nth P i) (x / 2)) with b | b
        · simp (disch := omega) only [pw_lt, pw_cb, pw_cbx, pw_cbxr, pw_lit, pw_litL, pw_oi, pw_oim, pw_oi8, pw_m, pw_ldI, pw_ldL, pw_ldR, pw_stI, pw_stL, pw_nz, pw_ltI, pw_leI, pw_eqI, pw_eqm, pw_eqm2, pw_ltm, pw_mlt, pw_lem, pw_mle, pw_mm, pw_dec, pw_nar0, pw_nar1, nI_add, pw_sub, pw_mul, pw_and, pw_or, pw_andn, pw_shl1, pw_shl, pw_shr, pw_dv, nI_l, lN_i, Bool.false_eq_true, reduceCtorEq, if_false, if_true, ↓reduceIte, if_pos, if_neg, a, bI_0', allN, r_152_27, s1, hs, b, Bool.and_false]
          rfl
        · simp (disch := omega) only [pw_lt, pw_cb, pw_cbx, pw_cbxr, pw_lit, pw_litL, pw_oi, pw_oim, pw_oi8, pw_m, pw_ldI, pw_ldL, pw_ldR, pw_stI, pw_stL, pw_nz, pw_ltI, pw_leI, pw_eqI, pw_eqm, pw_eqm2, pw_ltm, pw_mlt, pw_lem, pw_mle, pw_mm, pw_dec, pw_nar0, pw_nar1, nI_add, pw_sub, pw_mul, pw_and, pw_or, pw_andn, pw_shl1, pw_shl, pw_shr, pw_dv, nI_l, lN_i, Bool.false_eq_true, reduceCtorEq, if_false, if_true, ↓reduceIte, if_pos, if_neg, a, bI_0', allN, r_152_27, s1, hs, b, Bool.and_self]
          rfl
    · intro rec
      unfold b_X12_doPart_32
      simp (disch := omega) only [pw_lt, pw_cb, pw_cbx, pw_cbxr, pw_lit, pw_litL, pw_oi, pw_oim, pw_oi8, pw_m, pw_ldI, pw_ldL, pw_ldR, pw_stI, pw_stL, pw_nz, pw_ltI, pw_leI, pw_eqI, pw_eqm, pw_eqm2, pw_ltm, pw_mlt, pw_lem, pw_mle, pw_mm, pw_dec, pw_nar0, pw_nar1, nI_add, pw_sub, pw_mul, pw_and, pw_or, pw_andn, pw_shl1, pw_shl, pw_shr, pw_dv, nI_l, lN_i, Bool.false_eq_true, reduceCtorEq, if_false, if_true, ↓reduceIte, if_pos, if_neg, Nat.le_refl]
  unfold f_X12_doPart
  obtain ⟨r, x, hx, y1, y2⟩ : ok (lp (b_X12_doPart_2 152 (nI t) (nI P.length)) FU (nI 0) h) (fun r h' => r = bI (fwt m v P) ∧ h' = h) := by
    refine lp_ok (fun n s h1 => n ≤ m ∧ s = nI (m - n) ∧ h1 = h ∧ ∀ k, k < m - n → pm P (v k / 2) = decide (v k % 2 = 1)) ?_ FU m _ _ ⟨Nat.le_refl _, by rw [Nat.sub_self], rfl, fun k hk => absurd hk (by omega)⟩ (fu_lt (by omega))
    rintro n rec s h1 ⟨hn, rfl, rfl, y⟩ hrec
    have n1 := N.1
    unfold b_X12_doPart_2
    by_cases h0 : n = 0
    · subst h0
      have hf : fwt m v P = true := fwt_iff.mpr (fun k hk => y k (by omega))
      simp (disch := omega) only [pw_lt, pw_cb, pw_cbx, pw_cbxr, pw_lit, pw_litL, pw_oi, pw_oim, pw_oi8, pw_m, pw_ldI, pw_ldL, pw_ldR, pw_stI, pw_stL, pw_nz, pw_ltI, pw_leI, pw_eqI, pw_eqm, pw_eqm2, pw_ltm, pw_mlt, pw_lem, pw_mle, pw_mm, pw_dec, pw_nar0, pw_nar1, nI_add, pw_sub, pw_mul, pw_and, pw_or, pw_andn, pw_shl1, pw_shl, pw_shr, pw_dv, nI_l, lN_i, Bool.false_eq_true, reduceCtorEq, if_false, if_true, ↓reduceIte, if_pos, if_neg, r_152_37, n1, Nat.sub_zero, Nat.le_refl]
      exact ok_some ⟨by rw [hf]; rfl, rfl⟩
    · generalize hk : m - n = k at *
      have e9 : m - (n - 1) = k + 1 := by omega
      have v1 := N.2 k (by omega)
      have v2 := hv k (by omega)
      have hm2 := md2 (v k)
      have hm3 : v k % 2 < 2 := Nat.mod_lt _ (by decide)
      simp (disch := omega) only [pw_lit, r_152_37, pw_ldI, n1, pw_leI, if_neg, r_152_38, pw_mul, nI_add, pw_ldL, v1, lN_i]
      refine ok_lt (ok_lt (ok_lt (ok_lt ?_)))
      rw [key (v k) v2]
      simp (disch := omega) only [pw_nz, pw_dv, pw_mul, pw_sub, hm2, pw_lt, pw_eqI]
      have hnot : ¬ pm P (v k / 2) = decide (v k % 2 = 1) → fwt m v P = false := fun z => by
        cases hf : fwt m v P
        · rfl
        · exact absurd (fwt_iff.mp hf k (by omega)) z
      by_cases d : pm P (v k / 2) = decide (v k % 2 = 1)
      · have hgo : ok (lt (nI k + Int32.ofInt 1) (fun (x11 : Int32) => rec x11 h1)) (fun r h' => r = bI (fwt m v P) ∧ h' = h1) := by
          simp only [pw_lt, pw_oi, nI_add]
          refine hrec (n - 1) _ _ (by omega) ⟨by omega, by rw [e9], rfl, fun x hx => ?_⟩
          rw [e9] at hx
          by_cases ex : x = k
          · subst ex
            exact d
          · exact y x (by omega)
        by_cases c : v k % 2 = 1
        · rw [d, decide_eq_true c, if_pos c, if_pos (by decide)]
          exact hgo
        · rw [d, decide_eq_false c, if_neg c, if_pos (by decide)]
          exact hgo
      · have hf := hnot d
        by_cases c : v k % 2 = 1
        · have : pm P (v k / 2) = false := by
            cases hq : pm P (v k / 2)
            · rfl
            · rw [hq, decide_eq_true c] at d
              exact absurd rfl d
          rw [this, if_pos c, if_neg (by decide)]
          exact ok_some ⟨by rw [hf]; rfl, rfl⟩
        · have : pm P (v k / 2) = true := by
            cases hq : pm P (v k / 2)
            · rw [hq, decide_eq_false c] at d
              exact absurd rfl d
            · rfl
          rw [this, if_neg c, if_neg (by decide)]
          exact ok_some ⟨by rw [hf]; rfl, rfl⟩
  simp only [pw_lt, pw_lit]
  rw [hx, y1, y2]
def SRf (st : List Nat × Nat) (h : PH) : Prop := h.1 152 29 = nI st.2 ∧ (st.2 ≠ 0 → SN st.1 169 h)
set_option maxRecDepth 16384 in
theorem e_goesCopy {h : PH} {P : List Nat} {st : List Nat × Nat} {Q : Unit → PH → Prop} {j : PH → Option (Unit × PH)} (hl : P.length ≤ 3) (hs : st.2 < 1000000) (S : SN P 168 h) (R : SRf st h) (hj : ∀ h', eqx [169] h h' → SN (if st.2 = 0 then P else st.1) 169 h' → ok (j h') Q) : ok (lp (b_X12_goesWants_18 152 (nI P.length) j) FU (nI 0) h) Q := by
  refine lp_ok (fun n s h1 => n ≤ P.length ∧ s = nI (P.length - n) ∧ eqx [169] h h1 ∧ ((st.2 = 0 ∧ ∀ i, i < P.length - n → h1.1 169 i = nI (nth P i)) ∨ (st.2 ≠ 0 ∧ h1 = h))) ?_ FU P.length _ _ ⟨Nat.le_refl _, by rw [Nat.sub_self], eqx_rfl _ _, ?_⟩ (fu_lt (by omega))
  · rintro n rec s h1 ⟨hn, rfl, e1, q⟩ hrec
    have v29 : h1.1 152 29 = nI st.2 := by rw [(e1 152 (by decide)).1]; exact R.1
    unfold b_X12_goesWants_18
    by_cases h0 : n = 0
    · subst h0
      simp (disch := omega) only [pw_lt, pw_cb, pw_cbx, pw_cbxr, pw_lit, pw_litL, pw_oi, pw_oim, pw_oi8, pw_m, pw_ldI, pw_ldL, pw_ldR, pw_stI, pw_stL, pw_nz, pw_ltI, pw_leI, pw_eqI, pw_eqm, pw_eqm2, pw_ltm, pw_mlt, pw_lem, pw_mle, pw_mm, pw_dec, pw_nar0, pw_nar1, nI_add, pw_sub, pw_mul, pw_and, pw_or, pw_andn, pw_shl1, pw_shl, pw_shr, pw_dv, nI_l, lN_i, Bool.false_eq_true, reduceCtorEq, if_false, if_true, ↓reduceIte, if_pos, if_neg, Nat.sub_zero, Nat.le_refl]
      refine hj h1 e1 ?_
      rcases q with ⟨q1, q2⟩ | ⟨q1, rfl⟩
      · rw [if_pos q1]
        exact fun i hi => q2 i (by omega)
      · rw [if_neg q1]
        exact R.2 q1
    · generalize hk : P.length - n = k at *
      have e9 : P.length - (n - 1) = k + 1 := by omega
      rcases q with ⟨q1, q2⟩ | ⟨q1, rfl⟩
      · have v168 : h1.1 168 k = nI (nth P k) := by rw [(e1 168 (by decide)).1]; exact S k (by omega)
        rw [q1] at v29
        simp (disch := omega) only [pw_lt, pw_cb, pw_cbx, pw_cbxr, pw_lit, pw_litL, pw_oi, pw_oim, pw_oi8, pw_m, pw_ldI, pw_ldL, pw_ldR, pw_stI, pw_stL, pw_nz, pw_ltI, pw_leI, pw_eqI, pw_eqm, pw_eqm2, pw_ltm, pw_mlt, pw_lem, pw_mle, pw_mm, pw_dec, pw_nar0, pw_nar1, nI_add, pw_sub, pw_mul, pw_and, pw_or, pw_andn, pw_shl1, pw_shl, pw_shr, pw_dv, nI_l, lN_i, Bool.false_eq_true, reduceCtorEq, if_false, if_true, ↓reduceIte, if_pos, if_neg, v29, r_152_27, r_152_28, v168]
        refine hrec (n - 1) _ _ (by omega) ⟨by omega, by rw [e9], eqx_trans e1 (eqx_pI (by simp)), Or.inl ⟨q1, fun i hi => ?_⟩⟩
        rw [e9] at hi
        by_cases ei : i = k
        · subst ei
          rw [pw_pIs]
        · rw [pw_pIo (by omega)]
          exact q2 i (by omega)
      · simp (disch := omega) only [pw_lt, pw_cb, pw_cbx, pw_cbxr, pw_lit, pw_litL, pw_oi, pw_oim, pw_oi8, pw_m, pw_ldI, pw_ldL, pw_ldR, pw_stI, pw_stL, pw_nz, pw_ltI, pw_leI, pw_eqI, pw_eqm, pw_eqm2, pw_ltm, pw_mlt, pw_lem, pw_mle, pw_mm, pw_dec, pw_nar0, pw_nar1, nI_add, pw_sub, pw_mul, pw_and, pw_or, pw_andn, pw_shl1, pw_shl, pw_shr, pw_dv, nI_l, lN_i, Bool.false_eq_true, reduceCtorEq, if_false, if_true, ↓reduceIte, if_pos, if_neg, v29]
        refine hj h1 e1 ?_
        rw [if_neg q1]
        exact R.2 q1
  · by_cases z : st.2 = 0
    · exact Or.inl ⟨z, fun i hi => absurd hi (by omega)⟩
    · exact Or.inr ⟨z, rfl⟩
/- the reference's search -/
set_option maxRecDepth 16384 in
theorem e_goes {K : Nat → Int32} {t m : Nat} {v : Nat → Nat} {N : Nat} (H : RK K) (ht : t < 4) (hm : m ≤ 12) (hv : ∀ k, k < m → v k < 8192) (hN : N ≤ 3) : ∀ l n h pre fr frS st, l < n → pre.length + l = N → h.1 153 = K → NV t m v h → SN pre 168 h → SRf st h → st.2 + 24 ^ l ≤ 100000 → gdL (gc K) pre → (∀ u, u ∈ pre → 2 * (u / 2 + 1) ≤ fr) → fr ≤ 2 * gc K → (frS = fr ∨ (frS + 1 = fr ∧ fr ≤ 2 * gc K ∧ ∃ t0 r, pre = t0 :: r ∧ frS / 2 = t0 / 2)) →
    ok (f_X12_goesWants n 152 (nI t) (nI pre.length) (nI N) (nI frS) h) (fun _ h' => eqx [152, 168, 169] h h' ∧ (∀ j, j ≠ 29 → h'.1 152 j = h.1 152 j) ∧ (∀ j, j < pre.length → h'.1 168 j = h.1 168 j) ∧ SRf (Ws m v (gc K) l pre fr st) h') := by
  obtain ⟨b0, b1, b2, b3, b4, b5, b6, b7, b8, b9, b10⟩ := rk_b H
  intro l
  induction l with
  | zero =>
    intro n h pre fr frS st hn hl k153 NVh S R hb hg hp hfl hfr
    obtain ⟨n, rfl⟩ : ∃ k, n = k + 1 := ⟨n - 1, by omega⟩
    show ok (g_X12_goesWants (f_X12_goesWants n) 152 (nI t) (nI pre.length) (nI N) (nI frS) h) _
    have hd := e_doPart ht hm hv NVh (by omega) (fun u hu => by have := hg.2 u hu; omega) S
    have hlN : pre.length = N := by omega
    unfold g_X12_goesWants
    rw [if_pos (by rw [hlN]), ← hlN, hd]
    simp only [pw_cb]
    rw [Ws, keepW]
    rcases tf (fwt m v pre) with f | f
    · have hb2 : bI (fwt m v pre) = 0 := by rw [f]; rfl
      rw [if_pos hb2, if_neg (by rw [f]; decide)]
      exact ok_some ⟨eqx_rfl _ _, fun _ _ => rfl, fun _ _ => rfl, R⟩
    · have hb2 : ¬ bI (fwt m v pre) = 0 := by rw [f]; decide
      rw [if_neg hb2, if_pos f]
      refine ok_lt (ok_lt ?_)
      refine e_goesCopy (by omega) (by omega) S R (fun h1 e1 s1 => ?_)
      have v29 : h1.1 152 29 = nI st.2 := by rw [(e1 152 (by decide)).1]; exact R.1
      simp only [pw_lt, pw_lit, v29, nI_add]
      refine ok_some ⟨eqx_trans (eqx_mono e1 (by decide)) (eqx_pI (by decide)), fun j hj => by rw [pw_pIo (by omega), (e1 152 (by decide)).1], fun j hj => by rw [pw_pIo (by omega), (e1 168 (by decide)).1], pw_pIs, fun _ j hj => ?_⟩
      rw [pw_pIo (by omega)]
      exact s1 j hj
  | succ l ih =>
    intro n h pre fr frS st hn hl k153 NVh S R hb hg hp hfl hfr
    obtain ⟨n, rfl⟩ : ∃ k, n = k + 1 := ⟨n - 1, by omega⟩
    show ok (g_X12_goesWants (f_X12_goesWants n) 152 (nI t) (nI pre.length) (nI N) (nI frS) h) _
    have hpw : 24 ^ (l + 1) = 24 * 24 ^ l := by rw [Nat.pow_succ, Nat.mul_comm]
    have h24 := pow24 (l := l) (by omega)
    have hne : ¬ (nI pre.length = nI N) := by
      rw [pw_eqI (by omega) (by omega)]
      omega
    unfold g_X12_goesWants
    rw [if_neg hne]
    refine ok_lt ?_
    rw [Ws]
    have hst : (2 * gc K - fr) * 24 ^ l ≤ 24 * 24 ^ l := Nat.mul_le_mul_right _ (by omega)
    refine lp_ok (fun k s h1 => ∃ told, s = nI told ∧ told ≤ 2 * gc K + frS ∧ k = 2 * gc K - told ∧ eqx [152, 168, 169] h h1 ∧ (∀ j, j ≠ 29 → h1.1 152 j = h.1 152 j) ∧ (∀ j, j < pre.length → h1.1 168 j = h.1 168 j) ∧
      ((told + 1 = fr ∧ fr ≤ 2 * gc K ∧ (∃ t0 r, pre = t0 :: r ∧ told / 2 = t0 / 2) ∧ SRf st h1) ∨ (fr ≤ told ∧ ∃ st1, SRf st1 h1 ∧ st1.2 + (2 * gc K - told) * 24 ^ l ≤ 100000 ∧ itr (fun t s => Ws m v (gc K) l (t :: pre) (2 * (t / 2 + 1)) s) (2 * gc K - told) told st1 = itr (fun t s => Ws m v (gc K) l (t :: pre) (2 * (t / 2 + 1)) s) (2 * gc K - fr) fr st))) ?_ FU (2 * gc K - frS) _ h ⟨frS, rfl, by omega, rfl, eqx_rfl _ _, fun _ _ => rfl, fun _ _ => rfl, ?_⟩ (fu_lt (by omega))
    · rintro k rec s h1 ⟨told, rfl, htl, hk, e1, o1, p1, q⟩ hrec
      have k1 : h1.1 153 = K := by rw [(e1 153 (by decide)).1]; exact k153
      have hce := e_cells (h := h1) (by rw [k1]; exact H)
      rw [k1] at hce
      have N1 := NV_to e1 (by decide) (by decide) NVh
      have S1 : SN pre 168 h1 := fun j hj => by rw [p1 j hj]; exact S j hj
      unfold b_X12_goesWants_66
      rw [hce]
      simp only [pw_cb, pw_lit, pw_mul]
      rcases q with ⟨q1, q2, ⟨t0, r, q3, q4⟩, q5⟩ | ⟨q1, st1, q2, q3, q4⟩
      · have hlen : pre.length = r.length + 1 := by rw [q3, List.length_cons]
        have v0 : h1.1 168 r.length = nI t0 := by
          rw [S1 r.length (by omega), q3, nth_cons_top]
        have ht0 : t0 < 64 := by
          have := hg.2 t0 (by rw [q3]; exact List.mem_cons_self)
          omega
        have hx : nI pre.length - nI 1 = nI r.length := by rw [pw_sub (by omega), hlen, Nat.add_sub_cancel]
        have hle : ¬ pre.length ≤ 0 := by omega
        simp (disch := omega) only [pw_leI, if_neg, pw_lt, hx, r_152_27, pw_ldI, v0, pw_nz, pw_dv, q4, if_true, pw_oi, nI_add]
        refine hrec (2 * gc K - fr) _ h1 (by omega) ⟨fr, by rw [q1], by omega, rfl, e1, o1, p1, Or.inr ⟨Nat.le_refl _, st, q5, by omega, rfl⟩⟩
      · by_cases hend : 2 * gc K ≤ told
        · simp (disch := omega) only [pw_leI, if_pos]
          refine ok_some ⟨e1, o1, p1, ?_⟩
          rw [← q4, show 2 * gc K - told = 0 by omega]
          exact q2
        · have hnx : ∀ h3, eqx [152, 168, 169] h h3 → (∀ j, j ≠ 29 → h3.1 152 j = h.1 152 j) → (∀ j, j < pre.length → h3.1 168 j = h.1 168 j) → SRf (Ws m v (gc K) l (told :: pre) (2 * (told / 2 + 1)) st1) h3 → ok (rec (nI (told + 1)) h3) _ := fun h3 e3 o3 p3 s3 => by
            have hle := Ws_le (m := m) (v := v) (g := gc K) (by omega) l (told :: pre) (2 * (told / 2 + 1)) st1
            have hsp : (2 * gc K - told) * 24 ^ l = (2 * gc K - (told + 1)) * 24 ^ l + 24 ^ l := by
              rw [show 2 * gc K - told = (2 * gc K - (told + 1)) + 1 by omega, Nat.succ_mul]
            refine hrec (2 * gc K - (told + 1)) _ h3 (by omega) ⟨told + 1, rfl, by omega, rfl, e3, o3, p3, Or.inr ⟨by omega, _, s3, by omega, ?_⟩⟩
            rw [← q4, show 2 * gc K - told = (2 * gc K - (told + 1)) + 1 by omega, itr]
          have hu : ∀ u, u ∈ pre → u / 2 < told / 2 := fun u hu => by have := hp u hu; omega
          have hsp : (2 * gc K - told) * 24 ^ l = (2 * gc K - (told + 1)) * 24 ^ l + 24 ^ l := by
            rw [show 2 * gc K - told = (2 * gc K - (told + 1)) + 1 by omega, Nat.succ_mul]
          have hgo : ok (stI h1 168 3 (nI pre.length) (nI told) (fun (h7 : PH) => cb (f_X12_goesWants n 152 (nI t) (nI pre.length + nI 1) (nI N) (nI told + nI 1) h7) (fun (r8 : Unit) (h9 : PH) => rec (nI (told + 1)) h9))) (fun _ h' => eqx [152, 168, 169] h h' ∧ (∀ j, j ≠ 29 → h'.1 152 j = h.1 152 j) ∧ (∀ j, j < pre.length → h'.1 168 j = h.1 168 j) ∧ SRf (itr (fun t s => Ws m v (gc K) l (t :: pre) (2 * (t / 2 + 1)) s) (2 * gc K - fr) fr st) h') := by
            simp (disch := omega) only [pw_stI, nI_add]
            have ep : eqx [168] h1 (pI h1 168 pre.length (nI told)) := eqx_pI (by simp)
            have hi := ih n (pI h1 168 pre.length (nI told)) (told :: pre) (2 * (told / 2 + 1)) (told + 1) st1 (by omega) (by rw [List.length_cons]; omega) (by rw [(ep 153 (by decide)).1]; exact k1) (NV_to ep (by decide) (by decide) N1) (SN_push S1) ⟨by rw [(ep 152 (by decide)).1]; exact q2.1, fun z j hj => by rw [(ep 169 (by decide)).1]; exact q2.2 z j hj⟩ (by omega) (gdL_cons hg (by omega) hu) (fun u q => by
              rcases List.mem_cons.mp q with q | q
              · rw [q]; exact Nat.le_refl _
              · have := hu u q
                omega) (by omega) (by
              by_cases d : told % 2 = 1
              · exact Or.inl (by omega)
              · exact Or.inr ⟨by omega, by omega, told, pre, rfl, by omega⟩)
            rw [List.length_cons] at hi
            refine ok_cb hi ?_
            rintro r8 h9 ⟨e9, o9, p9, s9⟩
            refine hnx h9 (eqx_trans e1 (eqx_trans (eqx_mono ep (by decide)) e9)) (fun j hj => by rw [o9 j hj, (ep 152 (by decide)).1]; exact o1 j hj) (fun j hj => by rw [p9 j (by omega), pw_pIo (by omega)]; exact p1 j hj) s9
          by_cases hp0 : pre.length = 0
          · have hz : nI pre.length ≤ nI 0 := by rw [hp0]; exact Int32.le_refl _
            simp (disch := omega) only [pw_leI, if_neg, pw_lt, pw_oi, nI_add]
            simp (disch := omega) only [nI_add] at hgo
            rw [if_pos (by omega)]
            simp only [r_152_27]
            exact hgo
          · obtain ⟨t0, r, q5⟩ : ∃ t0 r, pre = t0 :: r := by
              cases pre with
              | nil => exact absurd rfl hp0
              | cons a b => exact ⟨a, b, rfl⟩
            have hlen : pre.length = r.length + 1 := by rw [q5, List.length_cons]
            have v0 : h1.1 168 r.length = nI t0 := by
              rw [S1 r.length (by omega), q5, nth_cons_top]
            have hx : nI pre.length - nI 1 = nI r.length := by rw [pw_sub (by omega), hlen, Nat.add_sub_cancel]
            have htt : t0 / 2 < told / 2 := hu t0 (by rw [q5]; exact List.mem_cons_self)
            have ht0 : t0 < 64 := by
              have := hg.2 t0 (by rw [q5]; exact List.mem_cons_self)
              omega
            simp (disch := omega) only [pw_leI, if_neg, pw_lt, hx, r_152_27, pw_ldI, v0, pw_nz, pw_dv, pw_eqI, pw_oi, nI_add]
            simp (disch := omega) only [nI_add] at hgo
            exact hgo
    · rcases hfr with q | ⟨q1, q2, q3⟩
      · rw [q]
        exact Or.inr ⟨Nat.le_refl _, st, R, by omega, rfl⟩
      · exact Or.inl ⟨q1, q2, q3, R⟩

/-! ===== wants: the first that fits ===== -/
set_option maxRecDepth 16384 in
theorem itr_inv {σ : Type} {f : Nat → σ → σ} {P : σ → Prop} : ∀ n a s, (∀ t s, a ≤ t → t < a + n → P s → P (f t s)) → P s → P (itr f n a s)
  | 0, _, _, _, hs => hs
  | n + 1, a, s, hf, hs => by
    rw [itr]
    exact itr_inv n (a + 1) (f a s) (fun t s h1 h2 => hf t s (by omega) (by omega)) (hf a s (by omega) (by omega) hs)
def gdL (g : Nat) (P : List Nat) : Prop := P.Pairwise (fun a b => b / 2 < a / 2) ∧ ∀ t, t ∈ P → t < 2 * g
def PsW (g N : Nat) (st : List Nat × Nat) : Prop := st.2 ≠ 0 → gdL g st.1 ∧ st.1.length = N
set_option maxRecDepth 16384 in
theorem gdL_cons {g t : Nat} {P : List Nat} (h : gdL g P) (ht : t < 2 * g) (hp : ∀ u, u ∈ P → u / 2 < t / 2) : gdL g (t :: P) := ⟨List.pairwise_cons.mpr ⟨hp, h.1⟩, fun u hu => by
  rcases List.mem_cons.mp hu with q | q
  · rw [q]; exact ht
  · exact h.2 u q⟩
set_option maxRecDepth 16384 in
theorem Ws_gd {m : Nat} {v : Nat → Nat} {g N : Nat} : ∀ l pre fr st, gdL g pre → pre.length + l = N → (∀ u, u ∈ pre → 2 * (u / 2 + 1) ≤ fr) → PsW g N st → PsW g N (Ws m v g l pre fr st)
  | 0, pre, fr, st, hg, hl, hp, hs => by
    rw [Ws, keepW]
    by_cases c : fwt m v pre = true
    · rw [if_pos c]
      intro _
      show gdL g (if st.2 = 0 then pre else st.1) ∧ (if st.2 = 0 then pre else st.1).length = N
      by_cases c2 : st.2 = 0
      · rw [if_pos c2]
        exact ⟨hg, by omega⟩
      · rw [if_neg c2]
        exact hs c2
    · rw [if_neg c]
      exact hs
  | l + 1, pre, fr, st, hg, hl, hp, hs => by
    rw [Ws]
    refine itr_inv (P := PsW g N) (2 * g - fr) fr st (fun t s h1 h2 hs2 => ?_) hs
    have hu : ∀ u, u ∈ pre → u / 2 < t / 2 := fun u hu => by have := hp u hu; omega
    refine Ws_gd l (t :: pre) (2 * (t / 2 + 1)) s (gdL_cons hg (by omega) hu) (by rw [List.length_cons]; omega) (fun u q => ?_) hs2
    rcases List.mem_cons.mp q with q | q
    · rw [q]; exact Nat.le_refl _
    · have := hu u q
      omega
def Rw (m : Nat) (v : Nat → Nat) (g l : Nat) : List Nat × Nat := Ws m v g l [] 0 ([], 0)
def wfd (m : Nat) (v : Nat → Nat) (g : Nat) : Nat → Option Nat
  | 0 => none
  | k + 1 => if (Rw m v g (3 - k)).2 ≠ 0 then some (3 - k) else wfd m v g k
set_option maxRecDepth 16384 in
theorem Rw_gd {m : Nat} {v : Nat → Nat} {g l : Nat} (h : (Rw m v g l).2 ≠ 0) : gdL g (Rw m v g l).1 ∧ (Rw m v g l).1.length = l :=
  Ws_gd (g := g) (N := l) l [] 0 ([], 0) ⟨List.Pairwise.nil, fun t ht => absurd ht (by simp)⟩ (by simp) (fun u hu => absurd hu (by simp)) (fun z => absurd rfl z) h
set_option maxRecDepth 16384 in
theorem Rw_b {m : Nat} {v : Nat → Nat} {g l : Nat} (hg : g ≤ 12) (hl : l ≤ 3) : (Rw m v g l).2 ≤ 13824 := by
  have h1 := Ws_le (m := m) (v := v) hg l [] 0 ([], 0)
  have h2 := pow24 hl
  have h3 : (Rw m v g l).2 ≤ 0 + 24 ^ l := h1
  omega
set_option maxRecDepth 16384 in
theorem wfd_at {m : Nat} {v : Nat → Nat} {g : Nat} : ∀ k l, wfd m v g k = some l → l ≤ 3 ∧ (Rw m v g l).2 ≠ 0
  | 0, l, h => by cases h
  | k + 1, l, h => by
    rw [wfd] at h
    by_cases c : (Rw m v g (3 - k)).2 ≠ 0
    · rw [if_pos c] at h
      cases h
      exact ⟨by omega, c⟩
    · rw [if_neg c] at h
      exact wfd_at k l h
/- what the class found -/
def FdC (m : Nat) (v : Nat → Nat) (g : Nat) (h : PH) : Prop := match wfd m v g 4 with
  | none => h.1 40 5 = mI ∧ h.1 40 6 = mI
  | some l => h.1 40 5 = nI l ∧ SC (Rw m v g l) h
set_option maxRecDepth 16384 in
theorem c_find {m : Nat} {v : Nat → Nat} {g : Nat} {h : PH} (hm : m ≤ 12) (hv : ∀ k, k < m → v k < 8192) (hg : g ≤ 12) (C : CM m v g h) : ok (f_X5_find 40 h) (fun _ h' => eqx [40] h h' ∧ FdC m v g h') := by
  unfold f_X5_find
  refine ok_lt (ok_lt ?_)
  refine ok_join (fun h1 => eqx [40] h h1 ∧ ((h1.1 40 6 = nI 0 ∧ wfd m v g 4 = none) ∨ ∃ l, wfd m v g 4 = some l ∧ h1.1 40 5 = nI l ∧ SC (Rw m v g l) h1)) ?_ (fun j hj => ?_)
  · rintro h1 ⟨e1, q⟩
    rcases q with ⟨q1, q2⟩ | ⟨l, q1, q2, q3⟩
    · refine ok_lt ?_
      rw [if_pos (show h1.1 40 6 = 0 from q1)]
      refine ok_lt (ok_lt ?_)
      refine ok_some ⟨eqx_trans e1 (eqx_trans (eqx_pI (by simp)) (eqx_pI (by simp))), ?_⟩
      unfold FdC
      rw [q2]
      exact ⟨by rw [pw_pIo (by omega), pw_pIs]; rfl, by rw [pw_pIs]; rfl⟩
    · obtain ⟨l3, lz⟩ := wfd_at 4 l q1
      have hb := Rw_b (m := m) (v := v) hg l3
      have hc : ¬ h1.1 40 6 = 0 := by rw [q3.1]; exact nI_ne0 (by omega) (by omega)
      refine ok_lt ?_
      rw [if_neg hc]
      refine ok_some ⟨e1, ?_⟩
      unfold FdC
      rw [q1]
      exact ⟨q2, q3⟩
  · refine lp_ok (fun n s h1 => ∃ k, k + n = 4 ∧ s = nI k ∧ eqx [40] h h1 ∧ CM m v g h1 ∧ ((h1.1 40 6 = nI 0 ∧ wfd m v g n = wfd m v g 4) ∨ ∃ l, wfd m v g 4 = some l ∧ h1.1 40 5 = nI l ∧ SC (Rw m v g l) h1)) ?_ FU 4 _ _ ⟨0, rfl, rfl, eqx_pI (by simp), ?_, Or.inl ⟨pw_pIs, rfl⟩⟩ (fu_lt (by omega))
    · rintro n rec s h1 ⟨k, hk, rfl, e1, C1, q⟩ hrec
      unfold b_X5_find_7
      by_cases h0 : n = 0
      · have hk4 : k = 4 := by omega
        subst h0
        subst hk4
        rw [if_pos (by decide)]
        refine hj h1 ⟨e1, ?_⟩
        rcases q with ⟨q1, q2⟩ | q
        · exact Or.inl ⟨q1, by rw [← q2]; rfl⟩
        · exact Or.inr q
      · have hk3 : ¬ ((3 : Int32) < nI k) := by
          rw [pw_lit, pw_ltI (by omega) (by omega)]
          omega
        rw [if_neg hk3]
        rcases q with ⟨q1, q2⟩ | ⟨l, q1, q2, q3⟩
        · have hq : h1.1 40 6 = 0 := q1
          rw [if_pos hq]
          refine ok_lt ?_
          obtain ⟨n, rfl⟩ : ∃ d, n = d + 1 := ⟨n - 1, by omega⟩
          have hkn : 3 - n = k := by omega
          have h24 := pow24 (l := k) (by omega)
          have C2 : CM m v g (pI h1 40 5 (nI k)) := ⟨by rw [pw_pIo (by omega)]; exact C1.1, fun x hx => by rw [pw_pIo (by omega)]; exact C1.2.1 x hx, by rw [pw_pIo (by omega)]; exact C1.2.2⟩
          refine ok_cb (c_search hm hv hg k 8 (pI h1 40 5 (nI k)) [] 0 ([], 0) (by omega) (by omega) C2 ⟨by rw [pw_pIo (by omega)]; exact q1, fun z => absurd rfl z⟩ (by simp only []; omega) (fun t ht => absurd ht (by simp)) (fun t ht => absurd ht (by simp)) (by omega)) ?_
          rintro r h2 ⟨e2, o2, S2⟩
          have e12 : eqx [40] h1 h2 := eqx_trans (eqx_pI (by simp)) e2
          have S2 : SC (Rw m v g k) h2 := S2
          simp only [pw_lt, pw_oi, nI_add]
          refine hrec n _ h2 (by omega) ⟨k + 1, by omega, rfl, eqx_trans e1 e12, CM_to e2 o2 C2, ?_⟩
          rw [wfd, hkn] at q2
          by_cases c : (Rw m v g k).2 ≠ 0
          · rw [if_pos c] at q2
            exact Or.inr ⟨k, q2.symm, by rw [o2 5 (by decide) (by decide) (by decide), pw_pIs], S2⟩
          · rw [if_neg c] at q2
            refine Or.inl ⟨?_, q2⟩
            have : (Rw m v g k).2 = 0 := by omega
            rw [S2.1, this]
        · obtain ⟨l3, lz⟩ := wfd_at 4 l q1
          have hb := Rw_b (m := m) (v := v) hg l3
          have hc : ¬ h1.1 40 6 = 0 := by rw [q3.1]; exact nI_ne0 (by omega) (by omega)
          rw [if_neg hc]
          exact hj h1 ⟨e1, Or.inr ⟨l, q1, q2, q3⟩⟩
    · exact ⟨by rw [pw_pIo (by omega)]; exact C.1, fun x hx => by rw [pw_pIo (by omega)]; exact C.2.1 x hx, by rw [pw_pIo (by omega)]; exact C.2.2⟩
/- the i-th by order -/
def nth (P : List Nat) (i : Nat) : Nat := P.getD (P.length - 1 - i) 0
set_option maxRecDepth 16384 in
theorem nth_mem {P : List Nat} {i : Nat} (hi : i < P.length) : nth P i ∈ P := by
  unfold nth
  rw [List.getD_eq_getElem?_getD, List.getElem?_eq_getElem (by omega)]
  exact List.getElem_mem _
set_option maxRecDepth 16384 in
theorem mem_nth {P : List Nat} {t : Nat} (h : t ∈ P) : ∃ i, i < P.length ∧ nth P i = t := by
  obtain ⟨j, hj, e⟩ := List.getElem_of_mem h
  refine ⟨P.length - 1 - j, by omega, ?_⟩
  unfold nth
  rw [show P.length - 1 - (P.length - 1 - j) = j by omega, List.getD_eq_getElem?_getD, List.getElem?_eq_getElem hj]
  exact e
set_option maxRecDepth 16384 in
theorem nth_lt {g : Nat} {P : List Nat} (hP : gdL g P) {i j : Nat} (h1 : i < j) (h2 : j < P.length) : nth P i / 2 < nth P j / 2 := by
  have := (List.pairwise_iff_getElem.mp hP.1) (P.length - 1 - j) (P.length - 1 - i) (by omega) (by omega) (by omega)
  unfold nth
  rw [List.getD_eq_getElem?_getD, List.getD_eq_getElem?_getD, List.getElem?_eq_getElem (by omega), List.getElem?_eq_getElem (by omega)]
  exact this
set_option maxRecDepth 16384 in
theorem c_numberAt {g k : Nat} {P : List Nat} {h : PH} (hg : g ≤ 12) (hP : gdL g P) (hl : P.length ≤ 3) (hk : k < P.length) (v3 : h.1 40 3 = nI (caL P)) (v4 : h.1 40 4 = nI (weL P)) (v5 : h.1 40 5 = nI P.length) (v7 : h.1 3 7 = nI g) : f_X5_numberAt 40 (nI k) h = some (nI (nth P k), h) := by
  have hcl := caL_lt (g := g) (l := P) (fun t ht => by have := hP.2 t ht; omega)
  have hwl := weL_lt (g := g) (l := P) (fun t ht => by have := hP.2 t ht; omega)
  have h12 : 2 ^ g ≤ 2 ^ 12 := Nat.pow_le_pow_right (by decide) hg
  have e12 : 2 ^ 12 = 4096 := rfl
  unfold f_X5_numberAt
  simp (disch := omega) only [pw_lit, v5, pw_ltI, if_pos]
  obtain ⟨r, x, hx, y1, y2⟩ : ok (lp (b_X5_numberAt_14 40 (nI k) (fun (y3 : Int32) (h4 : PH) => some (((nI 2 * y3) + (((h4.1 40 4) >>> (y3 &&& nI 31)) &&& nI 1)), h4))) FU (nI 0, nI 0) h) (fun r h' => r = nI (nth P k) ∧ h' = h) := by
    refine lp_ok (fun n s h1 => ∃ c q, c + n = g ∧ s = (nI q, nI c) ∧ h1 = h ∧ q ≤ k ∧ (∀ i, i < q → nth P i / 2 < c) ∧ ∀ i, q ≤ i → i < P.length → c ≤ nth P i / 2) ?_ FU g _ _ ⟨0, 0, by omega, rfl, rfl, by omega, fun i hi => absurd hi (by omega), fun i _ _ => Nat.zero_le _⟩ (fu_lt (by omega))
    rintro n rec s h1 ⟨c, q, hc, rfl, rfl, hq, y1, y2⟩ hrec
    have hqm := hP.2 _ (nth_mem (show q < P.length by omega))
    have hq2 := y2 q (Nat.le_refl _) (by omega)
    unfold b_X5_numberAt_14
    have hcg : c < g := by omega
    cases hb : (caL P).testBit c
    · have hne : nth P q / 2 ≠ c := fun z => by
        have := (caL_tb c P).mpr ⟨_, nth_mem (show q < P.length by omega), z⟩
        rw [hb] at this
        cases this
      simp (disch := omega) only [pw_lt, pw_cb, pw_cbx, pw_cbxr, pw_lit, pw_litL, pw_oi, pw_oim, pw_oi8, pw_m, pw_ldI, pw_ldL, pw_ldR, pw_stI, pw_stL, pw_nz, pw_ltI, pw_leI, pw_eqI, pw_eqm, pw_eqm2, pw_ltm, pw_mlt, pw_lem, pw_mle, pw_mm, pw_dec, pw_nar0, pw_nar1, nI_add, pw_sub, pw_mul, pw_and, pw_or, pw_andn, pw_shl1, pw_shl, pw_shr, pw_dv, nI_l, lN_i, Bool.false_eq_true, reduceCtorEq, if_false, if_true, ↓reduceIte, if_pos, if_neg, r_40_0, v7, v3, pw_tb, hb]
      refine hrec (n - 1) _ _ (by omega) ⟨c + 1, q, by omega, rfl, rfl, hq, fun i hi => by have := y1 i hi; omega, fun i h1 h2 => ?_⟩
      rcases Nat.lt_or_ge q i with z | z
      · have := nth_lt hP z h2
        omega
      · rw [show i = q by omega]
        omega
    · obtain ⟨t, t1, t2⟩ := (caL_tb c P).mp hb
      obtain ⟨i, hi, rfl⟩ := mem_nth t1
      have hiq : q = i := by
        rcases Nat.lt_or_ge i q with z | z
        · have := y1 i z
          omega
        · rcases Nat.lt_or_ge q i with z2 | z2
          · have := nth_lt hP z2 hi
            omega
          · omega
      subst hiq
      by_cases e : q = k
      · subst e
        have hwb : (weL P).testBit c = decide (nth P q % 2 = 1) := by
          by_cases d : nth P q % 2 = 1
          · rw [decide_eq_true d]
            exact (weL_tb c P).mpr ⟨_, nth_mem hi, t2, d⟩
          · rw [decide_eq_false d]
            cases hw : (weL P).testBit c
            · rfl
            · obtain ⟨u, u1, u2, u3⟩ := (weL_tb c P).mp hw
              obtain ⟨i2, hi2, rfl⟩ := mem_nth u1
              have : i2 = q := by
                rcases Nat.lt_or_ge i2 q with z | z
                · have := nth_lt hP z hi
                  omega
                · rcases Nat.lt_or_ge q i2 with z2 | z2
                  · have := nth_lt hP z2 hi2
                    omega
                  · omega
              subst this
              exact absurd u3 d
        have hval : 2 * c + (if (weL P).testBit c = true then 1 else 0) = nth P q := by
          rw [hwb]
          by_cases d : nth P q % 2 = 1
          · rw [decide_eq_true d, if_pos rfl]; omega
          · rw [decide_eq_false d, if_neg (by decide)]; omega
        simp (disch := omega) only [pw_lt, pw_cb, pw_cbx, pw_cbxr, pw_lit, pw_litL, pw_oi, pw_oim, pw_oi8, pw_m, pw_ldI, pw_ldL, pw_ldR, pw_stI, pw_stL, pw_nz, pw_ltI, pw_leI, pw_eqI, pw_eqm, pw_eqm2, pw_ltm, pw_mlt, pw_lem, pw_mle, pw_mm, pw_dec, pw_nar0, pw_nar1, nI_add, pw_sub, pw_mul, pw_and, pw_or, pw_andn, pw_shl1, pw_shl, pw_shr, pw_dv, nI_l, lN_i, Bool.false_eq_true, reduceCtorEq, if_false, if_true, ↓reduceIte, if_pos, if_neg, r_40_0, v7, v3, v4, pw_tb, hb, hval]
        exact ok_some ⟨rfl, rfl⟩
      · simp (disch := omega) only [pw_lt, pw_cb, pw_cbx, pw_cbxr, pw_lit, pw_litL, pw_oi, pw_oim, pw_oi8, pw_m, pw_ldI, pw_ldL, pw_ldR, pw_stI, pw_stL, pw_nz, pw_ltI, pw_leI, pw_eqI, pw_eqm, pw_eqm2, pw_ltm, pw_mlt, pw_lem, pw_mle, pw_mm, pw_dec, pw_nar0, pw_nar1, nI_add, pw_sub, pw_mul, pw_and, pw_or, pw_andn, pw_shl1, pw_shl, pw_shr, pw_dv, nI_l, lN_i, Bool.false_eq_true, reduceCtorEq, if_false, if_true, ↓reduceIte, if_pos, if_neg, r_40_0, v7, v3, pw_tb, hb]
        refine hrec (n - 1) _ _ (by omega) ⟨c + 1, q + 1, by omega, rfl, rfl, by omega, fun i hi2 => ?_, fun i h1 h2 => ?_⟩
        · rcases Nat.lt_or_ge i q with z | z
          · have := y1 i z
            omega
          · rw [show i = q by omega]
            omega
        · have := nth_lt hP (show q < i by omega) h2
          omega
  simp only [pw_lt]
  rw [hx, y1, y2]

def okN (g k : Nat) (x : Int64) : Prop := ∃ v, x = lN v ∧ v < if k % 2 = 1 then 2 else 2 * g
def sayOk (g m : Nat) (N : Nat → Int64) : Prop := m % 2 = 1 ∧ m ≤ 9 ∧ ∀ k, k < m → okN g k (N k)
def VN (N : Nat → Int64) (i : Nat) : Nat := (N (2 * i)).toInt.toNat
def UN (N : Nat → Int64) (i : Nat) : Bool := decide (N (2 * i + 1) = lN 1)
def TLs : List Nat := [42, 43, 44, 72] ++ rgL 47 25
set_option maxRecDepth 16384 in
theorem kn_lt {V : Nat → Nat} : ∀ {i : Nat}, (∀ j, j < i → V j < 64) → ∀ x, x ∈ kn V i → x < 64
  | 0, _, x, hx => absurd hx List.not_mem_nil
  | i + 1, h, x, hx => by
    rw [kn] at hx
    unfold kn1 at hx
    by_cases c : V i / 2 ∈ kn V i
    · rw [if_pos c] at hx
      exact kn_lt (fun j hj => h j (by omega)) x hx
    · rw [if_neg c] at hx
      rcases List.mem_append.mp hx with z | z
      · exact kn_lt (fun j hj => h j (by omega)) x z
      · rw [List.mem_singleton.mp z]
        have := h i (by omega)
        have := Nat.div_le_self (V i) 2
        omega
set_option maxRecDepth 16384 in
theorem okN_acc {g k : Nat} {x : Int64} (hg : g ≤ 12) : okN g k x ↔ (¬ x < lN 0 ∧ x < lN (if k % 2 = 1 then 2 else 2 * g)) := by
  have hb : (if k % 2 = 1 then 2 else 2 * g) < 100 := by split <;> omega
  constructor
  · rintro ⟨v, rfl, hv⟩
    rw [lN_lt' (by omega) (by omega), lN_lt' (by omega) (by omega)]
    exact ⟨by omega, hv⟩
  · rintro ⟨h1, h2⟩
    obtain ⟨v, hv, rfl⟩ := l_pos h1
    rw [lN_lt' hv (by omega)] at h2
    exact ⟨v, rfl, h2⟩
set_option maxRecDepth 16384 in
theorem VN_ok {g i : Nat} {N : Nat → Int64} (hg : g ≤ 12) (h : okN g (2 * i) (N (2 * i))) : N (2 * i) = lN (VN N i) ∧ VN N i < 2 * g ∧ VN N i < 64 ∧ (N (2 * i)).toInt32 = nI (VN N i) := by
  obtain ⟨v, hv, hv2⟩ := h
  rw [if_neg (by omega)] at hv2
  have e : VN N i = v := by
    unfold VN
    rw [hv, lN_toInt (by omega)]
    rfl
  rw [e, hv]
  exact ⟨rfl, hv2, by omega, lN_i (by omega)⟩
set_option maxRecDepth 16384 in
theorem UN_ok {g i : Nat} {N : Nat → Int64} (h : okN g (2 * i + 1) (N (2 * i + 1))) : (N (2 * i + 1)).toInt32 = bI (UN N i) := by
  obtain ⟨v, hv, hv2⟩ := h
  rw [if_pos (by omega)] at hv2
  unfold UN
  have hd : decide (lN v = lN 1) = decide (v = 1) := decide_eq_decide.mpr (by rw [lN_eq' (by omega) (by omega)])
  rw [hv, hd]
  rcases (by omega : v = 0 ∨ v = 1) with rfl | rfl
  · decide +kernel
  · decide +kernel
/- after k numbers -/
def TK (N : Nat → Int64) (P k : Nat) (h : PH) : Prop := h.1 42 7 = nI P ∧ CE (kn (VN N) ((k + 1) / 2)) h ∧ (∀ i, i < (k + 1) / 2 → h.1 72 (6 * i) = nI 1 ∧ ∀ c, c < 32 → bt (h.1 (47 + 6 * i) 0) c = (c.testBit (ps (kn (VN N) P) (VN N i / 2)) == decide (VN N i % 2 = 1))) ∧ ∀ i, i < k / 2 → h.1 43 i = bI (UN N i)
set_option maxRecDepth 16384 in
theorem TK_SP {N : Nat → Int64} {P m : Nat} {h : PH} (hm : (m + 1) / 2 = P) (hm2 : m % 2 = 1) (hP : P ≤ 5) (t : TK N P m h) : SP (AC (VN N) P) (UN N) P 1 0 h ∧ ∀ k, k + 1 < P → h.1 43 k = bI (UN N k) := by
  obtain ⟨t1, t2, t3, t4⟩ := t
  refine ⟨fun e g hg hh => ?_, fun k hk => t4 k (by omega)⟩
  have he : e = 0 := by omega
  subst he
  obtain ⟨a1, a2⟩ := t3 g (by omega)
  rw [show 5 * g + (g + 0) = 6 * g by omega]
  refine ⟨a1, fun k hk c hc => ?_⟩
  have hk : k < 1 := hk
  rw [show k = 0 by omega]
  show bt (h.1 (47 + 6 * g) 0) c = (lfM g).testBit (AC (VN N) P c)
  rw [a2 c hc, lfM_tb (AC_lt _ _ _), AC_tb (by omega) hP]
set_option maxRecDepth 16384 in
theorem c_takeSaid {g t m : Nat} {N : Nat → Int64} {h : PH} (hg : g ≤ 12) (h7 : h.1 3 7 = nI g) (ht : t < 4) (hm : m ≤ 30) (hmany : h.1 (85 + 2 * t) 1 = nI m) (hrow : ∀ k, k < 30 → h.2 (86 + 2 * t) k = N k) : ok (f_X1_take 42 (85 + 2 * t) h) (fun r h' => eqx TLs h h' ∧ ((sayOk g m N ∧ r = bI true ∧ TK N ((m + 1) / 2) m h') ∨ (¬ sayOk g m N ∧ r = bI false))) := by
  have nz2 : ∀ o : Option (Int32 × PH), nz (2 : Int32) o = o := fun o => pw_nz (k := 2) (by omega) (by omega)
  unfold f_X1_take
  rw [nz2]
  refine ok_join (fun h1 => eqx TLs h h1 ∧ ¬ sayOk g m N) (fun h1 q => by
    rw [show zr (0 : Int32) h1 = some (bI false, h1) from zr_0 h1]
    exact ok_some ⟨q.1, Or.inr ⟨q.2, rfl⟩⟩) (fun j18 hj18 => ?_)
  have hmod : nI m - nI m / (2 : Int32) * (2 : Int32) = nI (m % 2) := by
    rw [pw_lit, pw_dv (by omega) (by omega) (by omega), pw_mul, pw_sub (by omega), show m - m / 2 * 2 = m % 2 by omega]
  rw [hmany, hmod]
  by_cases q1 : m % 2 = 0
  · rw [if_pos (by rw [q1]; rfl)]
    exact hj18 h ⟨eqx_rfl _ _, fun z => by have := z.1; omega⟩
  · rw [if_neg (nI_ne0 (by omega) (by omega))]
    by_cases q2 : m ≤ 9
    · rw [if_pos (show nI m ≤ (9 : Int32) by rw [pw_lit, pw_leI (by omega) (by omega)]; exact q2), nz2]
      have hP : (nI m + (1 : Int32)) / (2 : Int32) = nI ((m + 1) / 2) := by
        rw [pw_lit, pw_lit, nI_add, pw_dv (by omega) (by omega) (by omega)]
      rw [hP]
      generalize hPP : (m + 1) / 2 = P at *
      refine ok_lt (ok_lt (ok_lt ?_))
      have e3 : eqx TLs h (pI (pI h 42 7 (nI P)) 42 8 (0 : Int32)) := eqx_trans (eqx_pI (by decide)) (eqx_pI (by decide))
      have t3 : TK N P 0 (pI (pI h 42 7 (nI P)) 42 8 (0 : Int32)) := ⟨by rw [pw_pIo (by omega), pw_pIs], ⟨pw_pIs, fun k hk => absurd hk (Nat.not_lt_zero k)⟩, fun i hi => absurd hi (by omega), fun i hi => absurd hi (by omega)⟩
      generalize pI (pI h 42 7 (nI P)) 42 8 (0 : Int32) = h3 at *
      refine ok_join (fun h1 => eqx TLs h h1 ∧ ¬ sayOk g m N) (fun h1 q => by
        rw [show zr (0 : Int32) h1 = some (bI false, h1) from zr_0 h1]
        exact ok_some ⟨q.1, Or.inr ⟨q.2, rfl⟩⟩) (fun j98 hj98 => ?_)
      have k85 : 85 + 2 * t ∉ TLs := (by decide : ∀ t, t < 4 → 85 + 2 * t ∉ TLs) t ht
      have k86 : 86 + 2 * t ∉ TLs := (by decide : ∀ t, t < 4 → 86 + 2 * t ∉ TLs) t ht
      have k3 : 3 ∉ TLs := by decide
      refine lp_ok (fun n s h1 => ∃ k, k + n = m ∧ s = nI k ∧ eqx TLs h h1 ∧ TK N P k h1 ∧ ∀ i, i < k → okN g i (N i)) ?_ FU m _ h3 ⟨0, by omega, rfl, e3, t3, fun i hi => absurd hi (Nat.not_lt_zero i)⟩ (fu_lt (by omega))
      rintro n rec s h1 ⟨k, hk, rfl, e1, tk, ok1⟩ hrec
      have w1 : h1.1 (85 + 2 * t) 1 = nI m := by rw [(e1 _ k85).1]; exact hmany
      unfold b_X1_take_39
      rw [w1]
      by_cases h0 : n = 0
      · rw [if_pos ((nI_leI (by omega) (by omega)).mpr (by omega))]
        rw [show k = m by omega] at tk ok1
        rw [show zr (1 : Int32) h1 = some (bI true, h1) from zr_1 h1]
        exact ok_some ⟨e1, Or.inl ⟨⟨by omega, q2, ok1⟩, rfl, tk⟩⟩
      · rw [if_neg (fun z => by have := (nI_leI (by omega) (by omega)).mp z; omega), r_tr ht, pw_ldL (by omega) (by omega), (e1 _ k86).2, hrow k (by omega)]
        refine ok_lt ?_
        rw [nz2]
        have hkm : nI k - nI k / (2 : Int32) * (2 : Int32) = nI (k % 2) := by
          rw [pw_lit, pw_dv (by omega) (by omega) (by omega), pw_mul, pw_sub (by omega), show k - k / 2 * 2 = k % 2 by omega]
        have hkd : nI k / (2 : Int32) = nI (k / 2) := by rw [pw_lit, pw_dv (by omega) (by omega) (by omega)]
        have hsay : ¬ okN g k (N k) → ¬ sayOk g m N := fun z y => z (y.2.2 k (by omega))
        refine ok_joinT (fun t8 h9 => h9 = h1 ∧ t8 = bI (decide (k % 2 = 1))) ?_ (fun j66 hj66 => ?_)
        · rintro t8 h9 ⟨rfl, rfl⟩
          refine ok_lt ?_
          rw [show (0 : Int64) = lN 0 from rfl]
          by_cases c1 : N k < lN 0
          · rw [if_pos ((lg_cmp_lt _ _).mpr c1)]
            exact hj98 h9 ⟨e1, hsay (fun z => ((okN_acc hg).mp z).1 c1)⟩
          · rw [if_neg (fun z => c1 ((lg_cmp_lt _ _).mp z))]
            refine ok_joinT (fun t11 h12 => h12 = h9 ∧ t11 = nI (if k % 2 = 1 then 2 else 2 * g)) ?_ (fun j93 hj93 => ?_)
            · rintro t11 h12 ⟨rfl, rfl⟩
              have hb : (if k % 2 = 1 then 2 else 2 * g) < 2147483648 := by split <;> omega
              rw [nI_l hb]
              by_cases c2 : N k < lN (if k % 2 = 1 then 2 else 2 * g)
              · have hok : okN g k (N k) := (okN_acc hg).mpr ⟨c1, c2⟩
                have ok2 : ∀ i, i < k + 1 → okN g i (N i) := fun i hi => by
                  by_cases e : i = k
                  · rw [e]; exact hok
                  · exact ok1 i (by omega)
                rw [if_pos ((lg_cmp_lt _ _).mpr c2)]
                refine ok_join (fun h13 => eqx TLs h h13 ∧ TK N P (k + 1) h13) ?_ (fun j127 hj127 => ?_)
                · rintro h13 ⟨e13, tk13⟩
                  refine ok_lt ?_
                  rw [pw_oi, nI_add]
                  exact hrec (n - 1) _ h13 (by omega) ⟨k + 1, by omega, rfl, e13, tk13, ok2⟩
                · obtain ⟨a1, a2, a3, a4⟩ := tk
                  by_cases c3 : k % 2 = 1
                  · obtain ⟨i, rfl⟩ : ∃ i, k = 2 * i + 1 := ⟨k / 2, by omega⟩
                    rw [decide_eq_true c3, if_neg (show ¬ bI true = (0 : Int32) by decide), nz2, hkd, UN_ok hok]
                    simp only [r_42_2]
                    have ki : (2 * i + 1) / 2 = i := by omega
                    rw [ki, pw_stI (by omega) (by omega)]
                    have p1 : (2 * i + 1 + 1) / 2 = i + 1 := by omega
                    have p2 : (2 * i + 1 + 1 + 1) / 2 = i + 1 := by omega
                    rw [p1] at a2 a3
                    rw [ki] at a4
                    refine hj127 _ ⟨eqx_trans e1 (eqx_pI (by decide)), by rw [pw_pIo (by omega)]; exact a1, by rw [p2]; exact CE_to (pw_pIo (by omega)) (funext fun j => pw_pIo (by omega)) a2, fun i2 hi2 => ?_, fun i2 hi2 => ?_⟩
                    · rw [p2] at hi2
                      rw [pw_pIo (by omega)]
                      refine ⟨(a3 i2 hi2).1, fun c hc => ?_⟩
                      rw [pw_pIo (by omega)]
                      exact (a3 i2 hi2).2 c hc
                    · rw [p1] at hi2
                      by_cases e : i2 = i
                      · rw [e, pw_pIs]
                      · rw [pw_pIo (by omega)]
                        exact a4 i2 (by omega)
                  · obtain ⟨i, rfl⟩ : ∃ i, k = 2 * i := ⟨k / 2, by omega⟩
                    obtain ⟨v1, v2, v3, v4⟩ := VN_ok hg hok
                    have ki : 2 * i / 2 = i := by omega
                    have p1 : (2 * i + 1) / 2 = i := by omega
                    have p2 : (2 * i + 1 + 1) / 2 = i + 1 := by omega
                    rw [p1] at a2 a3
                    rw [ki] at a4
                    have hkl := kn_len (VN N) i
                    have hvlt : ∀ j, j < i → VN N j < 64 := fun j hj => (VN_ok hg (ok1 (2 * j) (by omega))).2.2.1
                    rw [decide_eq_false c3, if_pos (show bI false = (0 : Int32) from rfl), nz2, hkd, ki, v4]
                    refine ok_cb (c_takePart a2 (by omega) (by omega) v3 (fun q hq => by have := kn_lt hvlt _ (getD_mem hq); omega)) ?_
                    rintro r2 h16 ⟨e16, b1, b2, b3, b4, b5⟩
                    have hTL : eqx TLs h12 h16 := eqx_mono e16 (fun c hc => by
                      simp only [List.mem_cons, List.not_mem_nil, or_false] at hc
                      rcases hc with rfl | rfl | rfl | rfl
                      · decide
                      · decide
                      · decide
                      · exact List.mem_append_right _ (rg_m.mpr (by omega)))
                    have hps : ps (kn (VN N) i) (VN N i / 2) = ps (kn (VN N) P) (VN N i / 2) := kn_ps (VN N) (by omega)
                    refine hj127 _ ⟨eqx_trans e1 hTL, by rw [b1 7 (by decide)]; exact a1, by rw [p2]; exact b3, fun i2 hi2 => ?_, fun i2 hi2 => ?_⟩
                    · rw [p2] at hi2
                      by_cases e : i2 = i
                      · rw [e]
                        exact ⟨b4, fun c hc => by rw [b5 c hc, hps]⟩
                      · rw [b2 _ (by omega), (e16 (47 + 6 * i2) (by simp; omega)).1]
                        exact a3 i2 (by omega)
                    · rw [p1] at hi2
                      rw [(e16 43 (by simp; omega)).1]
                      exact a4 i2 hi2
              · rw [if_neg (fun z => c2 ((lg_cmp_lt _ _).mp z))]
                exact hj98 h12 ⟨e1, hsay (fun z => c2 ((okN_acc hg).mp z).2)⟩
            · by_cases c3 : k % 2 = 1
              · rw [decide_eq_true c3, if_neg (show ¬ bI true = (0 : Int32) by decide)]
                exact hj93 _ _ ⟨rfl, by rw [if_pos c3]; rfl⟩
              · rw [decide_eq_false c3, if_pos (show bI false = (0 : Int32) from rfl)]
                simp only [r_42_0]
                have h97 : h9.1 3 7 = nI g := by rw [(e1 3 k3).1]; exact h7
                rw [h97]
                exact hj93 _ _ ⟨rfl, by rw [if_neg c3, pw_lit, pw_mul]⟩
        · rw [hkm]
          by_cases c3 : k % 2 = 1
          · rw [if_pos (by rw [c3]; rfl)]
            exact hj66 _ _ ⟨rfl, by rw [decide_eq_true c3]; rfl⟩
          · rw [if_neg (show ¬ nI (k % 2) = (1 : Int32) by rw [pw_lit, pw_eqI (by omega) (by omega)]; exact c3)]
            exact hj66 _ _ ⟨rfl, by rw [decide_eq_false c3]; rfl⟩
    · rw [if_neg (show ¬ nI m ≤ (9 : Int32) by rw [pw_lit, pw_leI (by omega) (by omega)]; exact q2)]
      exact hj18 h ⟨eqx_rfl _ _, fun z => q2 z.2.1⟩

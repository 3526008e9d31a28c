/-! ===== the class goes on to the next token ===== -/
set_option maxRecDepth 16384 in
theorem sg_ok {c : Nat} (hc : c < 256) : isG c = anyTo 12 (fun i => decide (wbN 1 i = c)) := (by decide +kernel : ∀ c, c < 256 → isG c = anyTo 12 (fun i => decide (wbN 1 i = c))) c hc
set_option maxRecDepth 16384 in
theorem slen1 : slen 1 = 12 := by decide
set_option maxRecDepth 16384 in
theorem c_index {c : Nat} {h : PH} (hc : c < 256) : ∃ r, f_J0_indexOf_0f7a4 1 (nI c) h = some (r, h) ∧ ((r < nI 0) ↔ isG c = false) := by
  have hsg := sg_ok hc
  have key : ok (f_J1_indexOfChar_4cfef 1 (nI c) (nI 0) (nI 12) h) (fun r h' => h' = h ∧ ((r < nI 0) ↔ isG c = false)) := by
    unfold f_J1_indexOfChar_4cfef
    refine ok_lt (ok_lt ?_)
    refine lp_ok (fun k s h1 => k ≤ 12 ∧ s = nI (12 - k) ∧ h1 = h ∧ ∀ i, i < 12 - k → wbN 1 i ≠ c) ?_ FU 12 _ h ⟨Nat.le_refl _, rfl, rfl, fun i hi => absurd hi (by omega)⟩ (fu_lt (by omega))
    rintro k s0 s h1 ⟨hk, rfl, rfl, y⟩ hrec
    unfold b_J1_indexOfChar_4cfef_7
    by_cases h0 : k = 0
    · subst h0
      rw [if_pos (by decide)]
      refine ok_some ⟨rfl, fun _ => ?_, fun _ => by decide⟩
      rw [hsg]
      cases hb : anyTo 12 (fun i => decide (wbN 1 i = c))
      · rfl
      · obtain ⟨i, hi, q⟩ := anyTo_iff.mp hb
        exact absurd (of_decide_eq_true q) (y i (by omega))
    · generalize hi : 12 - k = i at *
      have e9 : 12 - (k - 1) = i + 1 := by omega
      obtain ⟨a1, a2⟩ := wb_ok (w := 1) (k := i) (by decide) (by rw [slen1]; omega)
      have hx : ¬ (nI 12 ≤ nI i) := by
        rw [pw_leI (by omega) (by omega)]
        omega
      have hsl : i < slen 1 := by rw [slen1]; omega
      rw [if_neg hx, pw_ldS hsl (by omega), a1]
      by_cases e : wbN 1 i = c
      · have he : nI (wbN 1 i) = (nI c).toInt8.toInt32 := by
          rw [e]
          exact (sby_lo (by omega)).symm
        rw [if_pos he]
        refine ok_some ⟨rfl, fun q => ?_, fun q => ?_⟩
        · rw [pw_ltI (by omega) (by omega)] at q
          omega
        · rw [hsg] at q
          have := (anyTo_iff (f := fun i => decide (wbN 1 i = c)) (n := 12)).mpr ⟨i, by omega, decide_eq_true e⟩
          rw [q] at this
          cases this
      · have he : ¬ nI (wbN 1 i) = (nI c).toInt8.toInt32 := fun z => by
          have z2 : sby c = nI (wbN 1 i) := z.symm
          rw [sby_eq hc (by omega)] at z2
          exact e z2.symm
        rw [if_neg he]
        simp only [pw_lt, pw_oi, nI_add]
        refine hrec (k - 1) _ _ (by omega) ⟨by omega, by rw [e9], rfl, fun x hx => ?_⟩
        rw [e9] at hx
        by_cases ex : x = i
        · subst ex
          exact e
        · exact y x (by omega)
  obtain ⟨r, x, hx, rfl, q⟩ := key
  refine ⟨r, ?_, q⟩
  have hof : Int32.ofNat (slen 1) = nI 12 := by rw [slen1]; rfl
  have hce : f_J1_canEncode_9a6ad (nI c) x = some (nI 1, x) := by
    unfold f_J1_canEncode_9a6ad
    simp (disch := omega) only [pw_lt, pw_cb, pw_cbx, pw_cbxr, pw_lit, pw_litL, pw_oi, pw_oim, pw_oi8, pw_m, pw_ldI, pw_ldL, pw_ldR, pw_stI, pw_stL, pw_nz, pw_ltI, pw_leI, pw_eqI, pw_eqm, pw_eqm2, pw_ltm, pw_mlt, pw_lem, pw_mle, pw_mm, pw_dec, pw_nar0, pw_nar1, nI_add, pw_sub, pw_mul, pw_and, pw_or, pw_andn, pw_shl1, pw_shl, pw_shr, pw_dv, nI_l, lN_i, Bool.false_eq_true, reduceCtorEq, if_false, if_true, ↓reduceIte, if_pos, if_neg]
    rfl
  have h12 : (nI (slen 1)) = nI 12 := by rw [slen1]
  unfold f_J0_indexOf_0f7a4 f_J0_indexOf_7cf53
  rw [e_isLat]
  simp only [pw_cb, e_len (w := 1) (h := x) (by rw [slen1]; decide), pw_lt, h12]
  rw [if_neg (by decide)]
  unfold f_J1_indexOf_4cfef
  rw [hce]
  simp only [pw_cb, hof, pw_lt]
  rw [if_neg (show ¬ nI 1 = (0 : Int32) by decide)]
  simp only [ite_self]
  have hx : f_J1_indexOfChar_4cfef 1 (nI c) (0 : Int32) (nI 12) x = some (r, x) := hx
  rw [if_pos (by decide), hx]
  rfl
set_option maxRecDepth 16384 in
theorem en_L {n : Nat} {X : Nat → Nat} {b : Nat} (hb : b < n) (h : isL (X b) = true) : enT n X b = runF (fun i => decide (97 ≤ X i) && decide (X i ≤ 122)) n b ∧ tkd n X b = 2 := by
  constructor
  · unfold enT
    rw [if_neg (by omega), if_pos h]
    rfl
  · unfold tkd
    rw [if_neg (by omega), if_pos h]
set_option maxRecDepth 16384 in
theorem en_D {n : Nat} {X : Nat → Nat} {b : Nat} (hb : b < n) (h : isL (X b) = false) (h2 : isD (X b) = true) : enT n X b = runF (fun i => decide (48 ≤ X i) && decide (X i ≤ 57)) n b ∧ tkd n X b = if enT n X b - b ≤ 3 then 3 else 1 := by
  constructor
  · unfold enT
    rw [if_neg (by omega), h, if_neg (by decide), if_pos h2]
    rfl
  · unfold tkd
    rw [if_neg (by omega), h, if_neg (by decide), if_pos h2]
set_option maxRecDepth 16384 in
theorem en_G {n : Nat} {X : Nat → Nat} {b : Nat} (hb : b < n) (h : isL (X b) = false) (h2 : isD (X b) = false) : enT n X b = b + 1 ∧ tkd n X b = if isG (X b) then 4 else 1 := by
  constructor
  · unfold enT
    rw [if_neg (by omega), h, if_neg (by decide), h2, if_neg (by decide)]
  · unfold tkd
    rw [if_neg (by omega), h, if_neg (by decide), h2, if_neg (by decide)]
set_option maxRecDepth 16384 in
theorem en_N {n : Nat} {X : Nat → Nat} {b : Nat} (hb : n ≤ b) : enT n X b = b ∧ tkd n X b = 0 := by
  constructor
  · unfold enT
    rw [if_pos hb]
  · unfold tkd
    rw [if_pos hb]
set_option maxRecDepth 16384 in
theorem c_advance {n : Nat} {X : Nat → Nat} {e : Nat} {h : PH} (T : TX n X h) (v1 : h.1 15 1 = nI n) (v2 : h.1 15 2 = nI e) (he : e ≤ n) : ok (f_X9_advance 15 h) (fun _ h' => eqx [15] h h' ∧ TC n X (sk n X e) h') := by
  have hn := T.1
  unfold f_X9_advance
  refine ok_lt ?_
  rw [v2]
  refine ok_join (fun h2 => eqx [15] h h2 ∧ h2.1 15 1 = nI n ∧ h2.1 15 3 = nI (sk n X e)) ?_ (fun j hj => ?_)
  · rintro h2 ⟨e2, w1, w3⟩
    have hb := (sk_b (X := X) he).2
    generalize sk n X e = b at *
    have heb := en_b (X := X) hb
    refine ok_lt ?_
    rw [w3]
    have hb1 : nI b + 1 = nI (b + 1) := nI_add b 1
    rw [hb1]
    have e3 : eqx [15] h (pI h2 15 2 (nI (b + 1))) := eqx_trans e2 (eqx_pI (by simp))
    have z1 : (pI h2 15 2 (nI (b + 1))).1 15 1 = nI n := by rw [pw_pIo (by omega)]; exact w1
    have z2 : (pI h2 15 2 (nI (b + 1))).1 15 2 = nI (b + 1) := pw_pIs
    have z3 : (pI h2 15 2 (nI (b + 1))).1 15 3 = nI b := by rw [pw_pIo (by omega)]; exact w3
    generalize pI h2 15 2 (nI (b + 1)) = h3 at *
    have T3 := TX_to e3 (by decide) (by decide) T
    refine ok_join (fun h4 => eqx [15] h h4 ∧ TC n X b h4) (fun h4 q => ok_some q) (fun j241 hj241 => ?_)
    rw [z3, z1]
    by_cases c : b < n
    · rw [if_pos ((nI_ltI (by omega) (by omega)).mpr c)]
      obtain ⟨t1, t2, t3⟩ := T3.2 b c
      have t3 : h3.1 1 b = sby (X b) := t3
      simp (disch := omega) only [r_15_0, pw_ldI, t3]
      have s97 : (sby (X b) < (97 : Int32)) = (X b < 97 ∨ 128 ≤ X b) := sby_lt t1 (by decide)
      have s122 : ((122 : Int32) < sby (X b)) = (122 < X b ∧ X b < 128) := sby_gt t1 (by decide)
      have s48 : (sby (X b) < (48 : Int32)) = (X b < 48 ∨ 128 ≤ X b) := sby_lt t1 (by decide)
      have s57 : ((57 : Int32) < sby (X b)) = (57 < X b ∧ X b < 128) := sby_gt t1 (by decide)
      simp only [s97, s122]
      refine ok_join (fun h6 => h6 = h3 ∧ isL (X b) = false) ?_ (fun j145 hj145 => ?_)
      · rintro h6 ⟨rfl, hL⟩
        rw [z3]
        simp (disch := omega) only [pw_ldI, t3]
        simp only [s48, s57]
        refine ok_join (fun h8 => h8 = h6 ∧ isD (X b) = false) ?_ (fun j210 hj210 => ?_)
        · rintro h8 ⟨rfl, hD⟩
          obtain ⟨en1, tk1⟩ := en_G c hL hD
          rw [z3]
          simp (disch := omega) only [pw_ldI, t3]
          have hch : (((sby (X b) &&& (255 : Int32)).toUInt32 % 65536).toInt32) = nI (X b) := ch_sv t1
          rw [hch]
          obtain ⟨r, hr, hr2⟩ := c_index (h := h8) t1
          rw [hr]
          simp only [pw_cb]
          refine ok_joinT (fun t h13 => h13 = h8 ∧ t = nI (tkd n X b)) ?_ (fun j238 hj238 => ?_)
          · rintro t h13 ⟨rfl, rfl⟩
            refine ok_lt ?_
            exact hj241 _ ⟨eqx_trans e3 (eqx_pI (by simp)), by rw [pw_pIo (by omega)]; exact z1, by rw [pw_pIo (by omega), en1]; exact z2, by rw [pw_pIo (by omega)]; exact z3, pw_pIs, hb⟩
          · by_cases q : isG (X b) = true
            · have hr3 : ¬ (r < (0 : Int32)) := fun z => by
                have := hr2.mp z
                rw [q] at this
                cases this
              rw [if_neg hr3]
              refine hj238 _ _ ⟨rfl, ?_⟩
              rw [tk1, if_pos q]
              rfl
            · have q : isG (X b) = false := by simpa using q
              have hr3 : r < (0 : Int32) := hr2.mpr q
              rw [if_pos hr3]
              refine hj238 _ _ ⟨rfl, ?_⟩
              rw [tk1, if_neg (by rw [q]; decide)]
              rfl
        · by_cases cD : isD (X b) = true
          · have cD2 := isD_iff.mp cD
            obtain ⟨en1, tk1⟩ := en_D c hL cD
            rw [if_neg (by omega), if_neg (by omega)]
            have hre := c_runEnd (lo := 48) (hi := 57) T3 (by decide) (by decide) z1 z3 hb
            have hre : f_X9_runEnd 15 (48 : Int32) (57 : Int32) h6 = some (nI (runF (fun i => decide (48 ≤ X i) && decide (X i ≤ 57)) n b), h6) := hre
            rw [hre, ← en1]
            simp only [pw_cb]
            refine ok_lt ?_
            refine ok_joinT (fun t h13 => h13 = pI h6 15 2 (nI (enT n X b)) ∧ t = nI (tkd n X b)) ?_ (fun j204 hj204 => ?_)
            · rintro t h13 ⟨rfl, rfl⟩
              refine ok_lt ?_
              exact hj241 _ ⟨eqx_trans e3 (eqx_trans (eqx_pI (by simp)) (eqx_pI (by simp))), by rw [pw_pIo (by omega), pw_pIo (by omega)]; exact z1, by rw [pw_pIo (by omega), pw_pIs], by rw [pw_pIo (by omega), pw_pIo (by omega)]; exact z3, pw_pIs, hb⟩
            · have q3 : (pI h6 15 2 (nI (enT n X b))).1 15 3 = nI b := by rw [pw_pIo (by omega)]; exact z3
              rw [pw_pIs, q3, pw_sub heb.1]
              by_cases cl : enT n X b - b ≤ 3
              · have hc : ¬ ((3 : Int32) < nI (enT n X b - b)) := by
                  rw [pw_lit, pw_ltI (by omega) (by omega)]
                  omega
                rw [if_neg hc]
                refine hj204 _ _ ⟨rfl, ?_⟩
                rw [tk1, if_pos cl]
                rfl
              · have hc : (3 : Int32) < nI (enT n X b - b) := by
                  rw [pw_lit, pw_ltI (by omega) (by omega)]
                  omega
                rw [if_pos hc]
                refine hj204 _ _ ⟨rfl, ?_⟩
                rw [tk1, if_neg cl]
                rfl
          · have cD2 : ¬ (48 ≤ X b ∧ X b ≤ 57) := fun z => cD (isD_iff.mpr z)
            have cD3 : isD (X b) = false := by simpa using cD
            by_cases d1 : X b < 48 ∨ 128 ≤ X b
            · rw [if_pos d1]
              exact hj210 _ ⟨rfl, cD3⟩
            · rw [if_neg d1, if_pos (by omega)]
              exact hj210 _ ⟨rfl, cD3⟩
      · by_cases cL : isL (X b) = true
        · have cL2 := isL_iff.mp cL
          obtain ⟨en1, tk1⟩ := en_L c cL
          rw [if_neg (by omega), if_neg (by omega)]
          refine ok_lt ?_
          have e4 : eqx [15] h3 (pI h3 15 4 (2 : Int32)) := eqx_pI (by simp)
          have hre := c_runEnd (lo := 97) (hi := 122) (TX_to e4 (by decide) (by decide) T3) (by decide) (by decide) (by rw [pw_pIo (by omega)]; exact z1) (by rw [pw_pIo (by omega)]; exact z3) hb
          have hre : f_X9_runEnd 15 (97 : Int32) (122 : Int32) (pI h3 15 4 (2 : Int32)) = some (nI (runF (fun i => decide (97 ≤ X i) && decide (X i ≤ 122)) n b), pI h3 15 4 (2 : Int32)) := hre
          rw [hre, ← en1]
          simp only [pw_cb]
          refine ok_lt ?_
          exact hj241 _ ⟨eqx_trans e3 (eqx_trans e4 (eqx_pI (by simp))), by rw [pw_pIo (by omega), pw_pIo (by omega)]; exact z1, pw_pIs, by rw [pw_pIo (by omega), pw_pIo (by omega)]; exact z3, by rw [pw_pIo (by omega), pw_pIs, tk1]; rfl, hb⟩
        · have cL2 : ¬ (97 ≤ X b ∧ X b ≤ 122) := fun z => cL (isL_iff.mpr z)
          have cL3 : isL (X b) = false := by simpa using cL
          by_cases d1 : X b < 97 ∨ 128 ≤ X b
          · rw [if_pos d1]
            exact hj145 _ ⟨rfl, cL3⟩
          · rw [if_neg d1, if_pos (by omega)]
            exact hj145 _ ⟨rfl, cL3⟩
    · have hc : ¬ (nI b < nI n) := fun z => c ((nI_ltI (by omega) (by omega)).mp z)
      rw [if_neg hc]
      obtain ⟨en1, tk1⟩ := en_N (X := X) (show n ≤ b by omega)
      refine ok_lt ?_
      have q3 : (pI h3 15 4 (0 : Int32)).1 15 3 = nI b := by rw [pw_pIo (by omega)]; exact z3
      rw [q3]
      refine ok_lt ?_
      exact hj241 _ ⟨eqx_trans e3 (eqx_trans (eqx_pI (by simp)) (eqx_pI (by simp))), by rw [pw_pIo (by omega), pw_pIo (by omega)]; exact z1, by rw [pw_pIs, en1], by rw [pw_pIo (by omega)]; exact q3, by rw [pw_pIo (by omega), pw_pIs, tk1]; rfl, hb⟩
  · refine lp_ok (fun k s h1 => ∃ p, p + k = n ∧ eqx [15] h h1 ∧ h1.1 15 1 = nI n ∧ h1.1 15 3 = nI p ∧ sk n X p = sk n X e) ?_ FU (n - e) _ _ ⟨e, by omega, eqx_pI (by simp), by rw [pw_pIo (by omega)]; exact v1, pw_pIs, rfl⟩ (fu_lt (by omega))
    rintro k rec s h1 ⟨p, hp, e1, w1, w3, hs⟩ hrec
    unfold b_X9_advance_8
    rw [w1, w3]
    by_cases h0 : k = 0
    · have hpn : p = n := by omega
      have hsk : sk n X p = p := runF_n (by omega)
      rw [if_pos ((nI_leI (by omega) (by omega)).mpr (by omega))]
      exact hj h1 ⟨e1, w1, by rw [w3, ← hs, hsk]⟩
    · have hc : ¬ (nI n ≤ nI p) := fun z => by
        have := (nI_leI (by omega) (by omega)).mp z
        omega
      rw [if_neg hc]
      have T1 := TX_to e1 (by decide) (by decide) T
      obtain ⟨t1, t2, t3⟩ := T1.2 p (by omega)
      have t3 : h1.1 1 p = sby (X p) := t3
      simp (disch := omega) only [r_15_0, pw_ldI, t3]
      have s10 : (sby (X p) = (10 : Int32)) = (X p = 10) := sby_eq t1 (by decide)
      have s32 : (sby (X p) = (32 : Int32)) = (X p = 32) := sby_eq t1 (by decide)
      simp only [s10, s32]
      refine ok_join (fun h4 => h4 = h1 ∧ isB (X p) = true) ?_ (fun j47 hj47 => ?_)
      · rintro h4 ⟨rfl, hB⟩
        rw [w3]
        refine ok_lt ?_
        have hsk : sk n X p = sk n X (p + 1) := runF_s (f := fun i => isB (X i)) (by omega) hB
        refine hrec (k - 1) _ _ (by omega) ⟨p + 1, by omega, eqx_trans e1 (eqx_pI (by simp)), by rw [pw_pIo (by omega)]; exact w1, by rw [pw_pIs]; exact nI_add p 1, by rw [← hsk]; exact hs⟩
      · by_cases q : isB (X p) = true
        · rcases isB_iff.mp q with q2 | q2
          · rw [if_pos q2]
            exact hj47 _ ⟨rfl, q⟩
          · rw [if_neg (by omega), if_pos q2]
            exact hj47 _ ⟨rfl, q⟩
        · have q2 : ¬ (X p = 10 ∨ X p = 32) := fun z => q (isB_iff.mpr z)
          have hsk : sk n X p = p := runF_e (f := fun i => isB (X i)) (by simpa using q)
          rw [if_neg (by omega), if_neg (by omega)]
          exact hj h1 ⟨e1, w1, by rw [w3, ← hs, hsk]⟩
/- from a token to the next -/
set_option maxRecDepth 16384 in
theorem c_adv {n : Nat} {X : Nat → Nat} {b : Nat} {h : PH} (T : TX n X h) (C : TC n X b h) : ok (f_X9_advance 15 h) (fun _ h' => eqx [15] h h' ∧ TC n X (nx n X b) h') := by
  obtain ⟨c1, c2, c3, c4, hb⟩ := C
  exact c_advance T c1 c2 (en_b (X := X) hb).2.1
set_option maxRecDepth 16384 in
theorem c_begin {n : Nat} {X : Nat → Nat} {h : PH} (T : TX n X h) : ok (f_X9_begin 15 (nI n) h) (fun _ h' => eqx [15] h h' ∧ TC n X (sk n X 0) h') := by
  unfold f_X9_begin
  refine ok_lt (ok_lt ?_)
  have e : eqx [15] h (pI (pI h 15 1 (nI n)) 15 2 (0 : Int32)) := eqx_trans (eqx_pI (by simp)) (eqx_pI (by simp))
  refine ok_cb (c_advance (e := 0) (TX_to e (by decide) (by decide) T) (by rw [pw_pIo (by omega), pw_pIs]) pw_pIs (Nat.zero_le _)) ?_
  rintro r h' ⟨e', t⟩
  exact ok_some ⟨eqx_trans e e', t⟩

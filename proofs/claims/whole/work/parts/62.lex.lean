/-! ===== the reference goes on to the next token ===== -/
def TR (n : Nat) (X : Nat → Nat) (b : Nat) (h : PH) : Prop := h.1 152 8 = nI n ∧ h.1 152 9 = nI (enT n X b) ∧ h.1 152 10 = nI b ∧ h.1 152 11 = nI (krf n X b) ∧ (tkd n X b = 3 → h.1 152 12 = nI (vl n X b)) ∧ b ≤ n
/- all but the token -/
def fT (h h' : PH) : Prop := eqx [152] h h' ∧ ∀ j, j ≠ 9 → j ≠ 10 → j ≠ 11 → j ≠ 12 → h'.1 152 j = h.1 152 j
set_option maxRecDepth 16384 in
theorem fT_rfl (h : PH) : fT h h := ⟨eqx_rfl _ _, fun _ _ _ _ _ => rfl⟩
set_option maxRecDepth 16384 in
theorem fT_trans {a b c : PH} (x : fT a b) (y : fT b c) : fT a c := ⟨eqx_trans x.1 y.1, fun j q1 q2 q3 q4 => by rw [y.2 j q1 q2 q3 q4]; exact x.2 j q1 q2 q3 q4⟩
set_option maxRecDepth 16384 in
theorem fT_pI {h : PH} {j : Nat} {v : Int32} (hj : j = 9 ∨ j = 10 ∨ j = 11 ∨ j = 12) : fT h (pI h 152 j v) := ⟨eqx_pI (by simp), fun i q1 q2 q3 q4 => pw_pIo (by omega)⟩
set_option maxRecDepth 16384 in
theorem e_isLetter {c : Nat} {h : PH} (hc : c < 256) : f_X12_isLetter (nI c) h = some (bI (isL c), h) := by
  have a1 : ((nI c) < (97 : Int32)) = (c < 97) := pw_ltI (a := c) (b := 97) (by omega) (by omega)
  have a2 : ((122 : Int32) < (nI c)) = (122 < c) := pw_ltI (a := 122) (b := c) (by omega) (by omega)
  unfold f_X12_isLetter
  simp only [pw_lt, a1, a2]
  by_cases q : isL c = true
  · have := isL_iff.mp q
    rw [if_neg (by omega), if_neg (by omega), q]
    rfl
  · have q2 : ¬ (97 ≤ c ∧ c ≤ 122) := fun z => q (isL_iff.mpr z)
    have q3 : isL c = false := by simpa using q
    rw [q3]
    by_cases d : c < 97
    · rw [if_pos d]
      rfl
    · rw [if_neg d, if_pos (by omega)]
      rfl
set_option maxRecDepth 16384 in
theorem e_isDigit {c : Nat} {h : PH} (hc : c < 256) : f_X12_isDigit (nI c) h = some (bI (isD c), h) := by
  have a1 : ((nI c) < (48 : Int32)) = (c < 48) := pw_ltI (a := c) (b := 48) (by omega) (by omega)
  have a2 : ((57 : Int32) < (nI c)) = (57 < c) := pw_ltI (a := 57) (b := c) (by omega) (by omega)
  unfold f_X12_isDigit
  simp only [pw_lt, a1, a2]
  by_cases q : isD c = true
  · have := isD_iff.mp q
    rw [if_neg (by omega), if_neg (by omega), q]
    rfl
  · have q2 : ¬ (48 ≤ c ∧ c ≤ 57) := fun z => q (isD_iff.mpr z)
    have q3 : isD c = false := by simpa using q
    rw [q3]
    by_cases d : c < 48
    · rw [if_pos d]
      rfl
    · rw [if_neg d, if_pos (by omega)]
      rfl
set_option maxRecDepth 16384 in
theorem isG_iff {c : Nat} : isG c = true ↔ c = 59 ∨ c = 58 ∨ c = 43 ∨ c = 45 ∨ c = 42 ∨ c = 40 ∨ c = 41 ∨ c = 91 ∨ c = 93 ∨ c = 61 ∨ c = 60 ∨ c = 62 := by
  unfold isG sgL
  simp
set_option maxRecDepth 16384 in
theorem e_isSignByte {c : Nat} {h : PH} (hc : c < 256) : f_X12_isSignByte (nI c) h = some (bI (isG c), h) := by
  have e91 : ((nI c) = (91 : Int32)) = (c = 91) := pw_eqI (a := c) (b := 91) (by omega) (by omega)
  have e93 : ((nI c) = (93 : Int32)) = (c = 93) := pw_eqI (a := c) (b := 93) (by omega) (by omega)
  have e61 : ((nI c) = (61 : Int32)) = (c = 61) := pw_eqI (a := c) (b := 61) (by omega) (by omega)
  have e60 : ((nI c) = (60 : Int32)) = (c = 60) := pw_eqI (a := c) (b := 60) (by omega) (by omega)
  have e62 : ((nI c) = (62 : Int32)) = (c = 62) := pw_eqI (a := c) (b := 62) (by omega) (by omega)
  have e59 : ((nI c) = (59 : Int32)) = (c = 59) := pw_eqI (a := c) (b := 59) (by omega) (by omega)
  have e58 : ((nI c) = (58 : Int32)) = (c = 58) := pw_eqI (a := c) (b := 58) (by omega) (by omega)
  have e43 : ((nI c) = (43 : Int32)) = (c = 43) := pw_eqI (a := c) (b := 43) (by omega) (by omega)
  have e45 : ((nI c) = (45 : Int32)) = (c = 45) := pw_eqI (a := c) (b := 45) (by omega) (by omega)
  have e42 : ((nI c) = (42 : Int32)) = (c = 42) := pw_eqI (a := c) (b := 42) (by omega) (by omega)
  have e40 : ((nI c) = (40 : Int32)) = (c = 40) := pw_eqI (a := c) (b := 40) (by omega) (by omega)
  have e41 : ((nI c) = (41 : Int32)) = (c = 41) := pw_eqI (a := c) (b := 41) (by omega) (by omega)
  obtain ⟨r, x, hx, rfl, rfl⟩ : ok (f_X12_isSignByte (nI c) h) (fun r h' => r = bI (isG c) ∧ h' = h) := by
    unfold f_X12_isSignByte
    refine ok_joinT (fun t h2 => h2 = h ∧ t = bI (decide (c = 91 ∨ c = 93 ∨ c = 61 ∨ c = 60 ∨ c = 62))) ?_ (fun j35 hj35 => ?_)
    · rintro t h2 ⟨rfl, rfl⟩
      refine ok_lt ?_
      refine ok_joinT (fun t h5 => h5 = h2 ∧ t = bI (isG c)) (fun t h5 q => by
        obtain ⟨rfl, rfl⟩ := q
        rw [zr_b]
        exact ok_some ⟨rfl, rfl⟩) (fun j87 hj87 => ?_)
      refine ok_join (fun h6 => h6 = h2 ∧ isG c = true) (fun h6 q => hj87 _ _ ⟨q.1, by rw [q.2]; rfl⟩) (fun j82 hj82 => ?_)
      by_cases q : c = 91 ∨ c = 93 ∨ c = 61 ∨ c = 60 ∨ c = 62
      · rw [decide_eq_true q, if_neg (show ¬ bI true = (0 : Int32) by decide)]
        exact hj82 _ ⟨rfl, isG_iff.mpr (by omega)⟩
      · rw [decide_eq_false q, if_pos (show bI false = (0 : Int32) from rfl)]
        simp only [e59, e58, e43, e45, e42, e40, e41]
        by_cases d59 : c = 59
        · rw [if_pos d59]
          exact hj82 _ ⟨rfl, isG_iff.mpr (by omega)⟩
        rw [if_neg d59]
        by_cases d58 : c = 58
        · rw [if_pos d58]
          exact hj82 _ ⟨rfl, isG_iff.mpr (by omega)⟩
        rw [if_neg d58]
        by_cases d43 : c = 43
        · rw [if_pos d43]
          exact hj82 _ ⟨rfl, isG_iff.mpr (by omega)⟩
        rw [if_neg d43]
        by_cases d45 : c = 45
        · rw [if_pos d45]
          exact hj82 _ ⟨rfl, isG_iff.mpr (by omega)⟩
        rw [if_neg d45]
        by_cases d42 : c = 42
        · rw [if_pos d42]
          exact hj82 _ ⟨rfl, isG_iff.mpr (by omega)⟩
        rw [if_neg d42]
        by_cases d40 : c = 40
        · rw [if_pos d40]
          exact hj82 _ ⟨rfl, isG_iff.mpr (by omega)⟩
        rw [if_neg d40]
        by_cases d41 : c = 41
        · rw [if_pos d41]
          exact hj82 _ ⟨rfl, isG_iff.mpr (by omega)⟩
        rw [if_neg d41]
        refine hj87 _ _ ⟨rfl, ?_⟩
        have q3 : isG c = false := by
          cases hq : isG c
          · rfl
          · have := isG_iff.mp hq
            omega
        rw [q3]
        rfl
    · refine ok_join (fun h6 => h6 = h ∧ (c = 91 ∨ c = 93 ∨ c = 61 ∨ c = 60 ∨ c = 62)) (fun h6 q => hj35 _ _ ⟨q.1, by rw [decide_eq_true q.2]; rfl⟩) (fun j30 hj30 => ?_)
      simp only [e91, e93, e61, e60, e62]
      by_cases d91 : c = 91
      · rw [if_pos d91]
        exact hj30 _ ⟨rfl, by omega⟩
      rw [if_neg d91]
      by_cases d93 : c = 93
      · rw [if_pos d93]
        exact hj30 _ ⟨rfl, by omega⟩
      rw [if_neg d93]
      by_cases d61 : c = 61
      · rw [if_pos d61]
        exact hj30 _ ⟨rfl, by omega⟩
      rw [if_neg d61]
      by_cases d60 : c = 60
      · rw [if_pos d60]
        exact hj30 _ ⟨rfl, by omega⟩
      rw [if_neg d60]
      by_cases d62 : c = 62
      · rw [if_pos d62]
        exact hj30 _ ⟨rfl, by omega⟩
      rw [if_neg d62]
      exact hj35 _ _ ⟨rfl, by rw [decide_eq_false (by omega)]; rfl⟩
  exact hx
set_option maxRecDepth 16384 in
theorem e_see {n : Nat} {X : Nat → Nat} {p : Nat} {h : PH} (T : TX n X h) (v : h.1 152 8 = nI n) (hp : p ≤ n) : f_X12_see 152 (nI p) h = some (nI (if p < n then X p else 0), h) := by
  have hn := T.1
  unfold f_X12_see
  simp only [pw_lt, v]
  by_cases c : p < n
  · obtain ⟨t1, t2, t3⟩ := T.2 p c
    have hc : ¬ (nI n ≤ nI p) := fun z => by
      have := (nI_leI (by omega) (by omega)).mp z
      omega
    rw [if_neg hc, if_pos c]
    simp (disch := omega) only [r_152_6, pw_ldI, t2]
  · rw [if_pos ((nI_leI (by omega) (by omega)).mpr (by omega)), if_neg c]
    rfl
set_option maxRecDepth 16384 in
theorem see_lt {n : Nat} {X : Nat → Nat} {p : Nat} {h : PH} (T : TX n X h) : (if p < n then X p else 0) < 256 := by
  by_cases c : p < n
  · rw [if_pos c]
    exact (T.2 p c).1
  · rw [if_neg c]
    decide
set_option maxRecDepth 16384 in
theorem vlN_b {X : Nat → Nat} {b : Nat} : ∀ i, (∀ k, k < i → 48 ≤ X (b + k) ∧ X (b + k) ≤ 57) → vlN X b i < 10 ^ i
  | 0, _ => by simp [vlN]
  | i + 1, h => by
    have h1 := vlN_b i (fun k hk => h k (by omega))
    have h2 := h i (by omega)
    rw [vlN, Nat.pow_succ]
    omega
set_option maxRecDepth 16384 in
theorem e_readsOn {n : Nat} {X : Nat → Nat} {e : Nat} {h : PH} (T : TX n X h) (v8 : h.1 152 8 = nI n) (v9 : h.1 152 9 = nI e) (he : e ≤ n) : ok (f_X12_readsOn 152 h) (fun _ h' => fT h h' ∧ TR n X (sk n X e) h') := by
  have hn := T.1
  unfold f_X12_readsOn
  refine ok_join (fun h1 => fT h h1 ∧ h1.1 152 9 = nI (sk n X e)) ?_ (fun j hj => ?_)
  · rintro h1 ⟨f1, w9⟩
    have hb := (sk_b (X := X) he).2
    generalize sk n X e = b at *
    have heb := en_b (X := X) hb
    refine ok_lt ?_
    rw [w9]
    have f2 : fT h (pI h1 152 10 (nI b)) := fT_trans f1 (fT_pI (by omega))
    have z9 : (pI h1 152 10 (nI b)).1 152 9 = nI b := by rw [pw_pIo (by omega)]; exact w9
    have z10 : (pI h1 152 10 (nI b)).1 152 10 = nI b := pw_pIs
    generalize pI h1 152 10 (nI b) = h2 at *
    have z8 : h2.1 152 8 = nI n := by rw [f2.2 8 (by decide) (by decide) (by decide) (by decide)]; exact v8
    have T2 := TX_to f2.1 (by decide) (by decide) T
    rw [z9, z8]
    by_cases c : b < n
    · rw [if_pos ((nI_ltI (by omega) (by omega)).mpr c)]
      obtain ⟨t1, t2, t3⟩ := T2.2 b c
      simp (disch := omega) only [r_152_6, pw_ldI, t2]
      refine ok_lt ?_
      rw [e_isLetter t1]
      simp only [pw_cb]
      refine ok_join (fun h4 => fT h h4 ∧ TR n X b h4) (fun h4 q => ok_some q) (fun j263 hj263 => ?_)
      rcases tf (isL (X b)) with hL | hL
      · rw [hL, if_pos (show bI false = (0 : Int32) from rfl), e_isDigit t1]
        simp only [pw_cb]
        rcases tf (isD (X b)) with hD | hD
        · obtain ⟨en1, tk1⟩ := en_G c hL hD
          rw [hD, if_pos (show bI false = (0 : Int32) from rfl), e_isSignByte t1]
          simp only [pw_cb]
          refine ok_joinT (fun t h13 => h13 = h2 ∧ t = nI (krf n X b)) ?_ (fun j250 hj250 => ?_)
          · rintro t h13 ⟨rfl, rfl⟩
            refine ok_lt ?_
            have q9 : (pI h13 152 11 (nI (krf n X b))).1 152 9 = nI b := by rw [pw_pIo (by omega)]; exact z9
            rw [q9]
            refine ok_lt ?_
            refine hj263 _ ⟨fT_trans f2 (fT_trans (fT_pI (by omega)) (fT_pI (by omega))), by rw [pw_pIo (by omega), pw_pIo (by omega)]; exact z8, ?_, by rw [pw_pIo (by omega), pw_pIo (by omega)]; exact z10, by rw [pw_pIo (by omega), pw_pIs], fun q => ?_, hb⟩
            · rw [pw_pIs, en1]
              exact nI_add b 1
            · rw [tk1] at q
              split at q <;> omega
          · rcases tf (isG (X b)) with hG | hG
            · have hk : krf n X b = 3 := by
                unfold krf
                rw [tk1, hG]
                rfl
              rw [hG, if_pos (show bI false = (0 : Int32) from rfl)]
              exact hj250 _ _ ⟨rfl, by rw [hk]; rfl⟩
            · have hk : krf n X b = X b := by
                unfold krf
                rw [tk1, hG]
                rfl
              rw [hG, if_neg (show ¬ bI true = (0 : Int32) by decide)]
              exact hj250 _ _ ⟨rfl, by rw [hk]⟩
        · obtain ⟨en1, tk1⟩ := en_D c hL hD
          rw [hD, if_neg (show ¬ bI true = (0 : Int32) by decide)]
          refine ok_lt ?_
          have hrun : ∀ i, b ≤ i → i < enT n X b → 48 ≤ X i ∧ X i ≤ 57 := fun i q1 q2 => by
            have := (runF_b (f := fun i => decide (48 ≤ X i) && decide (X i ≤ 57)) (n := n) hb).2.2.1 i q1 (by rw [← en1]; exact q2)
            simpa using this
          refine ok_join (fun h17 => fT h h17 ∧ h17.1 152 8 = nI n ∧ h17.1 152 9 = nI (enT n X b) ∧ h17.1 152 10 = nI b ∧ (enT n X b - b ≤ 3 → h17.1 152 12 = nI (vl n X b))) ?_ (fun j212 hj212 => ?_)
          · rintro h17 ⟨f17, y8, y9, y10, y12⟩
            refine ok_joinT (fun t h19 => h19 = h17 ∧ t = nI (krf n X b)) ?_ (fun j231 hj231 => ?_)
            · rintro t h19 ⟨rfl, rfl⟩
              refine ok_lt ?_
              refine hj263 _ ⟨fT_trans f17 (fT_pI (by omega)), by rw [pw_pIo (by omega)]; exact y8, by rw [pw_pIo (by omega)]; exact y9, by rw [pw_pIo (by omega)]; exact y10, pw_pIs, fun q => ?_, hb⟩
              rw [pw_pIo (by omega)]
              refine y12 ?_
              rw [tk1] at q
              by_cases cl : enT n X b - b ≤ 3
              · exact cl
              · rw [if_neg cl] at q
                omega
            · rw [y9, y10, pw_sub heb.1]
              by_cases cl : enT n X b - b ≤ 3
              · have hc : nI (enT n X b - b) ≤ (3 : Int32) := by
                  rw [pw_lit, pw_leI (by omega) (by omega)]
                  exact cl
                have hk : krf n X b = 2 := by
                  unfold krf
                  rw [tk1, if_pos cl]
                  rfl
                rw [if_pos hc]
                exact hj231 _ _ ⟨rfl, by rw [hk]; rfl⟩
              · have hc : ¬ (nI (enT n X b - b) ≤ (3 : Int32)) := by
                  rw [pw_lit, pw_leI (by omega) (by omega)]
                  exact cl
                have hk : krf n X b = 3 := by
                  unfold krf
                  rw [tk1, if_neg cl]
                  rfl
                rw [if_neg hc]
                exact hj231 _ _ ⟨rfl, by rw [hk]; rfl⟩
          · refine lp_ok (fun k s h1 => ∃ i, b + i + k = n ∧ fT h h1 ∧ h1.1 152 9 = nI (b + i) ∧ h1.1 152 10 = nI b ∧ h1.1 152 12 = nI (vlN X b (min i 3)) ∧ runF (fun i => decide (48 ≤ X i) && decide (X i ≤ 57)) n (b + i) = enT n X b) ?_ FU (n - b) _ _ ⟨0, by omega, fT_trans f2 (fT_pI (by omega)), by rw [pw_pIo (by omega)]; exact z9, by rw [pw_pIo (by omega)]; exact z10, by rw [pw_pIs]; rfl, en1.symm⟩ (fu_lt (by omega))
            rintro k rec s h1 ⟨i, hi, f1', y9, y10, y12, hr⟩ hrec
            have y8 : h1.1 152 8 = nI n := by rw [f1'.2 8 (by decide) (by decide) (by decide) (by decide)]; exact v8
            have T1 := TX_to f1'.1 (by decide) (by decide) T
            have hsl := see_lt (p := b + i) T1
            unfold b_X12_readsOn_141
            rw [y9, e_see T1 y8 (by omega)]
            simp only [pw_cb]
            rw [e_isDigit hsl]
            simp only [pw_cb]
            by_cases cd : b + i < n ∧ isD (X (b + i)) = true
            · have hd : isD (if b + i < n then X (b + i) else 0) = true := by rw [if_pos cd.1]; exact cd.2
              have hdd := isD_iff.mp cd.2
              have hr2 : runF (fun i => decide (48 ≤ X i) && decide (X i ≤ 57)) n (b + i) = runF (fun i => decide (48 ≤ X i) && decide (X i ≤ 57)) n (b + i + 1) := runF_s cd.1 (by
                show (decide (48 ≤ X (b + i)) && decide (X (b + i) ≤ 57)) = true
                rw [decide_eq_true hdd.1, decide_eq_true hdd.2]
                rfl)
              have hrb := (runF_b (f := fun i => decide (48 ≤ X i) && decide (X i ≤ 57)) (n := n) (p := b + i + 1) (by omega)).1
              rw [hd, if_neg (show ¬ bI true = (0 : Int32) by decide)]
              refine ok_joinT (fun t h26 => h26 = h1 ∧ t = nI (vlN X b (min (i + 1) 3))) ?_ (fun j196 hj196 => ?_)
              · rintro t h26 ⟨rfl, rfl⟩
                refine ok_lt ?_
                have q9 : (pI h26 152 12 (nI (vlN X b (min (i + 1) 3)))).1 152 9 = nI (b + i) := by rw [pw_pIo (by omega)]; exact y9
                rw [q9]
                refine ok_lt ?_
                refine hrec (k - 1) _ _ (by omega) ⟨i + 1, by omega, fT_trans f1' (fT_trans (fT_pI (by omega)) (fT_pI (by omega))), ?_, by rw [pw_pIo (by omega), pw_pIo (by omega)]; exact y10, by rw [pw_pIo (by omega), pw_pIs], by rw [show b + (i + 1) = b + i + 1 by omega, ← hr2]; exact hr⟩
                rw [pw_pIs, show b + (i + 1) = b + i + 1 by omega]
                exact nI_add (b + i) 1
              · rw [y9, y10, pw_sub (by omega), show b + i - b = i by omega]
                by_cases c3 : i < 3
                · have hc : ¬ ((3 : Int32) ≤ nI i) := by
                    rw [pw_lit, pw_leI (by omega) (by omega)]
                    omega
                  obtain ⟨t1', t2', t3'⟩ := T1.2 (b + i) cd.1
                  have e1 : min i 3 = i := Nat.min_eq_left (by omega)
                  have e2 : min (i + 1) 3 = i + 1 := Nat.min_eq_left (by omega)
                  have hvb := vlN_b (X := X) (b := b) i (fun k hk => hrun (b + k) (by omega) (by omega))
                  have h10 : 10 ^ i ≤ 10 ^ 3 := Nat.pow_le_pow_right (by decide) (by omega)
                  have h10' : 10 ^ 3 = 1000 := rfl
                  rw [if_neg hc, y12, e1]
                  simp (disch := omega) only [r_152_6, pw_ldI, t2']
                  refine hj196 _ _ ⟨rfl, ?_⟩
                  rw [e2, vlN, pw_lit, pw_lit, pw_mul, nI_add, pw_sub (by omega), show 10 * vlN X b i + X (b + i) - 48 = 10 * vlN X b i + (X (b + i) - 48) by omega]
                · have hc : (3 : Int32) ≤ nI i := by
                    rw [pw_lit, pw_leI (by omega) (by omega)]
                    omega
                  rw [if_pos hc, y12]
                  refine hj196 _ _ ⟨rfl, ?_⟩
                  rw [Nat.min_eq_right (by omega), Nat.min_eq_right (by omega)]
            · have hd : isD (if b + i < n then X (b + i) else 0) = false := by
                by_cases c1 : b + i < n
                · rw [if_pos c1]
                  cases hq : isD (X (b + i))
                  · rfl
                  · exact absurd ⟨c1, hq⟩ cd
                · rw [if_neg c1]
                  rfl
              have hr2 : runF (fun i => decide (48 ≤ X i) && decide (X i ≤ 57)) n (b + i) = b + i := by
                by_cases c1 : b + i < n
                · rw [if_pos c1] at hd
                  refine runF_e ?_
                  show (decide (48 ≤ X (b + i)) && decide (X (b + i) ≤ 57)) = false
                  exact hd
                · exact runF_n (by omega)
              rw [hd, if_pos (show bI false = (0 : Int32) from rfl)]
              have hen : enT n X b = b + i := by rw [← hr, hr2]
              refine hj212 h1 ⟨f1', y8, by rw [hen]; exact y9, y10, fun cl => ?_⟩
              unfold vl
              rw [y12, hen, show b + i - b = i by omega, Nat.min_eq_left (by omega)]
      · obtain ⟨en1, tk1⟩ := en_L c hL
        rw [hL, if_neg (show ¬ bI true = (0 : Int32) by decide)]
        refine ok_join (fun h30 => fT h h30 ∧ h30.1 152 9 = nI (enT n X b) ∧ h30.1 152 10 = nI b) ?_ (fun j121 hj121 => ?_)
        · rintro h30 ⟨f30, y9, y10⟩
          refine ok_lt ?_
          have hk : krf n X b = 1 := by
            unfold krf
            rw [tk1]
            rfl
          refine hj263 _ ⟨fT_trans f30 (fT_pI (by omega)), by rw [pw_pIo (by omega), f30.2 8 (by decide) (by decide) (by decide) (by decide)]; exact v8, by rw [pw_pIo (by omega)]; exact y9, by rw [pw_pIo (by omega)]; exact y10, by rw [pw_pIs, hk]; rfl, fun q => by rw [tk1] at q; omega, hb⟩
        · refine lp_ok (fun k s h1 => ∃ p, p + k = n ∧ b ≤ p ∧ fT h h1 ∧ h1.1 152 9 = nI p ∧ h1.1 152 10 = nI b ∧ runF (fun i => decide (97 ≤ X i) && decide (X i ≤ 122)) n p = enT n X b) ?_ FU (n - b) _ _ ⟨b, by omega, Nat.le_refl _, f2, z9, z10, en1.symm⟩ (fu_lt (by omega))
          rintro k rec s h1 ⟨p, hp, hbp, f1', y9, y10, hr⟩ hrec
          have y8 : h1.1 152 8 = nI n := by rw [f1'.2 8 (by decide) (by decide) (by decide) (by decide)]; exact v8
          have T1 := TX_to f1'.1 (by decide) (by decide) T
          have hsl := see_lt (p := p) T1
          unfold b_X12_readsOn_94
          rw [y9, e_see T1 y8 (by omega)]
          simp only [pw_cb]
          rw [e_isLetter hsl]
          simp only [pw_cb]
          by_cases cd : p < n ∧ isL (X p) = true
          · have hd : isL (if p < n then X p else 0) = true := by rw [if_pos cd.1]; exact cd.2
            have hr2 : runF (fun i => decide (97 ≤ X i) && decide (X i ≤ 122)) n p = runF (fun i => decide (97 ≤ X i) && decide (X i ≤ 122)) n (p + 1) := runF_s cd.1 cd.2
            rw [hd, if_neg (show ¬ bI true = (0 : Int32) by decide)]
            refine ok_lt ?_
            refine hrec (k - 1) _ _ (by omega) ⟨p + 1, by omega, by omega, fT_trans f1' (fT_pI (by omega)), by rw [pw_pIs, y9]; exact nI_add p 1, by rw [pw_pIo (by omega)]; exact y10, by rw [← hr2]; exact hr⟩
          · have hd : isL (if p < n then X p else 0) = false := by
              by_cases c1 : p < n
              · rw [if_pos c1]
                cases hq : isL (X p)
                · rfl
                · exact absurd ⟨c1, hq⟩ cd
              · rw [if_neg c1]
                rfl
            have hr2 : runF (fun i => decide (97 ≤ X i) && decide (X i ≤ 122)) n p = p := by
              by_cases c1 : p < n
              · rw [if_pos c1] at hd
                refine runF_e ?_
                exact hd
              · exact runF_n (by omega)
            rw [hd, if_pos (show bI false = (0 : Int32) from rfl)]
            have hen : enT n X b = p := by rw [← hr, hr2]
            exact hj121 h1 ⟨f1', by rw [hen]; exact y9, y10⟩
    · have hc : ¬ (nI b < nI n) := fun z => c ((nI_ltI (by omega) (by omega)).mp z)
      rw [if_neg hc]
      obtain ⟨en1, tk1⟩ := en_N (X := X) (show n ≤ b by omega)
      have hk : krf n X b = 0 := by
        unfold krf
        rw [tk1]
        rfl
      refine ok_lt ?_
      exact ok_some ⟨fT_trans f2 (fT_pI (by omega)), by rw [pw_pIo (by omega)]; exact z8, by rw [pw_pIo (by omega), en1]; exact z9, by rw [pw_pIo (by omega)]; exact z10, by rw [pw_pIs, hk]; rfl, fun q => by rw [tk1] at q; omega, hb⟩
  · refine lp_ok (fun k s h1 => ∃ p, p + k = n ∧ fT h h1 ∧ h1.1 152 9 = nI p ∧ sk n X p = sk n X e) ?_ FU (n - e) _ _ ⟨e, by omega, fT_rfl h, v9, rfl⟩ (fu_lt (by omega))
    rintro k rec s h1 ⟨p, hp, f1, w9, hs⟩ hrec
    have w8 : h1.1 152 8 = nI n := by rw [f1.2 8 (by decide) (by decide) (by decide) (by decide)]; exact v8
    unfold b_X12_readsOn_0
    rw [w8, w9]
    by_cases h0 : k = 0
    · have hsk : sk n X p = p := runF_n (by omega)
      rw [if_pos ((nI_leI (by omega) (by omega)).mpr (by omega))]
      exact hj h1 ⟨f1, by rw [w9, ← hs, hsk]⟩
    · have hc : ¬ (nI n ≤ nI p) := fun z => by
        have := (nI_leI (by omega) (by omega)).mp z
        omega
      rw [if_neg hc]
      have T1 := TX_to f1.1 (by decide) (by decide) T
      obtain ⟨t1, t2, t3⟩ := T1.2 p (by omega)
      simp (disch := omega) only [r_152_6, pw_ldI, t2]
      have s10 : ((nI (X p)) = (10 : Int32)) = (X p = 10) := pw_eqI (a := X p) (b := 10) (by omega) (by omega)
      have s32 : ((nI (X p)) = (32 : Int32)) = (X p = 32) := pw_eqI (a := X p) (b := 32) (by omega) (by omega)
      simp only [s10, s32]
      refine ok_join (fun h4 => h4 = h1 ∧ isB (X p) = true) ?_ (fun j39 hj39 => ?_)
      · rintro h4 ⟨rfl, hB⟩
        rw [w9]
        refine ok_lt ?_
        have hsk : sk n X p = sk n X (p + 1) := runF_s (f := fun i => isB (X i)) (by omega) hB
        exact hrec (k - 1) _ _ (by omega) ⟨p + 1, by omega, fT_trans f1 (fT_pI (by omega)), by rw [pw_pIs]; exact nI_add p 1, by rw [← hsk]; exact hs⟩
      · by_cases q : isB (X p) = true
        · rcases isB_iff.mp q with q2 | q2
          · rw [if_neg (by omega), if_pos q2]
            exact hj39 _ ⟨rfl, q⟩
          · rw [if_pos q2]
            exact hj39 _ ⟨rfl, q⟩
        · have q2 : ¬ (X p = 10 ∨ X p = 32) := fun z => q (isB_iff.mpr z)
          have hsk : sk n X p = p := runF_e (f := fun i => isB (X i)) (by simpa using q)
          rw [if_neg (by omega), if_neg (by omega)]
          exact hj h1 ⟨f1, by rw [w9, ← hs, hsk]⟩
set_option maxRecDepth 16384 in
theorem e_on {n : Nat} {X : Nat → Nat} {b : Nat} {h : PH} (T : TX n X h) (R : TR n X b h) : ok (f_X12_readsOn 152 h) (fun _ h' => fT h h' ∧ TR n X (nx n X b) h') := e_readsOn T R.1 R.2.1 (en_b (X := X) R.2.2.2.2.2).2.1

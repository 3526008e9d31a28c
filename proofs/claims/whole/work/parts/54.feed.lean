/-! ===== feed ===== -/
set_option maxRecDepth 16384 in
theorem b_i8 (x : Int32) {i : Nat} (hi : i < 32) : bt x.toInt8.toInt32 i = bt x (if i < 8 then i else 7) := by
  unfold bt
  rw [Int8.toBitVec_toInt32, Int32.toBitVec_toInt8]
  by_cases h : i < 8
  · simp (disch := omega) only [BitVec.getLsbD_signExtend, BitVec.msb_eq_getLsbD_last, if_pos, if_neg, decide_eq_true, Bool.true_and, Nat.reduceSub]
  · simp (disch := omega) only [BitVec.getLsbD_signExtend, BitVec.msb_eq_getLsbD_last, if_pos, if_neg, decide_eq_true, Bool.true_and, Nat.reduceSub]
def uB (a : Int32) (s : Nat) : Int32 := ((a.toUInt32 >>> ((nI s).toUInt32 &&& Int32.toUInt32 31)).toInt32) &&& nI 255
def bN (a : Int32) (s : Nat) : Nat := (uB a s).toBitVec.toNat
set_option maxRecDepth 16384 in
theorem bt_uB {a : Int32} {s i : Nat} (hs : s < 32) : bt (uB a s) i = (decide (i < 8) && bt a (s + i)) := by
  unfold uB
  have h255 : bt (nI 255) i = decide (i < 8) := b_255 i
  rw [b_and, b_ushr s hs, h255, Bool.and_comm]
set_option maxRecDepth 16384 in
theorem uB_nI (a : Int32) (s : Nat) : uB a s = nI (bN a s) := Int32.toBitVec_inj.mp (by
  show (uB a s).toBitVec = BitVec.ofNat 32 (bN a s)
  unfold bN
  simp)
set_option maxRecDepth 16384 in
theorem bN_lt {a : Int32} {s : Nat} (hs : s < 32) : bN a s < 256 := by
  refine Nat.lt_pow_two_of_testBit (n := 8) _ (fun i hi => ?_)
  have h1 : (bN a s).testBit i = bt (uB a s) i := rfl
  rw [h1, bt_uB hs, decide_eq_false (by omega), Bool.false_and]
def bB (a : Int32) (s : Nat) : Int32 := (a >>> nI (s &&& 31)).toInt8.toInt32
set_option maxRecDepth 16384 in
theorem bB_uB {a : Int32} {s : Nat} (hs : s ≤ 24) : bB a s = (nI (bN a s)).toInt8.toInt32 := b_ext (fun i hi => by
  have h7 : (if i < 8 then i else 7) < 8 := by split <;> omega
  unfold bB
  rw [← uB_nI, b_i8 _ hi, b_i8 _ hi, bt_uB (by omega), decide_eq_true h7, Bool.true_and, ← pw_and]
  show bt (a >>> (nI s &&& 31)) _ = _
  rw [b_sshr s (by omega) a (by omega), if_pos (by omega)])
set_option maxRecDepth 16384 in
theorem bB_2 (a : Int32) (s : Nat) : (bB a s).toInt8.toInt32 = bB a s := b_ext (fun i hi => by
  unfold bB
  have h7 : (if i < 8 then i else 7) < 8 := by split <;> omega
  rw [b_i8 _ hi, b_i8 _ (by omega), b_i8 _ hi, if_pos h7])
def lS (i : Nat) : Int32 := if i < 4 then nI (24 - 8 * i) else -8
set_option maxRecDepth 16384 in
theorem lS_s : ∀ i, i < 4 → lS i + Int32.ofInt (-8) = lS (i + 1) := by decide +kernel
set_option maxRecDepth 16384 in
theorem lS_0 : ∀ i, i < 4 → ¬ lS i < 0 := by decide +kernel
set_option maxRecDepth 16384 in
theorem lS_4 : lS 4 < 0 := by decide +kernel
set_option maxRecDepth 16384 in
theorem c_lay {h : PH} {a : Int32} {n : Nat} (hn : n + 4 ≤ 900) (v : h.1 0 1 = nI n) : ok (f_X11_lay 0 a h) (fun _ h' => eqx [0, 1] h h' ∧ h'.1 0 1 = nI (n + 4) ∧ ∀ x, h'.1 1 x = if n ≤ x ∧ x < n + 4 then bB a (24 - 8 * (x - n)) else h.1 1 x) := by
  unfold f_X11_lay
  refine ok_lt (ok_lt ?_)
  refine lp_ok (fun k s h1 => k ≤ 4 ∧ s = lS (4 - k) ∧ eqx [0, 1] h h1 ∧ h1.1 0 1 = nI (n + (4 - k)) ∧ ∀ x, h1.1 1 x = if n ≤ x ∧ x < n + (4 - k) then bB a (24 - 8 * (x - n)) else h.1 1 x) ?_ FU 4 _ h ⟨Nat.le_refl _, rfl, eqx_rfl _ _, v, fun x => by rw [if_neg (by omega)]⟩ (fu_lt (by omega))
  rintro k rec s h1 ⟨hk, rfl, e1, y1, y2⟩ hrec
  unfold b_X11_lay_3
  by_cases h0 : k = 0
  · subst h0
    rw [if_pos lS_4]
    exact ok_some ⟨e1, y1, y2⟩
  · generalize hi : 4 - k = i at *
    have e9 : 4 - (k - 1) = i + 1 := by omega
    have hs : lS i = nI (24 - 8 * i) := by unfold lS; rw [if_pos (by omega)]
    rw [if_neg (lS_0 i (by omega)), y1]
    have hc : ¬ ((900 : Int32) ≤ nI (n + i)) := by
      rw [pw_lit, pw_leI (by omega) (by omega)]
      omega
    rw [if_neg hc]
    have hb : vp_nar .byte ((a >>> (lS i &&& 31)).toInt8.toInt32) = bB a (24 - 8 * i) := by
      rw [vp_nar_byte, hs, pw_lit, pw_and]
      exact bB_2 a (24 - 8 * i)
    simp (disch := omega) only [hb, r_0_0, pw_stI]
    refine ok_lt ?_
    rw [pw_pIo (by omega), y1]
    refine ok_lt ?_
    rw [lS_s i (by omega)]
    refine hrec (k - 1) _ _ (by omega) ⟨by omega, by rw [e9], eqx_trans e1 (eqx_trans (eqx_pI (by simp)) (eqx_pI (by simp))), ?_, fun x => ?_⟩
    · rw [e9, pw_pIs, pw_lit, nI_add, show n + i + 1 = n + (i + 1) by omega]
    · rw [e9, pw_pIo (by omega)]
      by_cases ex : x = n + i
      · subst ex
        rw [pw_pIs, if_pos (by omega), show n + i - n = i by omega]
      · rw [pw_pIo (by omega), y2 x]
        by_cases cx : n ≤ x ∧ x < n + i
        · rw [if_pos cx, if_pos (by omega)]
        · rw [if_neg cx, if_neg (by omega)]
def arg5 (a b c d e : Int32) (k : Nat) : Int32 := if k < 4 then a else if k < 8 then b else if k < 12 then c else if k < 16 then d else e
set_option maxRecDepth 16384 in
theorem c_feed {h : PH} {a b c d e : Int32} {n : Nat} (hn : n + 20 ≤ 900) (v : h.1 0 1 = nI n) : ok (f_X11_feed 0 a b c d e h) (fun r h' => r = nI (n + 20) ∧ eqx [0, 1] h h' ∧ h'.1 0 1 = nI (n + 20) ∧ ∀ x, h'.1 1 x = if n ≤ x ∧ x < n + 20 then bB (arg5 a b c d e (x - n)) (24 - 8 * ((x - n) % 4)) else h.1 1 x) := by
  unfold f_X11_feed
  have hc : h.1 0 1 + (20 : Int32) ≤ (900 : Int32) := by
    rw [v, pw_lit, nI_add, pw_lit, pw_leI (by omega) (by omega)]
    omega
  rw [if_pos hc]
  refine ok_cb (c_lay (n := n) (by omega) v) ?_
  rintro r1 h1 ⟨e1, v1, y1⟩
  refine ok_cb (c_lay (n := n + 4) (by omega) v1) ?_
  rintro r2 h2 ⟨e2, v2, y2⟩
  refine ok_cb (c_lay (n := n + 4 + 4) (by omega) v2) ?_
  rintro r3 h3 ⟨e3, v3, y3⟩
  refine ok_cb (c_lay (n := n + 4 + 4 + 4) (by omega) v3) ?_
  rintro r4 h4 ⟨e4, v4, y4⟩
  refine ok_cb (c_lay (n := n + 4 + 4 + 4 + 4) (by omega) v4) ?_
  rintro r5 h5 ⟨e5, v5, y5⟩
  have v5' : h5.1 0 1 = nI (n + 20) := v5
  rw [v5']
  refine ok_some ⟨rfl, eqx_trans e1 (eqx_trans e2 (eqx_trans e3 (eqx_trans e4 e5))), v5', fun x => ?_⟩
  rw [y5, y4, y3, y2, y1]
  unfold arg5
  by_cases c0 : n ≤ x ∧ x < n + 20
  · rw [if_pos c0]
    obtain ⟨i, hi, rfl⟩ : ∃ i, i < 20 ∧ x = n + i := ⟨x - n, by omega, by omega⟩
    rw [show n + i - n = i by omega]
    by_cases q1 : i < 4
    · rw [if_neg (by omega), if_neg (by omega), if_neg (by omega), if_neg (by omega), if_pos (by omega), if_pos q1, show i % 4 = i by omega]
    · by_cases q2 : i < 8
      · rw [if_neg (by omega), if_neg (by omega), if_neg (by omega), if_pos (by omega), if_neg q1, if_pos q2, show n + i - (n + 4) = i % 4 by omega]
      · by_cases q3 : i < 12
        · rw [if_neg (by omega), if_neg (by omega), if_pos (by omega), if_neg q1, if_neg q2, if_pos q3, show n + i - (n + 4 + 4) = i % 4 by omega]
        · by_cases q4 : i < 16
          · rw [if_neg (by omega), if_pos (by omega), if_neg q1, if_neg q2, if_neg q3, if_pos q4, show n + i - (n + 4 + 4 + 4) = i % 4 by omega]
          · rw [if_pos (by omega), if_neg q1, if_neg q2, if_neg q3, if_neg q4, show n + i - (n + 4 + 4 + 4 + 4) = i % 4 by omega]
  · rw [if_neg c0, if_neg (by omega), if_neg (by omega), if_neg (by omega), if_neg (by omega), if_neg (by omega)]
set_option maxRecDepth 16384 in
theorem an_3 (k : Nat) : k &&& 3 = k % 4 := Nat.and_two_pow_sub_one_eq_mod k 2
set_option maxRecDepth 16384 in
theorem e_feedLp {h : PH} {a b c d e : Int32} {n : Nat} (hn : n + 20 ≤ 900) (v : h.1 152 7 = nI n) : ok (lp (b_X12_feed_23 152 a b c d e) FU (nI 0) h) (fun r h' => r = nI (n + 20) ∧ eqx [152, 158] h h' ∧ h'.1 152 7 = nI (n + 20) ∧ (∀ j, j ≠ 7 → h'.1 152 j = h.1 152 j) ∧ ∀ x, h'.1 158 x = if n ≤ x ∧ x < n + 20 then nI (bN (arg5 a b c d e (x - n)) (24 - 8 * ((x - n) % 4))) else h.1 158 x) := by
  refine lp_ok (fun k s h1 => k ≤ 20 ∧ s = nI (20 - k) ∧ eqx [152, 158] h h1 ∧ h1.1 152 7 = nI (n + (20 - k)) ∧ (∀ j, j ≠ 7 → h1.1 152 j = h.1 152 j) ∧ ∀ x, h1.1 158 x = if n ≤ x ∧ x < n + (20 - k) then nI (bN (arg5 a b c d e (x - n)) (24 - 8 * ((x - n) % 4))) else h.1 158 x) ?_ FU 20 _ h ⟨Nat.le_refl _, rfl, eqx_rfl _ _, v, fun _ _ => rfl, fun x => by rw [if_neg (by omega)]⟩ (fu_lt (by omega))
  rintro k rec s h1 ⟨hk, rfl, e1, y1, o1, y2⟩ hrec
  unfold b_X12_feed_23
  by_cases h0 : k = 0
  · subst h0
    rw [if_pos (by decide)]
    exact ok_some ⟨y1, e1, y1, o1, y2⟩
  · generalize hi : 20 - k = i at *
    have e9 : 20 - (k - 1) = i + 1 := by omega
    have hc : ¬ ((20 : Int32) ≤ nI i) := by
      rw [pw_lit, pw_leI (by omega) (by omega)]
      omega
    rw [if_neg hc]
    have hsh : (24 : Int32) - (8 : Int32) * (nI i &&& (3 : Int32)) = nI (24 - 8 * (i % 4)) := by
      rw [pw_lit, pw_lit, pw_lit, pw_and, an_3, pw_mul, pw_sub (by omega)]
    refine ok_joinT (fun w h4 => w = arg5 a b c d e i ∧ h4 = h1) ?_ (fun j hj => ?_)
    · rintro w h4 ⟨rfl, rfl⟩
      refine ok_lt ?_
      rw [hsh]
      have hu : (((arg5 a b c d e i).toUInt32 >>> ((nI (24 - 8 * (i % 4))).toUInt32 &&& Int32.toUInt32 31)).toInt32) &&& (255 : Int32) = nI (bN (arg5 a b c d e i) (24 - 8 * (i % 4))) := uB_nI _ _
      rw [hu, y1]
      simp (disch := omega) only [r_152_6, pw_stI]
      refine ok_lt ?_
      rw [pw_pIo (by omega), y1]
      refine ok_lt ?_
      rw [pw_lit, nI_add, pw_oi, nI_add]
      refine hrec (k - 1) _ _ (by omega) ⟨by omega, by rw [e9], eqx_trans e1 (eqx_trans (eqx_pI (by simp)) (eqx_pI (by simp))), ?_, fun j hj2 => ?_, fun x => ?_⟩
      · rw [e9, pw_pIs, show n + i + 1 = n + (i + 1) by omega]
      · rw [pw_pIo (by omega), pw_pIo (by omega)]
        exact o1 j hj2
      · rw [e9, pw_pIo (by omega)]
        by_cases ex : x = n + i
        · subst ex
          rw [pw_pIs, if_pos (by omega), show n + i - n = i by omega]
        · rw [pw_pIo (by omega), y2 x]
          by_cases cx : n ≤ x ∧ x < n + i
          · rw [if_pos cx, if_pos (by omega)]
          · rw [if_neg cx, if_neg (by omega)]
    · have l4 : ((4 : Int32) ≤ nI i) = (4 ≤ i) := pw_leI (a := 4) (by omega) (by omega)
      have l8 : ((8 : Int32) ≤ nI i) = (8 ≤ i) := pw_leI (a := 8) (by omega) (by omega)
      have l12 : ((12 : Int32) ≤ nI i) = (12 ≤ i) := pw_leI (a := 12) (by omega) (by omega)
      have l16 : ((16 : Int32) ≤ nI i) = (16 ≤ i) := pw_leI (a := 16) (by omega) (by omega)
      simp only [l4, l8, l12, l16]
      unfold arg5 at hj
      by_cases q1 : i < 4
      · rw [if_neg (by omega)]
        exact hj _ _ ⟨by rw [if_pos q1], rfl⟩
      · rw [if_pos (by omega)]
        by_cases q2 : i < 8
        · rw [if_neg (by omega)]
          exact hj _ _ ⟨by rw [if_neg q1, if_pos q2], rfl⟩
        · rw [if_pos (by omega)]
          by_cases q3 : i < 12
          · rw [if_neg (by omega)]
            exact hj _ _ ⟨by rw [if_neg q1, if_neg q2, if_pos q3], rfl⟩
          · rw [if_pos (by omega)]
            by_cases q4 : i < 16
            · rw [if_neg (by omega)]
              exact hj _ _ ⟨by rw [if_neg q1, if_neg q2, if_neg q3, if_pos q4], rfl⟩
            · rw [if_pos (by omega)]
              exact hj _ _ ⟨by rw [if_neg q1, if_neg q2, if_neg q3, if_neg q4], rfl⟩
set_option maxRecDepth 16384 in
theorem INV.tp {h h' : PH} (I : INV h) (e : eqx (0 :: 1 :: 158 :: scL) h h') (f : h'.1 152 15 = h.1 152 15 ∧ h'.1 152 16 = h.1 152 16) (hd : HD (h.1 153) (h.1 159) (h'.1 31)) (cc : CHc (h.1 153) (h.1 159) h') (tp : TP h') : INV h' := by
  obtain ⟨i1, i2, i3, i4, i5, i6, i7, i8, i9, i10, i11, i12⟩ := I
  have e153 := (e 153 (by decide)).1
  have e159 := (e 159 (by decide)).1
  have e160 := (e 160 (by decide)).1
  unfold INV
  rw [e153, e159, e160]
  refine ⟨i1, i2, i3, SKY_to e (by decide) (by decide) (by decide) (by decide) (by decide) i4, BK_to e (by decide) (by decide) (by decide) (by decide) i5, hd, cc, tp, ?_, fun t ht => TR1_to e ((by decide : ∀ t, t < 4 → 85 + 2 * t ∉ (0 :: 1 :: 158 :: scL)) t ht) ((by decide : ∀ t, t < 4 → 86 + 2 * t ∉ (0 :: 1 :: 158 :: scL)) t ht) (by decide) (by decide) (by decide) (i10 t ht), fun i hi => IM1_to e (fun c h1 h2 => (by decide : ∀ c, c < 152 → 95 ≤ c → c ∉ (0 :: 1 :: 158 :: scL)) c (by omega) (by omega)) (by decide) (by decide) (by decide) (i11 i hi), WO_to e (by decide) i12⟩
  rw [(e 13 (by decide)).1, f.1, f.2]
  exact i9
set_option maxRecDepth 16384 in
theorem call_feed {h : PH} {a b c d e : Int32} (I : INV h) : PN (f_X11_feed 0 a b c d e) (f_X12_feed 152 a b c d e) h := by
  obtain ⟨n, hn, t1, t2, t3⟩ := I.2.2.2.2.2.2.2.1
  by_cases q : n + 20 ≤ 900
  · refine ok_mono (c_feed q t1) ?_
    rintro x h1 ⟨rfl, e1, v1, y1⟩
    have w7 : h1.1 152 7 = nI n := by rw [(e1 152 (by decide)).1]; exact t2
    unfold f_X12_feed
    refine ok_lt ?_
    have hc : (pI h1 152 5 (0 : Int32)).1 152 7 + (20 : Int32) ≤ (900 : Int32) := by
      rw [pw_pIo (by omega), w7, pw_lit, nI_add, pw_lit, pw_leI (by omega) (by omega)]
      omega
    rw [if_pos hc]
    refine ok_lt ?_
    refine ok_mono (e_feedLp (n := n) q (by rw [pw_pIo (by omega)]; exact w7)) ?_
    rintro r h2 ⟨rfl, e2, v2, o2, y2⟩
    have e12 : eqx [152, 158] h1 h2 := eqx_trans (eqx_pI (by simp)) e2
    have e02 : eqx [0, 1, 152, 158] h h2 := eqx_trans (eqx_mono e1 (by decide)) (eqx_mono e12 (by decide))
    refine ⟨rfl, I.tp (eqx_mono e02 (by decide)) ⟨?_, ?_⟩ (by rw [(e02 31 (by decide)).1]; exact I.2.2.2.2.2.1) (CHc_to e02 (by decide) (by decide) (by decide) I.2.2.2.2.2.2.1) ⟨n + 20, q, ?_, v2, fun k hk => ?_⟩⟩
    · rw [o2 15 (by decide), pw_pIo (by omega), (e1 152 (by decide)).1]
    · rw [o2 16 (by decide), pw_pIo (by omega), (e1 152 (by decide)).1]
    · rw [(e12 0 (by decide)).1]; exact v1
    · rw [y2, (e12 1 (by decide)).1, y1]
      by_cases ck : n ≤ k ∧ k < n + 20
      · rw [if_pos ck, if_pos ck]
        exact ⟨_, bN_lt (by omega), rfl, bB_uB (by omega)⟩
      · rw [if_neg ck, if_neg ck, pw_pIo (by omega), (e1 158 (by decide)).1]
        exact t3 k (by omega)
  · have hc : ¬ h.1 0 1 + (20 : Int32) ≤ (900 : Int32) := by
      rw [t1, pw_lit, nI_add, pw_lit, pw_leI (by omega) (by omega)]
      exact q
    refine ok_mono (P := fun x h' => x = mI ∧ h' = h) ?_ ?_
    · unfold f_X11_feed
      rw [if_neg hc]
      exact ok_some ⟨rfl, rfl⟩
    · rintro x h1 ⟨rfl, rfl⟩
      unfold f_X12_feed
      refine ok_lt ?_
      have hc2 : ¬ (pI h1 152 5 (0 : Int32)).1 152 7 + (20 : Int32) ≤ (900 : Int32) := by
        rw [pw_pIo (by omega), t2, pw_lit, nI_add, pw_lit, pw_leI (by omega) (by omega)]
        exact q
      rw [if_neg hc2]
      exact ok_some ⟨rfl, I.r (RQ_th (v := 0)).1 (RQ_th (v := 0)).2⟩

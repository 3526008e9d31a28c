/-! ===== what holds between the calls ===== -/
def RU (K : Nat → Int32) : Prop := ∀ k, k < gv K 6 → ∃ o, o < 2 ^ gv K 5 ∧ K (66 + 17 * k) = nI o
def GK (K : Nat → Int32) : Prop := RK K ∧ RU K ∧ KW K
set_option maxRecDepth 16384 in
theorem okS_same {K K' : Nat → Int32} (s : sameK K K') {x : Nat} (h : okS K x) : okS K' x := by
  unfold okS okA at h ⊢
  rw [gc_same s, gv_same s (show 1 < 6 ∨ _ by omega), gv_same s (show 2 < 6 ∨ _ by omega)]
  exact h
set_option maxRecDepth 16384 in
theorem rmS_same {K K' : Nat → Int32} (s : sameK K K') : ∀ m k, k + m ≤ 900 → rmS K' k m = rmS K k m
  | 0, _, _ => rfl
  | m + 1, k, h => by
    rw [rmS, rmS, rmS_same s m (k + 1) (by omega)]
    unfold stp
    rw [gv_same s (by omega)]
set_option maxRecDepth 16384 in
theorem KW_same {K K' : Nat → Int32} (H : RK K) (s : sameK K K') (w : KW K) : KW K' := by
  obtain ⟨w65, w900, w0, wst, wmo, wsp, wty⟩ := w
  have h6 := H.2.2.2.2.2.2.2.1
  have e65 : gv K' 65 = gv K 65 := gv_same s (by omega)
  have e5 : gv K' 5 = gv K 5 := gv_same s (by omega)
  have es : ∀ i, i ≤ 10 → srt K' i = srt K i := fun i hi => gv_same s (by omega)
  refine ⟨?_, ?_, ?_, ?_, ?_, ?_, ?_⟩
  · rw [e65, s 65 (by omega)]; exact w65
  · rw [e65]; exact w900
  · rw [es 0 (by omega)]; exact w0
  · intro i hi
    rw [e5] at hi
    rw [es i (by omega), s (54 + i) (by omega), e65]
    exact wst i hi
  · intro i hi
    rw [e5] at hi
    rw [es i (by omega), es (i + 1) (by omega)]
    exact wmo i hi
  · intro k hk
    rw [e65] at hk
    have es2 : stp K' k = stp K k := gv_same s (by omega)
    rw [es2, s (236 + k) (by omega)]
    exact ⟨(wsp k hk).1, okS_same s (wsp k hk).2⟩
  · intro i hi
    rw [e5] at hi
    have h1 := wst (i + 1) (by omega)
    have h2 := wmo i hi
    rw [es i (by omega), es (i + 1) (by omega), rmS_same s _ _ (by omega)]
    exact wty i hi
set_option maxRecDepth 16384 in
theorem pl_same {K K' : Nat → Int32} (s : sameK K K') (w x : Nat) : pl K' w x = pl K w x := by
  unfold pl plD plP
  rw [gv_same s (show 1 < 6 ∨ _ by omega), gv_same s (show 2 < 6 ∨ _ by omega)]
set_option maxRecDepth 16384 in
theorem evr_same {K K' : Nat → Int32} (s : sameK K K') (w : Nat) : ∀ l st, evr K' w l st = evr K w l st
  | [], _ => rfl
  | x :: l, st => by
    rw [evr, evr, evr_same s w l]
    unfold ev1
    rw [pl_same s]
set_option maxRecDepth 16384 in
theorem EV_same {K K' T : Nat → Int32} (H : RK K) (W : KW K) (s : sameK K K') (e : EV K T) : EV K' T := by
  obtain ⟨w65, w900, w0, wst, wmo, wsp, wty⟩ := W
  have h6 := H.2.2.2.2.2.2.2.1
  intro i hi w hw
  rw [gv_same s (by omega)] at hi
  rw [ga_same s] at hw
  rw [e i hi w hw]
  have h1 := wst (i + 1) (by omega)
  have h2 := wmo i hi
  have e1 : srt K' i = srt K i := gv_same s (by omega)
  have e2 : srt K' (i + 1) = srt K (i + 1) := gv_same s (by omega)
  unfold tvR evv
  rw [e1, e2, rmS_same s _ _ (by omega), evr_same s]
set_option maxRecDepth 16384 in
theorem enc_same {K K' : Nat → Int32} (s : sameK K K') (x : Nat) : enc K' x = enc K x := by
  unfold enc dayM parM
  rw [ga_same s, gc_same s, gv_same s (show 2 < 6 ∨ _ by omega)]
set_option maxRecDepth 16384 in
theorem CD_same {F C K K' : Nat → Int32} (H : RK K) (W : KW K) (s : sameK K K') (d : CD F C K) : CD F C K' := by
  have h6 := H.2.2.2.2.2.2.2.1
  have w900 := W.2.1
  refine ⟨fun i hi hz => ?_, fun k hk => ?_⟩
  · rw [gv_same s (by omega)] at hi hz
    rw [s (54 + i) (by omega)]
    exact d.1 i hi hz
  · rw [gv_same s (by omega)] at hk
    have es2 : stp K' k = stp K k := gv_same s (by omega)
    rw [es2, enc_same s]
    exact d.2 k hk
/- a sky of the class, at the cells b to b + 4 -/
def SKY (b : Nat) (K : Nat → Int32) (h : PH) : Prop := SK (h.1 b) K ∧ h.1 b 9 = nI (gv K 65) ∧ (∀ i, i < gv K 5 → h.1 (b + 1) i = K (24 + i)) ∧ (∀ i, i < gv K 5 → h.1 (b + 2) i = K (34 + i)) ∧ CD (h.1 (b + 3)) (h.1 (b + 4)) K
set_option maxRecDepth 16384 in
theorem SKY_same {b : Nat} {K K' : Nat → Int32} {h : PH} (H : RK K) (W : KW K) (s : sameK K K') (d : SKY b K h) : SKY b K' h := by
  obtain ⟨d1, d2, d3, d4, d5⟩ := d
  have h6 := H.2.2.2.2.2.2.2.1
  have e5 : gv K' 5 = gv K 5 := gv_same s (by omega)
  refine ⟨SK_same H s d1, ?_, fun i hi => ?_, fun i hi => ?_, CD_same H W s d5⟩
  · rw [gv_same s (by omega)]; exact d2
  · rw [e5] at hi
    rw [s (24 + i) (by omega)]
    exact d3 i hi
  · rw [e5] at hi
    rw [s (34 + i) (by omega)]
    exact d4 i hi
def TP (h : PH) : Prop := ∃ n, n ≤ 900 ∧ h.1 0 1 = nI n ∧ h.1 152 7 = nI n ∧ ∀ k, k < n → ∃ b, b < 256 ∧ h.1 158 k = nI b ∧ h.1 1 k = (nI b).toInt8.toInt32
def TR1 (t : Nat) (h : PH) : Prop := (h.1 (85 + 2 * t) 1 = mI ∧ h.1 174 t = mI) ∨ ∃ s m, s ≤ 3 ∧ m ≤ 30 ∧ h.1 (85 + 2 * t) 0 = nI s ∧ h.1 174 t = nI s ∧ h.1 (85 + 2 * t) 1 = nI m ∧ h.1 175 t = nI m ∧ ∀ k, k < 30 → h.2 (86 + 2 * t) k = h.2 176 (30 * t + k)
def IM1 (i : Nat) (h : PH) : Prop := (h.1 2 i = nI 0 ∧ h.1 157 i = nI 0) ∨ (h.1 2 i = nI 1 ∧ h.1 157 i = nI 1 ∧ ∀ K', (∀ j, j < 1200 → K' j = h.1 155 (1200 * i + j)) → GK K' ∧ SKY (95 + 19 * i) K' h ∧ BK (100 + 19 * i) K' h)
def WO (h : PH) : Prop := (∀ c, c < 7 → h.2 76 c = lN 0) ∧ ∀ n, n < 7 → h.2 (76 + n) 0 = lN 0
def INV (h : PH) : Prop := GK (h.1 153) ∧ EV (h.1 153) (h.1 159) ∧ WW (h.1 153) (h.1 160) ∧ SKY 3 (h.1 153) h ∧ BK 16 (h.1 153) h ∧ HD (h.1 153) (h.1 159) (h.1 31) ∧ CHc (h.1 153) (h.1 159) h ∧ TP h ∧ (h.1 13 10 = h.1 152 15 ∧ h.1 13 11 = h.1 152 16) ∧ (∀ t, t < 4 → TR1 t h) ∧ (∀ i, i < 3 → IM1 i h) ∧ WO h
set_option maxRecDepth 16384 in
theorem INV.rx {h : PH} (I : INV h) : RX (h.1 153) (h.1 159) h := ⟨I.1.1, rfl, rfl, I.2.1.tt, I.2.2.1⟩
set_option maxRecDepth 16384 in
theorem INV.fc {h : PH} (I : INV h) : FC (h.1 153) (h.1 159) h := ⟨I.1.1, I.2.2.2.1.1, cd_ok I.1.1 I.1.2.2 I.2.2.2.1.2.2.2.2 I.2.1, I.2.2.2.2.2.1⟩
set_option maxRecDepth 16384 in
theorem INV.op {h : PH} (I : INV h) : h.1 16 0 = nI (gv (h.1 153) 7) := by rw [I.2.2.2.2.1.1]; exact (rk_e I.1.1).2.2.2.2.2.2.2
/- cells of which nothing is known between the calls, but for 31 to 35 and 152 -/
def scL : List Nat := [8, 9, 10, 11, 12, 14, 15, 30, 31, 32, 33, 34, 35, 36, 37, 38, 39, 40, 41, 42, 43, 44, 45, 46, 47, 48, 49, 50, 51, 52, 53, 54, 55, 56, 57, 58, 59, 60, 61, 62, 63, 64, 65, 66, 67, 68, 69, 70, 71, 72, 73, 74, 83, 152, 154, 156, 161, 162, 163, 164, 165, 166, 167, 168, 169, 170, 171, 172, 173, 177]
def f152 (h h' : PH) : Prop := h'.1 152 7 = h.1 152 7 ∧ h'.1 152 15 = h.1 152 15 ∧ h'.1 152 16 = h.1 152 16
set_option maxRecDepth 16384 in
theorem f152_rfl (h : PH) : f152 h h := ⟨rfl, rfl, rfl⟩
set_option maxRecDepth 16384 in
theorem f152_trans {a b c : PH} (x : f152 a b) (y : f152 b c) : f152 a c := ⟨y.1.trans x.1, y.2.1.trans x.2.1, y.2.2.trans x.2.2⟩
set_option maxRecDepth 16384 in
theorem f152_eq {S : List Nat} {h h' : PH} (e : eqx S h h') (a : 152 ∉ S) : f152 h h' := by
  unfold f152
  rw [(e 152 a).1]
  exact ⟨rfl, rfl, rfl⟩
set_option maxRecDepth 16384 in
theorem f152_pI {h : PH} {j : Nat} {v : Int32} (a : j ≠ 7) (b : j ≠ 15) (c : j ≠ 16) : f152 h (pI h 152 j v) := ⟨pw_pIo (by omega), pw_pIo (by omega), pw_pIo (by omega)⟩
/- the parts that depend on cells alone -/
set_option maxRecDepth 16384 in
theorem SKY_to {b : Nat} {K : Nat → Int32} {h h' : PH} {S : List Nat} (e : eqx S h h') (h0 : b ∉ S) (h1 : b + 1 ∉ S) (h2 : b + 2 ∉ S) (h3 : b + 3 ∉ S) (h4 : b + 4 ∉ S) (d : SKY b K h) : SKY b K h' := by
  unfold SKY
  rw [(e b h0).1, (e (b + 1) h1).1, (e (b + 2) h2).1, (e (b + 3) h3).1, (e (b + 4) h4).1]
  exact d
set_option maxRecDepth 16384 in
theorem BK_to {b : Nat} {K : Nat → Int32} {h h' : PH} {S : List Nat} (e : eqx S h h') (h0 : b ∉ S) (h1 : b + 1 ∉ S) (h2 : b + 2 ∉ S) (h3 : ∀ k, k < 10 → b + 4 + k ∉ S) (d : BK b K h) : BK b K h' := by
  unfold BK
  rw [(e b h0).1, (e (b + 1) h1).1, (e (b + 2) h2).1]
  obtain ⟨d0, d1, d2, d3, x, hx, d4, d5⟩ := d
  refine ⟨d0, d1, d2, d3, x, hx, d4, fun k hk j hj => ?_⟩
  rw [(e (b + 4 + (x + k) % 10) (h3 _ (by omega))).1]
  exact d5 k hk j hj
set_option maxRecDepth 16384 in
theorem TR1_to {t : Nat} {h h' : PH} {S : List Nat} (e : eqx S h h') (h0 : 85 + 2 * t ∉ S) (h1 : 86 + 2 * t ∉ S) (h2 : 174 ∉ S) (h3 : 175 ∉ S) (h4 : 176 ∉ S) (d : TR1 t h) : TR1 t h' := by
  unfold TR1
  rw [(e _ h0).1, (e _ h1).2, (e _ h2).1, (e _ h3).1, (e _ h4).2]
  exact d
set_option maxRecDepth 16384 in
theorem IM1_to {i : Nat} {h h' : PH} {S : List Nat} (e : eqx S h h') (hc : ∀ c, 95 + 19 * i ≤ c → c < 114 + 19 * i → c ∉ S) (h2 : 2 ∉ S) (h3 : 157 ∉ S) (h4 : 155 ∉ S) (d : IM1 i h) : IM1 i h' := by
  unfold IM1
  rw [(e 2 h2).1, (e 157 h3).1, (e 155 h4).1]
  rcases d with d | ⟨d1, d2, d3⟩
  · exact Or.inl d
  · refine Or.inr ⟨d1, d2, fun K' hK => ?_⟩
    obtain ⟨g, s, b⟩ := d3 K' hK
    exact ⟨g, SKY_to e (hc _ (by omega) (by omega)) (hc _ (by omega) (by omega)) (hc _ (by omega) (by omega)) (hc _ (by omega) (by omega)) (hc _ (by omega) (by omega)) s, BK_to e (hc _ (by omega) (by omega)) (hc _ (by omega) (by omega)) (hc _ (by omega) (by omega)) (fun k hk => hc _ (by omega) (by omega)) b⟩
set_option maxRecDepth 16384 in
theorem scL_im : ∀ i, i < 3 → ∀ c, 95 + 19 * i ≤ c → c < 114 + 19 * i → c ∉ scL := by
  intro i hi c h1 h2
  exact (by decide : ∀ c, c < 152 → 95 ≤ c → c ∉ scL) c (by omega) (by omega)
set_option maxRecDepth 16384 in
theorem scL_tr : ∀ t, t < 4 → 85 + 2 * t ∉ scL ∧ 86 + 2 * t ∉ scL := by decide
set_option maxRecDepth 16384 in
theorem WO_to {h h' : PH} {S : List Nat} (e : eqx S h h') (hc : ∀ n, n < 7 → 76 + n ∉ S) (d : WO h) : WO h' := by
  unfold WO
  rw [(e 76 (hc 0 (by omega))).2]
  exact ⟨d.1, fun n hn => by rw [(e (76 + n) (hc n hn)).2]; exact d.2 n hn⟩
set_option maxRecDepth 16384 in
theorem TP_to {h h' : PH} {S : List Nat} (e : eqx S h h') (f : h'.1 152 7 = h.1 152 7) (h0 : 0 ∉ S) (h1 : 1 ∉ S) (h2 : 158 ∉ S) (d : TP h) : TP h' := by
  unfold TP
  rw [(e 0 h0).1, (e 1 h1).1, (e 158 h2).1, f]
  exact d
set_option maxRecDepth 16384 in
theorem INV.q {h h' : PH} (I : INV h) (e : eqx scL h h') (f : f152 h h') (hd : HD (h.1 153) (h.1 159) (h'.1 31)) (cc : CHc (h.1 153) (h.1 159) h') : INV h' := by
  obtain ⟨i1, i2, i3, i4, i5, i6, i7, i8, i9, i10, i11, i12⟩ := I
  have e153 := (e 153 (by decide)).1
  have e159 := (e 159 (by decide)).1
  have e160 := (e 160 (by decide)).1
  unfold INV
  rw [e153, e159, e160]
  refine ⟨i1, i2, i3, SKY_to e (by decide) (by decide) (by decide) (by decide) (by decide) i4, BK_to e (by decide) (by decide) (by decide) (by decide) i5, hd, cc, TP_to e f.1 (by decide) (by decide) (by decide) i8, ?_, fun t ht => TR1_to e (scL_tr t ht).1 (scL_tr t ht).2 (by decide) (by decide) (by decide) (i10 t ht), fun i hi => IM1_to e (scL_im i hi) (by decide) (by decide) (by decide) (i11 i hi), WO_to e (by decide) i12⟩
  rw [(e 13 (by decide)).1, f.2.1, f.2.2]
  exact i9
/- with what is known changed, the sky's part the same -/
set_option maxRecDepth 16384 in
theorem INV.k {h h' : PH} (I : INV h) (e : eqx (scL ++ 153 :: bkS) h h') (f : f152 h h') (s : sameK (h.1 153) (h'.1 153)) (g : GK (h'.1 153)) (b : BK 16 (h'.1 153) h') (hd : HD (h.1 153) (h.1 159) (h'.1 31)) (cc : CHc (h.1 153) (h.1 159) h') : INV h' := by
  obtain ⟨i1, i2, i3, i4, i5, i6, i7, i8, i9, i10, i11, i12⟩ := I
  have e159 := (e 159 (by decide)).1
  have e160 := (e 160 (by decide)).1
  unfold INV
  rw [e159, e160]
  refine ⟨g, EV_same i1.1 i1.2.2 s i2, WW_same s i3, SKY_same i1.1 i1.2.2 s (SKY_to e (by decide) (by decide) (by decide) (by decide) (by decide) i4), b, HD_same s hd, CHc_same i1.1 s cc, TP_to e f.1 (by decide) (by decide) (by decide) i8, ?_, fun t ht => TR1_to e ((by decide : ∀ t, t < 4 → 85 + 2 * t ∉ (scL ++ 153 :: bkS)) t ht) ((by decide : ∀ t, t < 4 → 86 + 2 * t ∉ (scL ++ 153 :: bkS)) t ht) (by decide) (by decide) (by decide) (i10 t ht), fun i hi => IM1_to e (fun c h1 h2 => (by decide : ∀ c, c < 152 → 95 ≤ c → c ∉ (scL ++ 153 :: bkS)) c (by omega) (by omega)) (by decide) (by decide) (by decide) (i11 i hi), WO_to e (by decide) i12⟩
  rw [(e 13 (by decide)).1, f.2.1, f.2.2]
  exact i9
set_option maxRecDepth 16384 in
theorem keep_GK {K : Nat → Int32} (G : GK K) : GK (keepK K) := by
  obtain ⟨H, U, W⟩ := G
  obtain ⟨H', g6, g7⟩ := keep_RK H
  have hkd := kd6_le H
  have h6l := (rk_b H).2.2.2.2.2.2.2.1
  refine ⟨H', ?_, KW_same H (keep_same H) W⟩
  intro k hk
  rw [g6] at hk
  rw [gv_same (keep_same H) (show 5 < 6 ∨ _ by omega)]
  by_cases hz : k = kd6 K
  · refine ⟨gv K 7, open_lt H, ?_⟩
    unfold keepK
    rw [if_neg (by omega), if_pos (by omega), hz, show 7 + (66 + 17 * kd6 K - (66 + 17 * kd6 K)) = 7 by omega]
    exact (rk_e H).2.2.2.2.2.2.2
  · by_cases h10 : gv K 6 = 10
    · have hk9 : kd6 K = 9 := by unfold kd6; rw [if_pos h10]
      obtain ⟨o, ho, hv⟩ := U (k + 1) (by omega)
      refine ⟨o, ho, ?_⟩
      unfold keepK
      rw [if_neg (by omega), if_neg (by omega), if_pos ⟨h10, by omega, by omega⟩, show 66 + 17 * k + 17 = 66 + 17 * (k + 1) by omega]
      exact hv
    · have hk9 : kd6 K = gv K 6 := by unfold kd6; rw [if_neg h10]
      obtain ⟨o, ho, hv⟩ := U k (by omega)
      refine ⟨o, ho, ?_⟩
      unfold keepK
      rw [if_neg (by omega), if_neg (by omega), if_neg (by omega)]
      exact hv
/- what the deeds change: only open, ages, dues -/
set_option maxRecDepth 16384 in
theorem GK_lo {K K' : Nat → Int32} (G : GK K) (s : ∀ j, (j < 7 ∨ 24 ≤ j) → K' j = K j) {o : Nat} (h7 : K' 7 = nI o) (ho : o < 2 ^ gv K 5) : GK K' ∧ sameK K K' ∧ gv K' 6 = gv K 6 ∧ gv K' 7 = o := by
  obtain ⟨H, U, W⟩ := G
  have s2 : sameK K K' := fun j hj => s j (by omega)
  have h6l := (rk_b H).2.2.2.2.2.2.2.1
  obtain ⟨H', g6, g7⟩ := RK_same H s2 (d := gv K 6) (o := o) (by rw [s 6 (by omega)]; exact (rk_e H).2.2.2.2.2.2.1) h6l h7 ho
  refine ⟨⟨H', ?_, KW_same H s2 W⟩, s2, g6, g7⟩
  intro k hk
  rw [g6] at hk
  rw [gv_same s2 (show 5 < 6 ∨ _ by omega), s (66 + 17 * k) (by omega)]
  exact U k hk

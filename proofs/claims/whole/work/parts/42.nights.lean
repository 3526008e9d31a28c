/-! ===== nights: class and reference, with what is known given ===== -/
set_option maxRecDepth 16384 in
theorem sameK_symm {K K' : Nat → Int32} (s : sameK K K') : sameK K' K := fun j hj => (s j hj).symm
set_option maxRecDepth 16384 in
theorem sameK_trans {K K' K2 : Nat → Int32} (a : sameK K K') (b : sameK K' K2) : sameK K K2 := fun j hj => (b j hj).trans (a j hj)
set_option maxRecDepth 16384 in
theorem sameK_rfl (K : Nat → Int32) : sameK K K := fun _ _ => rfl
def CS (K T : Nat → Int32) (h : PH) : Prop := GK K ∧ EV K T ∧ SKY 3 K h ∧ BK 16 K h ∧ HD K T (h.1 31)
set_option maxRecDepth 16384 in
theorem INV.cs {h : PH} (I : INV h) : CS (h.1 153) (h.1 159) h := ⟨I.1, I.2.1, I.2.2.2.1, I.2.2.2.2.1, I.2.2.2.2.2.1⟩
set_option maxRecDepth 16384 in
theorem CS.fc {K T : Nat → Int32} {h : PH} (C : CS K T h) : FC K T h := ⟨C.1.1, C.2.2.1.1, cd_ok C.1.1 C.1.2.2 C.2.2.1.2.2.2.2 C.2.1, C.2.2.2.2⟩
set_option maxRecDepth 16384 in
theorem CS.op {K T : Nat → Int32} {h : PH} (C : CS K T h) : h.1 16 0 = nI (gv K 7) := by rw [C.2.2.2.1.1]; exact (rk_e C.1.1).2.2.2.2.2.2.2
set_option maxRecDepth 16384 in
theorem CS.f {K T : Nat → Int32} {h h' : PH} (C : CS K T h) (e : eqx [31, 32] h h') (F : FC K T h') : CS K T h' := ⟨C.1, C.2.1, SKY_to e (by decide) (by decide) (by decide) (by decide) (by decide) C.2.2.1, BK_to e (by decide) (by decide) (by decide) (by decide) C.2.2.2.1, F.2.2.2⟩
/- the class with another state of what is known -/
set_option maxRecDepth 16384 in
theorem CS.k {K K' T : Nat → Int32} {h h' : PH} (C : CS K T h) (e : eqx bkS h h') (G : GK K') (s : sameK K K') (B : BK 16 K' h') : CS K' T h' := ⟨G, EV_same C.1.1 C.1.2.2 s C.2.1, SKY_same C.1.1 C.1.2.2 s (SKY_to e (by decide) (by decide) (by decide) (by decide) (by decide) C.2.2.1), B, HD_same s (by rw [(e 31 (by decide)).1]; exact C.2.2.2.2)⟩
def cbS : List Nat := [31, 32, 16, 17, 18, 20, 21, 22, 23, 24, 25, 26, 27, 28, 29]
set_option maxRecDepth 16384 in
theorem gG_same {K K' T : Nat → Int32} (H : RK K) (s : sameK K K') (h7 : gv K' 7 = gv K 7) (p : Nat) : gG K' T p = gG K T p := by
  unfold gG gr
  rw [gv_same s (show 5 < 6 ∨ _ by omega), h7, wx_same s]
set_option maxRecDepth 16384 in
theorem wG_same {K K' T : Nat → Int32} (H : RK K) (s : sameK K K') (h7 : gv K' 7 = gv K 7) (p : Nat) : wG K' T p = wG K T p := by
  unfold wG
  rw [gG_same H s h7, wt_same H s]
set_option maxRecDepth 16384 in
theorem goK_GK {K : Nat → Int32} (G : GK K) (g : Nat) : GK (goK K g) ∧ sameK K (goK K g) := by
  have h1 := sdf_le (gv K 7) g
  have h2 := open_lt G.1
  have := GK_lo (K' := goK K g) G (fun j hj => goN_hi (by omega)) (o := sdf (gv K 7) g) (by unfold goK goN; rw [if_pos rfl]) (by omega)
  exact ⟨this.1, this.2.1⟩
/- behind a night -/
def NK (K T : Nat → Int32) (p : Nat) : Nat → Int32 := goK (keepK K) (gG K T p)
set_option maxRecDepth 16384 in
theorem NK_GK {K T : Nat → Int32} (G : GK K) (p : Nat) : GK (NK K T p) ∧ sameK K (NK K T p) := by
  obtain ⟨a, b⟩ := goK_GK (keep_GK G) (gG K T p)
  exact ⟨a, sameK_trans (keep_same G.1) b⟩
set_option maxRecDepth 16384 in
theorem c_makeNight {K T : Nat → Int32} {h : PH} {p : Nat} (C : CS K T h) (hp : p ≤ ga K) : ok (f_X11_makeNight 0 (nI p) h) (fun r h' => r = nI (wG K T p) ∧ eqx cbS h h' ∧ CS (NK K T p) T h') := by
  have H := C.1.1
  have hgl := gG_lt (T := T) H p
  unfold f_X11_makeNight
  rw [r_0_6, r_0_5, r_0_2, C.op]
  refine ok_cb (c_gG C.fc hp) ?_
  rintro r h1 ⟨rfl, e1, F1⟩
  have C1 := C.f e1 F1
  refine ok_lt (ok_cb (c_remember H C1.2.2.2.1) ?_)
  rintro r2 h2 ⟨e2, B2⟩
  have C2 : CS (keepK K) T h2 := C1.k e2 (keep_GK C.1) (keep_same H) B2
  have e7 : gv (keepK K) 7 = gv K 7 := (keep_RK H).2.2
  refine ok_cb (c_pass C2.fc C2.op C2.2.2.1.2.2.2.1 C2.2.2.1.2.2.1 B2.2.1 B2.2.2.1 hgl) ?_
  rintro r3 h3 ⟨e3, p0, p1, p2, p3, p4⟩
  obtain ⟨G3, s3⟩ := goK_GK C2.1 (gG K T p)
  have g6 : gv (goK (keepK K) (gG K T p)) 6 = gv (keepK K) 6 := (goN_RK C2.1.1 (gG K T p) _).2.1
  have C3 : CS (goK (keepK K) (gG K T p)) T h3 := by
    refine C2.k e3 G3 s3 ⟨p0, p1, p2, ?_, ?_⟩
    · rw [p3 3 (by decide), B2.2.2.2.1]
      exact (goN_hi (by omega)).symm
    · obtain ⟨e, he, b4, b5⟩ := B2.2.2.2.2
      refine ⟨e, he, by rw [p3 4 (by decide)]; exact b4, fun k hk j hj => ?_⟩
      rw [g6] at hk
      rw [p4 _ (by omega), b5 k hk j hj]
      exact (goN_hi (by omega)).symm
  have hw := c_weightOf (h := h3) (s := gG K T p) C3.1.1 C3.fc.2.1 C3.2.2.1.2.2.2.1 (by omega)
  have hwt : wt (goK (keepK K) (gG K T p)) (gG K T p) = wG K T p := by
    rw [wt_same C2.1.1 s3, wt_same H (keep_same H)]
    rfl
  rw [hwt] at hw
  rw [hw]
  exact ok_some ⟨rfl, eqx_trans (eqx_mono e1 (by decide)) (eqx_trans (eqx_mono e2 (by decide)) (eqx_mono e3 (by decide))), C3⟩
def RS (K T : Nat → Int32) (h : PH) : Prop := GK K ∧ RX K T h
set_option maxRecDepth 16384 in
theorem RX.k {K K' T : Nat → Int32} {h h' : PH} (R : RX K T h) (e : eqx [153] h h') (k : h'.1 153 = K') (G : GK K') (s : sameK K K') : RX K' T h' := ⟨G.1, k, by rw [(e 159 (by decide)).1]; exact R.2.2.1, TT_same s R.2.2.2.1, by rw [(e 160 (by decide)).1]; exact WW_same s R.2.2.2.2⟩
set_option maxRecDepth 16384 in
theorem e_keepsR {K T : Nat → Int32} {h : PH} (S : RS K T h) : ok (f_X12_keeps 152 h) (fun _ h' => eqx [153] h h' ∧ RS (keepK K) T h') := by
  refine ok_mono (e_keeps S.1.1 S.2.2.1) ?_
  rintro r h' ⟨e, k⟩
  exact ⟨e, keep_GK S.1, S.2.k e k (keep_GK S.1) (keep_same S.1.1)⟩
set_option maxRecDepth 16384 in
theorem e_goesR {K T : Nat → Int32} {h : PH} {p : Nat} (S : RS K T h) (hp : p ≤ ga K) : ok (f_X12_goesBy 152 (nI p) h) (fun r h' => r = nI (wG K T p) ∧ eqx [153] h h' ∧ RS (goK K (gG K T p)) T h') := by
  refine ok_mono (e_goesBy S.2 hp) ?_
  rintro r h' ⟨rfl, e, k⟩
  obtain ⟨G, s⟩ := goK_GK S.1 (gG K T p)
  exact ⟨rfl, e, G, S.2.k e k G s⟩
set_option maxRecDepth 16384 in
theorem e_nightR {K T : Nat → Int32} {α : Type} {Q : α → PH → Prop} {k : Int32 → PH → Option (α × PH)} {h : PH} {p : Nat} (S : RS K T h) (hp : p ≤ ga K) (hk : ∀ h', eqx [153] h h' → RS (NK K T p) T h' → ok (k (nI (wG K T p)) h') Q) : ok (cb (f_X12_keeps 152 h) (fun r5 h6 => cb (f_X12_goesBy 152 (nI p) h6) k)) Q := by
  refine ok_cb (e_keepsR S) ?_
  rintro r h1 ⟨e1, S1⟩
  have hs := keep_same S.1.1
  have e7 : gv (keepK K) 7 = gv K 7 := (keep_RK S.1.1).2.2
  refine ok_cb (e_goesR (p := p) S1 (by rw [ga_same hs]; exact hp)) ?_
  rintro r2 h2 ⟨rfl, e2, S2⟩
  rw [gG_same S.1.1 hs e7] at S2
  rw [wG_same S.1.1 hs e7]
  exact hk h2 (eqx_trans e1 e2) S2
/- class and reference alike behind a change -/
def chL : List Nat := [31, 32, 16, 17, 18, 20, 21, 22, 23, 24, 25, 26, 27, 28, 29, 152, 153, 154, 156, 161, 162, 163, 164, 165, 166, 167, 168, 169, 170, 171, 172, 173, 177]
set_option maxRecDepth 16384 in
theorem INV.ch {K' : Nat → Int32} {h h1 h2 : PH} (I : INV h) (e1 : eqx cbS h h1) (C : CS K' (h.1 159) h1) (e2 : eqx (153 :: 177 :: rfL) h1 h2) (f : f152 h1 h2) (s : sameK (h.1 153) K') (k : h2.1 153 = K') : INV h2 := by
  have e : eqx chL h h2 := eqx_trans (eqx_mono e1 (by decide)) (eqx_mono e2 (by decide))
  refine I.k (eqx_mono e (by decide)) (f152_trans (f152_eq e1 (by decide)) f) (by rw [k]; exact s) (by rw [k]; exact C.1) (by rw [k]; exact BK_to e2 (by decide) (by decide) (by decide) (by decide) C.2.2.2.1) ?_ (CHc_to e (by decide) (by decide) (by decide) I.2.2.2.2.2.2.1)
  rw [(e2 31 (by decide)).1]
  exact HD_same (sameK_symm s) C.2.2.2.2
set_option maxRecDepth 16384 in
theorem ge_same {K K' : Nat → Int32} (s : sameK K K') {p : Nat} (hp : p ≤ ga K) : p ≤ ga K' := by rw [ga_same s]; exact hp
set_option maxRecDepth 16384 in
theorem call_night {h : PH} {a : Int32} (I : INV h) : PN (f_X11_night 0 a) (f_X12_night 152 a) h := by
  have H := I.1.1
  have hb := rk_b H
  by_cases q : inN (ga (h.1 153) + 1) a
  · obtain ⟨p, hp, rfl⟩ := q
    have e1 : (nI p).toInt64 = lN p := nI_l (by omega)
    have hwl := wy_le (h.1 153) (h.1 159) p
    by_cases hz : wy (h.1 153) (h.1 159) p = 0
    · have hcl : ok (f_X11_night 0 (nI p) h) (fun r h' => r = nI (wG (h.1 153) (h.1 159) p) ∧ eqx cbS h h' ∧ CS (NK (h.1 153) (h.1 159) p) (h.1 159) h') := by
        unfold f_X11_night
        rw [e1, r_0_6, r_0_5, I.op]
        refine ok_cb (c_wy I.fc (by omega)) ?_
        rintro r h1 ⟨rfl, e, F1⟩
        rw [hz]
        simp only [pw_lt, pw_lit, if_true]
        refine ok_cb (c_makeNight (I.cs.f e F1) (by omega)) ?_
        rintro r2 h2 ⟨rfl, e2, C2⟩
        exact ok_some ⟨rfl, eqx_trans (eqx_mono e (by decide)) e2, C2⟩
      refine ok_mono hcl ?_
      rintro y h1 ⟨rfl, ec, C1⟩
      have R1 : RX (h.1 153) (h.1 159) h1 := I.rx.to ec (by decide) (by decide) (by decide)
      unfold f_X12_night
      simp only [pw_lt, pw_lit]
      rw [e1, e_wy (RX_pI R1) (by omega), hz]
      simp only [pw_cb, if_true]
      refine e_nightR ⟨I.1, RX_pI R1⟩ (by omega) (fun h2 e2 S2 => ?_)
      refine ok_some ⟨rfl, I.ch ec C1 (eqx_trans (eqx_pI (by decide)) (eqx_mono e2 (by decide))) (f152_trans (f152_pI (by decide) (by decide) (by decide)) (f152_eq e2 (by decide))) (NK_GK I.1 p).2 S2.2.2.1⟩
    · refine PN_q (-(nI (wy (h.1 153) (h.1 159) p))) ?_ (fun h2 R2 I2 k2 => ?_)
      · unfold f_X11_night
        rw [e1, r_0_6, r_0_5, I.op]
        refine ok_cb (c_wy I.fc (by omega)) ?_
        rintro r h1 ⟨rfl, e, F1⟩
        simp (disch := omega) only [pw_lt, pw_lit, pw_eqI, hz, if_false]
        exact ok_some ⟨rfl, CQ_fc I e F1⟩
      · unfold f_X12_night
        simp only [pw_lt, pw_lit]
        rw [e1, e_wy (RX_pI R2) (by omega)]
        simp (disch := omega) only [pw_cb, pw_eqI, hz, if_false]
        exact ok_some ⟨rfl, RQ_th⟩
  · have hq : ¬ ∃ k, k ≤ ga (h.1 153) ∧ a.toInt64 = lN k := fun z => q (a64 (by omega) z)
    refine PN_q (-(nI 1)) ?_ (fun h2 R2 I2 k2 => ?_)
    · unfold f_X11_night
      rw [r_0_6, r_0_5, c_wy1 I.fc hq]
      simp (disch := omega) only [pw_cb, pw_lt, pw_lit, pw_eqI, show ¬ (1 = 0) by decide, if_false]
      exact ok_some ⟨rfl, CQ_rfl I⟩
    · unfold f_X12_night
      simp only [pw_lt, pw_lit]
      rw [e_wy1 (RX_pI R2) hq]
      simp (disch := omega) only [pw_cb, pw_eqI, show ¬ (1 = 0) by decide, if_false]
      exact ok_some ⟨rfl, RQ_th⟩
/-! deeds with one cell changed -/
set_option maxRecDepth 16384 in
theorem updK_lo {K : Nat → Int32} (G : GK K) {j : Nat} {v : Int32} (h8 : 8 ≤ j) (h24 : j < 24) : GK (updK K j v) ∧ sameK K (updK K j v) ∧ gv (updK K j v) 6 = gv K 6 ∧ gv (updK K j v) 7 = gv K 7 := by
  refine GK_lo G (fun i hi => ?_) (o := gv K 7) ?_ (open_lt G.1)
  · unfold updK
    rw [if_neg (by omega)]
  · unfold updK
    rw [if_neg (by omega)]
    exact (rk_e G.1).2.2.2.2.2.2.2
set_option maxRecDepth 16384 in
theorem updK_op {K : Nat → Int32} (G : GK K) {o : Nat} (ho : o < 2 ^ gv K 5) : GK (updK K 7 (nI o)) ∧ sameK K (updK K 7 (nI o)) ∧ gv (updK K 7 (nI o)) 6 = gv K 6 ∧ gv (updK K 7 (nI o)) 7 = o := by
  refine GK_lo G (fun i hi => ?_) (o := o) ?_ ho
  · unfold updK
    rw [if_neg (by omega)]
  · unfold updK
    rw [if_pos rfl]
set_option maxRecDepth 16384 in
theorem BK_due {K : Nat → Int32} {h : PH} {p : Nat} {v : Int32} (g6 : gv (updK K (18 + p) v) 6 = gv K 6) (hp : p < 6) (B : BK 16 K h) : BK 16 (updK K (18 + p) v) (pI h 18 p v) := by
  obtain ⟨B0, B1, B2, B3, e, he, B4, B5⟩ := B
  refine ⟨?_, fun i hi => ?_, fun q hq => ?_, ?_, e, he, ?_, fun k hk j hj => ?_⟩
  · rw [pw_pIo (by omega)]; unfold updK; rw [if_neg (by omega)]; exact B0
  · rw [pw_pIo (by omega)]; unfold updK; rw [if_neg (by omega)]; exact B1 i hi
  · unfold updK
    by_cases eq : q = p
    · subst eq
      rw [pw_pIs, if_pos rfl]
    · rw [pw_pIo (by omega), if_neg (by omega)]
      exact B2 q hq
  · rw [pw_pIo (by omega)]; unfold updK; rw [if_neg (by omega)]; exact B3
  · rw [pw_pIo (by omega)]; exact B4
  · rw [g6] at hk
    rw [pw_pIo (by omega)]
    unfold updK
    rw [if_neg (by omega)]
    exact B5 k hk j hj
set_option maxRecDepth 16384 in
theorem BK_op {K : Nat → Int32} {h : PH} {v : Int32} (g6 : gv (updK K 7 v) 6 = gv K 6) (B : BK 16 K h) : BK 16 (updK K 7 v) (pI h 16 0 v) := by
  obtain ⟨B0, B1, B2, B3, e, he, B4, B5⟩ := B
  refine ⟨?_, fun i hi => ?_, fun q hq => ?_, ?_, e, he, ?_, fun k hk j hj => ?_⟩
  · rw [pw_pIs]; unfold updK; rw [if_pos rfl]
  · rw [pw_pIo (by omega)]; unfold updK; rw [if_neg (by omega)]; exact B1 i hi
  · rw [pw_pIo (by omega)]; unfold updK; rw [if_neg (by omega)]; exact B2 q hq
  · rw [pw_pIo (by omega)]; unfold updK; rw [if_neg (by omega)]; exact B3
  · rw [pw_pIo (by omega)]; exact B4
  · rw [g6] at hk
    rw [pw_pIo (by omega)]
    unfold updK
    rw [if_neg (by omega)]
    exact B5 k hk j hj
set_option maxRecDepth 16384 in
theorem BK_age {K : Nat → Int32} {h : PH} {i : Nat} {v : Int32} (g6 : gv (updK K (8 + i) v) 6 = gv K 6) (hi : i < 10) (B : BK 16 K h) : BK 16 (updK K (8 + i) v) (pI h 17 i v) := by
  obtain ⟨B0, B1, B2, B3, e, he, B4, B5⟩ := B
  refine ⟨?_, fun k hk => ?_, fun q hq => ?_, ?_, e, he, ?_, fun k hk j hj => ?_⟩
  · rw [pw_pIo (by omega)]; unfold updK; rw [if_neg (by omega)]; exact B0
  · unfold updK
    by_cases eq : k = i
    · subst eq
      rw [pw_pIs, if_pos rfl]
    · rw [pw_pIo (by omega), if_neg (by omega)]
      exact B1 k hk
  · rw [pw_pIo (by omega)]; unfold updK; rw [if_neg (by omega)]; exact B2 q hq
  · rw [pw_pIo (by omega)]; unfold updK; rw [if_neg (by omega)]; exact B3
  · rw [pw_pIo (by omega)]; exact B4
  · rw [g6] at hk
    rw [pw_pIo (by omega)]
    unfold updK
    rw [if_neg (by omega)]
    exact B5 k hk j hj
set_option maxRecDepth 16384 in
theorem c_rem {K T : Nat → Int32} {h : PH} (C : CS K T h) : ok (f_X0_remember 16 h) (fun _ h' => eqx bkS h h' ∧ CS (keepK K) T h') := by
  refine ok_mono (c_remember C.1.1 C.2.2.2.1) ?_
  rintro r h2 ⟨e2, B2⟩
  exact ⟨e2, C.k e2 (keep_GK C.1) (keep_same C.1.1) B2⟩
/- the frame of a call that throws or changes what is known -/
set_option maxRecDepth 16384 in
theorem PC_ch {β : Type} {hs : List (Nat × Int32)} {F : PH → Option ((β ⊕ Nat) × PH)} {G : PH → Option (β × PH)} {h : PH} (I : INV h) (x : β) (K' : Nat → Int32) (s : sameK (h.1 153) K') (c : ok (F h) (fun y h1 => y = .inl x ∧ eqx cbS h h1 ∧ CS K' (h.1 159) h1)) (r : ∀ h2, RX (h.1 153) (h.1 159) h2 → ok (G h2) (fun b h3 => b = x ∧ h3.1 152 5 = nI 0 ∧ eqx (153 :: rfL) h2 h3 ∧ f152 h2 h3 ∧ h3.1 153 = K')) : PC hs F G h := by
  refine ok_mono c ?_
  rintro y h1 ⟨rfl, e1, C1⟩ h2 e2
  have R2 : RX (h.1 153) (h.1 159) h2 := (I.rx.to e1 (by decide) (by decide) (by decide)).to e2 (by decide) (by decide) (by decide)
  refine ok_mono (r h2 R2) ?_
  rintro b h3 ⟨rfl, th, e3, f3, k3⟩
  refine ⟨by rw [(e3 177 (by decide)).2], ⟨th, rfl⟩, I.ch e1 C1 (eqx_trans (eqx_mono e2 (by decide)) (eqx_mono e3 (by decide))) (f152_trans (f152_eq e2 (by decide)) f3) s k3⟩

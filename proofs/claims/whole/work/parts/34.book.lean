/-! ===== the book: what is known changes, the sky's part stays ===== -/
def sameK (K K' : Nat → Int32) : Prop := ∀ j, j < 6 ∨ (24 ≤ j ∧ j < 66) ∨ (236 ≤ j ∧ j < 1200) → K' j = K j
set_option maxRecDepth 16384 in
theorem gv_same {K K' : Nat → Int32} (h : sameK K K') {j : Nat} (hj : j < 6 ∨ (24 ≤ j ∧ j < 66) ∨ (236 ≤ j ∧ j < 1200)) : gv K' j = gv K j := by unfold gv; rw [h j hj]
set_option maxRecDepth 16384 in
theorem gc_same {K K' : Nat → Int32} (h : sameK K K') : gc K' = gc K := by unfold gc; rw [gv_same h (by omega), gv_same h (by omega)]
set_option maxRecDepth 16384 in
theorem ga_same {K K' : Nat → Int32} (h : sameK K K') : ga K' = ga K := by unfold ga; rw [gc_same h]
set_option maxRecDepth 16384 in
theorem wx_same {K K' : Nat → Int32} (h : sameK K K') (p : Nat) : wx K' p = wx K p := by unfold wx; rw [gc_same h, gv_same h (by omega), gv_same h (by omega)]
set_option maxRecDepth 16384 in
theorem orTo_le {f g : Nat → Bool} {n m : Nat} (e : n = m) (h : ∀ i, i < m → f i = g i) : orTo n f = orTo m g := by rw [e]; exact orTo_congr m h
set_option maxRecDepth 16384 in
theorem mm_same {K K' : Nat → Int32} (H : RK K) (h : sameK K K') : mm K' = mm K := by
  have h6 := H.2.2.2.2.2.2.2.1
  unfold mm
  refine orTo_le (gv_same h (by omega)) (fun i hi => ?_)
  rw [gv_same h (by omega)]
set_option maxRecDepth 16384 in
theorem blm_same {K K' : Nat → Int32} (h : sameK K K') : blm K' = blm K := by
  unfold blm
  rw [gc_same h, gv_same h (show 4 < 6 ∨ _ by omega), gv_same h (show 2 < 6 ∨ _ by omega), gv_same h (show 1 < 6 ∨ _ by omega)]
set_option maxRecDepth 16384 in
theorem hw_same {K K' T : Nat → Int32} (h : sameK K K') (w : Nat) : hw K' T w = hw K T w := by
  unfold hw
  rw [gv_same h (by omega)]
set_option maxRecDepth 16384 in
theorem wyo_same {K K' T : Nat → Int32} (H : RK K) (h : sameK K K') (o p : Nat) : wyo K' T o p = wyo K T o p := by
  unfold wyo
  rw [gv_same h (by omega), mm_same H h, hw_same h, wx_same h]
set_option maxRecDepth 16384 in
theorem ablo_same {K K' T : Nat → Int32} (H : RK K) (h : sameK K K') (o : Nat) : ablo K' T o = ablo K T o := by
  funext p
  unfold ablo
  rw [wyo_same H h]
set_option maxRecDepth 16384 in
theorem aL_same {K K' T : Nat → Int32} (H : RK K) (h : sameK K K') (o n : Nat) : aL K' T o n = aL K T o n := by
  unfold aL
  rw [ablo_same H h]
set_option maxRecDepth 16384 in
theorem pFo_same {K K' T : Nat → Int32} (H : RK K) (h : sameK K K') (o s : Nat) : pFo K' T o s = pFo K T o s := by
  unfold pFo
  rw [ga_same h, show fto K' T o s = fto K T o s from ?_]
  funext p
  unfold fto grO
  rw [ablo_same H h, hw_same h, wx_same h]
set_option maxRecDepth 16384 in
theorem TT_same {K K' T : Nat → Int32} (h : sameK K K') (t : TT K T) : TT K' T := fun i hi w hw => t i (by rw [gv_same h (by omega)] at hi; exact hi) w (by rw [ga_same h] at hw; exact hw)
set_option maxRecDepth 16384 in
theorem WW_same {K K' W : Nat → Int32} (h : sameK K K') (t : WW K W) : WW K' W := fun p hp => by rw [wx_same h]; exact t p (by rw [ga_same h] at hp; exact hp)
set_option maxRecDepth 16384 in
theorem SK_same {K K' L : Nat → Int32} (H : RK K) (h : sameK K K') (s : SK L K) : SK L K' := by
  unfold SK at s ⊢
  rw [h 0 (by omega), h 1 (by omega), h 2 (by omega), h 3 (by omega), h 4 (by omega), h 5 (by omega), mm_same H h, gc_same h, ga_same h, blm_same h, gv_same h (by omega), gv_same h (by omega)]
  exact s
set_option maxRecDepth 16384 in
theorem CdOk_same {L F C K K' T : Nat → Int32} (h : sameK K K') (c : CdOk L F C K T) : CdOk L F C K' T := fun h1 a b d i hi w hw => c h1 a b d i (by rw [gv_same h (by omega)] at hi; exact hi) w (by rw [ga_same h] at hw; exact hw)
set_option maxRecDepth 16384 in
theorem HD_same {K K' T D : Nat → Int32} (h : sameK K K') (c : HD K T D) : HD K' T D := fun w hw => by
  rw [hw_same h]
  exact c w (by rw [ga_same h] at hw; exact hw)
set_option maxRecDepth 16384 in
theorem FC_same {K K' T : Nat → Int32} {h : PH} (H' : RK K') (s : sameK K K') (F : FC K T h) : FC K' T h := ⟨H', SK_same F.1 s F.2.1, CdOk_same s F.2.2.1, HD_same s F.2.2.2⟩
set_option maxRecDepth 16384 in
theorem CHc_same {K K' T : Nat → Int32} {h : PH} (H : RK K) (s : sameK K K') (c : CHc K T h) : CHc K' T h := by
  rcases c with c | ⟨c, o, ho, h7, c4, c5, c6⟩
  · exact Or.inl c
  · refine Or.inr ⟨c, o, ho, h7, ?_, ?_, ?_⟩
    · rw [ga_same s, aL_same H s]; exact c4
    · rw [ga_same s, aL_same H s]; exact c5
    · intro x hx
      rw [pFo_same H s]
      exact c6 x (by rw [gv_same s (by omega)] at hx; exact hx)
def updK (K : Nat → Int32) (j : Nat) (v : Int32) : Nat → Int32 := fun b => if b = j then v else K b
set_option maxRecDepth 16384 in
theorem pI_upd {h : PH} {a j : Nat} {v : Int32} : (pI h a j v).1 a = updK (h.1 a) j v := by
  funext b
  unfold updK
  simp [pI]
set_option maxRecDepth 16384 in
theorem gv_nI {K : Nat → Int32} {j n : Nat} (h : K j = nI n) (hn : n < 2147483648) : gv K j = n := by
  unfold gv
  rw [h, pw_clamp hn]
/- what is known stays sound where the sky's part stays -/
set_option maxRecDepth 16384 in
theorem RK_same {K K' : Nat → Int32} (H : RK K) (s : sameK K K') {d o : Nat} (h6 : K' 6 = nI d) (hd : d ≤ 10) (h7 : K' 7 = nI o) (ho : o < 2 ^ gv K 5) : RK K' ∧ gv K' 6 = d ∧ gv K' 7 = o := by
  obtain ⟨a, b0, b1, b2, b3, b4, b5, b6, b7, b8, b9, b10⟩ := H
  have h10 : 2 ^ gv K 5 ≤ 2 ^ 10 := Nat.pow_le_pow_right (by decide) b6
  have e10 : 2 ^ 10 = 1024 := rfl
  have g6 : gv K' 6 = d := gv_nI h6 (by omega)
  have g7 : gv K' 7 = o := gv_nI h7 (by omega)
  have ge := fun j (hj : j < 6 ∨ (24 ≤ j ∧ j < 66) ∨ (236 ≤ j ∧ j < 1200)) => gv_same s hj
  refine ⟨⟨fun j hj => ?_, ?_, ?_, ?_, ?_, ?_, ?_, ?_, ?_, ?_, ?_, ?_⟩, g6, g7⟩
  · rcases (show j < 6 ∨ j = 6 ∨ j = 7 by omega) with q | rfl | rfl
    · rw [s j (by omega), ge j (by omega)]; exact a j hj
    · rw [g6]; exact h6
    · rw [g7]; exact h7
  · rw [ge 0 (by omega)]; exact b0
  · rw [ge 1 (by omega)]; exact b1
  · rw [ge 2 (by omega)]; exact b2
  · rw [gc_same s]; exact b3
  · rw [ge 3 (by omega)]; exact b4
  · rw [ge 4 (by omega)]; exact b5
  · rw [ge 5 (by omega)]; exact b6
  · rw [g6]; exact hd
  · rw [g7, ge 5 (by omega)]; exact ho
  · rw [ge 1 (by omega), ge 2 (by omega)]; exact b9
  · intro i hi
    rw [ge 5 (by omega)] at hi
    rw [ge (24 + i) (by omega), ge (34 + i) (by omega), ge (44 + i) (by omega), s (24 + i) (by omega), s (34 + i) (by omega), s (44 + i) (by omega)]
    exact b10 i hi
/-! a deed is kept -/
def kd6 (K : Nat → Int32) : Nat := if gv K 6 = 10 then 9 else gv K 6
def keepK (K : Nat → Int32) (j : Nat) : Int32 := if j = 6 then nI (kd6 K + 1) else if 66 + 17 * kd6 K ≤ j ∧ j < 66 + 17 * kd6 K + 17 then K (7 + (j - (66 + 17 * kd6 K))) else if gv K 6 = 10 ∧ 66 ≤ j ∧ j < 219 then K (j + 17) else K j
def k1K (K : Nat → Int32) (j : Nat) : Int32 := if gv K 6 = 10 then (if j = 6 then nI 9 else if 66 ≤ j ∧ j < 219 then K (j + 17) else K j) else K j
set_option maxRecDepth 16384 in
theorem kd6_le {K : Nat → Int32} (H : RK K) : kd6 K ≤ 9 := by
  have := (rk_b H).2.2.2.2.2.2.2.1
  unfold kd6
  by_cases h : gv K 6 = 10
  · rw [if_pos h]; omega
  · rw [if_neg h]; omega
set_option maxRecDepth 16384 in
theorem keep_same {K : Nat → Int32} (H : RK K) : sameK K (keepK K) := by
  have := kd6_le H
  intro j hj
  unfold keepK
  rw [if_neg (by omega), if_neg (by omega), if_neg (by omega)]
set_option maxRecDepth 16384 in
theorem keep_lo {K : Nat → Int32} (H : RK K) {j : Nat} (hj : j < 66) (h6 : j ≠ 6) : keepK K j = K j := by
  unfold keepK
  rw [if_neg h6, if_neg (by omega), if_neg (by omega)]
set_option maxRecDepth 16384 in
theorem keep_RK {K : Nat → Int32} (H : RK K) : RK (keepK K) ∧ gv (keepK K) 6 = kd6 K + 1 ∧ gv (keepK K) 7 = gv K 7 := by
  have := kd6_le H
  exact RK_same H (keep_same H) (d := kd6 K + 1) (o := gv K 7) (by unfold keepK; rw [if_pos rfl]) (by omega) (by rw [keep_lo H (by omega) (by omega)]; exact (rk_e H).2.2.2.2.2.2.2) (open_lt H)
set_option maxRecDepth 16384 in
theorem e_keeps {K : Nat → Int32} {h : PH} (H : RK K) (r1 : h.1 153 = K) : ok (f_X12_keeps 152 h) (fun _ h' => eqx [153] h h' ∧ h'.1 153 = keepK K) := by
  have hk6 := (rk_e H).2.2.2.2.2.2.1
  have h6l := (rk_b H).2.2.2.2.2.2.2.1
  have hkd := kd6_le H
  unfold f_X12_keeps
  simp (disch := omega) only [pw_lit, r_152_0, pw_ldI, r1, hk6]
  refine ok_join (fun h2 => eqx [153] h h2 ∧ h2.1 153 = k1K K) ?_ (fun j54 hj54 => ?_)
  · rintro h2 ⟨e2, q2⟩
    have v6 : k1K K 6 = nI (kd6 K) := by
      unfold k1K kd6
      by_cases hz : gv K 6 = 10
      · rw [if_pos hz, if_pos hz, if_pos rfl]
      · rw [if_neg hz, if_neg hz]; exact hk6
    refine ok_lt (ok_join (fun h4 => eqx [153] h h4 ∧ h4.1 153 = fun j => if 66 + 17 * kd6 K ≤ j ∧ j < 66 + 17 * kd6 K + 17 then k1K K (7 + (j - (66 + 17 * kd6 K))) else k1K K j) ?_ (fun j97 hj97 => ?_))
    · rintro h4 ⟨e4, q4⟩
      have w6 : h4.1 153 6 = nI (kd6 K) := by rw [q4]; simp only []; rw [if_neg (by omega)]; exact v6
      simp (disch := omega) only [pw_lt, pw_cb, pw_cbx, pw_cbxr, pw_lit, pw_litL, pw_oi, pw_oim, pw_oi8, pw_m, pw_ldI, pw_ldL, pw_ldR, pw_stI, pw_stL, pw_nz, pw_ltI, pw_leI, pw_eqI, pw_eqm, pw_eqm2, pw_ltm, pw_mlt, pw_lem, pw_mle, pw_mm, pw_dec, pw_nar0, pw_nar1, nI_add, pw_sub, pw_mul, pw_and, pw_or, pw_andn, pw_shl1, pw_shl, pw_shr, pw_dv, nI_l, lN_i, Bool.false_eq_true, reduceCtorEq, if_false, if_true, ↓reduceIte, if_pos, if_neg, w6]
      refine ok_some ⟨eqx_trans e4 (eqx_pI (by decide)), ?_⟩
      rw [pI_upd, q4]
      funext j
      unfold updK keepK k1K
      dsimp only
      by_cases h6 : j = 6
      · rw [if_pos h6, if_pos h6]
      · simp only [if_neg h6]
        by_cases ha : 66 + 17 * kd6 K ≤ j ∧ j < 66 + 17 * kd6 K + 17
        · rw [if_pos ha, if_pos ha]
          by_cases hz : gv K 6 = 10
          · rw [if_pos hz, if_neg (by omega), if_neg (by omega)]
          · rw [if_neg hz]
        · rw [if_neg ha, if_neg ha]
          by_cases hz : gv K 6 = 10
          · rw [if_pos hz]
            by_cases hb : 66 ≤ j ∧ j < 219
            · rw [if_pos hb, if_pos ⟨hz, hb⟩]
            · rw [if_neg hb, if_neg (fun q => hb q.2)]
          · rw [if_neg hz, if_neg (fun q => hz q.1)]
    · refine lp_ok (fun n s h4 => n ≤ 17 ∧ s = nI (17 - n) ∧ eqx [153] h h4 ∧ h4.1 153 = fun j => if 66 + 17 * kd6 K ≤ j ∧ j < 66 + 17 * kd6 K + (17 - n) then k1K K (7 + (j - (66 + 17 * kd6 K))) else k1K K j) ?_ FU 17 _ h2 ⟨by omega, rfl, e2, by rw [q2]; funext j; rw [if_neg (by omega)]⟩ (fu_lt (by omega))
      rintro n rec s h4 ⟨hn, rfl, e4, q4⟩ hrec
      have w6 : h4.1 153 6 = nI (kd6 K) := by rw [q4]; simp only []; rw [if_neg (by omega)]; exact v6
      unfold b_X12_keeps_56
      by_cases h0 : n = 0
      · subst h0
        simp (disch := omega) only [pw_lt, pw_cb, pw_cbx, pw_cbxr, pw_lit, pw_litL, pw_oi, pw_oim, pw_oi8, pw_m, pw_ldI, pw_ldL, pw_ldR, pw_stI, pw_stL, pw_nz, pw_ltI, pw_leI, pw_eqI, pw_eqm, pw_eqm2, pw_ltm, pw_mlt, pw_lem, pw_mle, pw_mm, pw_dec, pw_nar0, pw_nar1, nI_add, pw_sub, pw_mul, pw_and, pw_or, pw_andn, pw_shl1, pw_shl, pw_shr, pw_dv, nI_l, lN_i, Bool.false_eq_true, reduceCtorEq, if_false, if_true, ↓reduceIte, if_pos, if_neg]
        exact hj97 h4 ⟨e4, q4⟩
      · generalize hi : 17 - n = i at *
        have e9 : 17 - (n - 1) = i + 1 := by omega
        have wi : h4.1 153 (7 + i) = k1K K (7 + i) := by rw [q4]; simp only []; rw [if_neg (by omega)]
        simp (disch := omega) only [pw_lt, pw_cb, pw_cbx, pw_cbxr, pw_lit, pw_litL, pw_oi, pw_oim, pw_oi8, pw_m, pw_ldI, pw_ldL, pw_ldR, pw_stI, pw_stL, pw_nz, pw_ltI, pw_leI, pw_eqI, pw_eqm, pw_eqm2, pw_ltm, pw_mlt, pw_lem, pw_mle, pw_mm, pw_dec, pw_nar0, pw_nar1, nI_add, pw_sub, pw_mul, pw_and, pw_or, pw_andn, pw_shl1, pw_shl, pw_shr, pw_dv, nI_l, lN_i, Bool.false_eq_true, reduceCtorEq, if_false, if_true, ↓reduceIte, if_pos, if_neg, r_152_0, w6, wi]
        refine hrec (n - 1) _ _ (by omega) ⟨by omega, by rw [e9], eqx_trans e4 (eqx_pI (by decide)), ?_⟩
        rw [pI_upd, q4, e9]
        funext j
        unfold updK
        dsimp only
        by_cases hj : j = 66 + 17 * kd6 K + i
        · rw [if_pos hj, if_pos (by omega), hj, show 66 + 17 * kd6 K + i - (66 + 17 * kd6 K) = i by omega]
        · rw [if_neg hj]
          by_cases ha : 66 + 17 * kd6 K ≤ j ∧ j < 66 + 17 * kd6 K + i
          · rw [if_pos ha, if_pos (by omega)]
          · rw [if_neg ha, if_neg (by omega)]
  · by_cases hz : gv K 6 = 10
    · rw [hz]
      simp (disch := omega) only [pw_eqI, if_true]
      refine ok_lt (ok_join (fun h4 => eqx [153] h h4 ∧ h4.1 153 = fun j => if 66 ≤ j ∧ j < 219 then K (j + 17) else K j) ?_ (fun j43 hj43 => ?_))
      · rintro h4 ⟨e4, q4⟩
        have w6 : h4.1 153 6 = nI 10 := by rw [q4]; simp only []; rw [if_neg (by omega), hk6, hz]
        simp (disch := omega) only [pw_lt, pw_cb, pw_cbx, pw_cbxr, pw_lit, pw_litL, pw_oi, pw_oim, pw_oi8, pw_m, pw_ldI, pw_ldL, pw_ldR, pw_stI, pw_stL, pw_nz, pw_ltI, pw_leI, pw_eqI, pw_eqm, pw_eqm2, pw_ltm, pw_mlt, pw_lem, pw_mle, pw_mm, pw_dec, pw_nar0, pw_nar1, nI_add, pw_sub, pw_mul, pw_and, pw_or, pw_andn, pw_shl1, pw_shl, pw_shr, pw_dv, nI_l, lN_i, Bool.false_eq_true, reduceCtorEq, if_false, if_true, ↓reduceIte, if_pos, if_neg, w6]
        refine hj54 _ ⟨eqx_trans e4 (eqx_pI (by decide)), ?_⟩
        rw [pI_upd, q4]
        funext j
        unfold updK k1K
        rw [if_pos hz]
      · refine lp_ok (fun n s h4 => n ≤ 153 ∧ s = nI (219 - n) ∧ eqx [153] h h4 ∧ h4.1 153 = fun j => if 66 ≤ j ∧ j < 219 - n then K (j + 17) else K j) ?_ FU 153 _ h ⟨by omega, rfl, eqx_rfl _ _, by rw [r1]; funext j; rw [if_neg (by omega)]⟩ (fu_lt (by omega))
        rintro n rec s h4 ⟨hn, rfl, e4, q4⟩ hrec
        unfold b_X12_keeps_15
        by_cases h0 : n = 0
        · subst h0
          simp (disch := omega) only [pw_lt, pw_cb, pw_cbx, pw_cbxr, pw_lit, pw_litL, pw_oi, pw_oim, pw_oi8, pw_m, pw_ldI, pw_ldL, pw_ldR, pw_stI, pw_stL, pw_nz, pw_ltI, pw_leI, pw_eqI, pw_eqm, pw_eqm2, pw_ltm, pw_mlt, pw_lem, pw_mle, pw_mm, pw_dec, pw_nar0, pw_nar1, nI_add, pw_sub, pw_mul, pw_and, pw_or, pw_andn, pw_shl1, pw_shl, pw_shr, pw_dv, nI_l, lN_i, Bool.false_eq_true, reduceCtorEq, if_false, if_true, ↓reduceIte, if_pos, if_neg]
          exact hj43 h4 ⟨e4, q4⟩
        · generalize hi : 219 - n = i at *
          have e9 : 219 - (n - 1) = i + 1 := by omega
          have wi : h4.1 153 (i + 17) = K (i + 17) := by rw [q4]; simp only []; rw [if_neg (by omega)]
          simp (disch := omega) only [pw_lt, pw_cb, pw_cbx, pw_cbxr, pw_lit, pw_litL, pw_oi, pw_oim, pw_oi8, pw_m, pw_ldI, pw_ldL, pw_ldR, pw_stI, pw_stL, pw_nz, pw_ltI, pw_leI, pw_eqI, pw_eqm, pw_eqm2, pw_ltm, pw_mlt, pw_lem, pw_mle, pw_mm, pw_dec, pw_nar0, pw_nar1, nI_add, pw_sub, pw_mul, pw_and, pw_or, pw_andn, pw_shl1, pw_shl, pw_shr, pw_dv, nI_l, lN_i, Bool.false_eq_true, reduceCtorEq, if_false, if_true, ↓reduceIte, if_pos, if_neg, r_152_0, wi]
          refine hrec (n - 1) _ _ (by omega) ⟨by omega, by rw [e9], eqx_trans e4 (eqx_pI (by decide)), ?_⟩
          rw [pI_upd, q4, e9]
          funext j
          unfold updK
          dsimp only
          by_cases hj : j = i
          · rw [if_pos hj, if_pos (by omega), hj]
          · rw [if_neg hj]
            by_cases ha : 66 ≤ j ∧ j < i
            · rw [if_pos ha, if_pos (by omega)]
            · rw [if_neg ha, if_neg (by omega)]
    · simp (disch := omega) only [pw_eqI, hz, if_false]
      refine hj54 h ⟨eqx_rfl _ _, ?_⟩
      rw [r1]
      funext j
      unfold k1K
      rw [if_neg hz]
/-! the class remembers -/
def BK (b : Nat) (K : Nat → Int32) (h : PH) : Prop := h.1 b 0 = K 7 ∧ (∀ i, i < 10 → h.1 (b + 1) i = K (8 + i)) ∧ (∀ p, p < 6 → h.1 (b + 2) p = K (18 + p)) ∧ h.1 b 3 = K 6 ∧ ∃ e, e < 10 ∧ h.1 b 4 = nI e ∧ ∀ k, k < gv K 6 → ∀ j, j < 17 → h.1 (b + 4 + (e + k) % 10) j = K (66 + 17 * k + j)
def bkS : List Nat := [16, 17, 18, 20, 21, 22, 23, 24, 25, 26, 27, 28, 29]
set_option maxRecDepth 16384 in
theorem bkS_m {i : Nat} (h : i < 10) : 20 + i ∈ bkS := (by decide : ∀ i, i < 10 → 20 + i ∈ bkS) i h
set_option maxRecDepth 16384 in
theorem r_19 {i : Nat} (h : i < 10) : rt 19 i = 20 + i := (by decide : ∀ i, i < 10 → rt 19 i = 20 + i) i h
set_option maxRecDepth 16384 in
theorem c_rememberRow {K : Nat → Int32} {h2 h : PH} {v : Nat} (hv : v < 10) (b0 : h2.1 16 0 = K 7) (b1 : ∀ i, i < 10 → h2.1 17 i = K (8 + i)) (b2 : ∀ p, p < 6 → h2.1 18 p = K (18 + p)) (e : eqx bkS h h2) : ok (stI h2 (20 + v) 17 (nI 0) (h2.1 16 0) (fun (h3 : PH) => cyI h3 17 10 (20 + v) 17 (nI 0) (nI 1) (nI 10) (fun (h4 : PH) => cyI h4 18 6 (20 + v) 17 (nI 0) (nI 11) (nI 6) (fun (h5 : PH) => some ((), h5))))) (fun _ h' => eqx bkS h h' ∧ (∀ j, j < 17 → h'.1 (20 + v) j = K (7 + j)) ∧ ∀ c, c ≠ 20 + v → h'.1 c = h2.1 c) := by
  simp (disch := omega) only [pw_lt, pw_cb, pw_cbx, pw_cbxr, pw_lit, pw_litL, pw_oi, pw_oim, pw_oi8, pw_m, pw_ldI, pw_ldL, pw_ldR, pw_stI, pw_stL, pw_nz, pw_ltI, pw_leI, pw_eqI, pw_eqm, pw_eqm2, pw_ltm, pw_mlt, pw_lem, pw_mle, pw_mm, pw_dec, pw_nar0, pw_nar1, nI_add, pw_sub, pw_mul, pw_and, pw_or, pw_andn, pw_shl1, pw_shl, pw_shr, pw_dv, nI_l, lN_i, Bool.false_eq_true, reduceCtorEq, if_false, if_true, ↓reduceIte, if_pos, if_neg, pw_cyI]
  refine ok_some ⟨eqx_trans e (eqx_trans (eqx_pI (bkS_m hv)) (eqx_trans (eqx_cp (bkS_m hv)) (eqx_cp (bkS_m hv)))), ?_, ?_⟩
  · intro j hj
    by_cases h1 : 11 ≤ j
    · rw [cp_in (by omega) (by omega), cp_o (by omega), pw_pIo (by omega), b2 _ (by omega)]
      congr 1
      omega
    · rw [cp_out (by omega)]
      by_cases h0 : j = 0
      · subst h0
        rw [cp_out (by omega), pw_pIs, b0]
      · rw [cp_in (by omega) (by omega), pw_pIo (by omega), b1 _ (by omega)]
        congr 1
        omega
  · intro c hc
    funext k
    rw [cp_o hc, cp_o hc, pw_pIo (by omega)]
set_option maxRecDepth 16384 in
theorem c_remember {K : Nat → Int32} {h : PH} (H : RK K) (B : BK 16 K h) : ok (f_X0_remember 16 h) (fun _ h' => eqx bkS h h' ∧ BK 16 (keepK K) h') := by
  obtain ⟨B0, B1, B2, B3, e, he, B4, B5⟩ := B
  have hk6 := (rk_e H).2.2.2.2.2.2.1
  have h6l := (rk_b H).2.2.2.2.2.2.2.1
  obtain ⟨H', g6, g7⟩ := keep_RK H
  have hkd := kd6_le H
  have hmod : e + gv K 6 - (e + gv K 6) / 10 * 10 = (e + gv K 6) % 10 := by omega
  have hlo : ∀ j, j < 66 → j ≠ 6 → keepK K j = K j := fun j h1 h2 => keep_lo H h1 h2
  rw [hk6] at B3
  unfold f_X0_remember
  simp (disch := omega) only [pw_lit, pw_nz, r_16_5, B3, B4, nI_add, pw_dv, pw_mul, pw_sub, hmod, pw_ldR, r_19, r_16_1, r_16_2]
  refine ok_join (fun h2 => eqx bkS h h2 ∧ (∀ c, c ≠ 16 → h2.1 c = h.1 c) ∧ h2.1 16 0 = K 7 ∧ h2.1 16 3 = nI (kd6 K + 1) ∧ h2.1 16 4 = nI (if gv K 6 = 10 then (e + 1) % 10 else e)) ?_ (fun j hj => ?_)
  · rintro h2 ⟨e2, o2, q0, q3, q4⟩
    refine ok_mono (c_rememberRow (K := K) (show (e + gv K 6) % 10 < 10 by omega) q0 (by rw [o2 17 (by decide)]; exact B1) (by rw [o2 18 (by decide)]; exact B2) e2) ?_
    rintro r h3 ⟨e3, row, oth⟩
    refine ⟨e3, ?_, ?_, ?_, ?_, ?_⟩
    · rw [oth 16 (by omega), q0, hlo 7 (by omega) (by omega)]
    · intro i hi
      rw [oth 17 (by omega), o2 17 (by decide), hlo (8 + i) (by omega) (by omega)]
      exact B1 i hi
    · intro p hp
      rw [oth 18 (by omega), o2 18 (by decide), hlo (18 + p) (by omega) (by omega)]
      exact B2 p hp
    · rw [oth 16 (by omega), q3]
      unfold keepK
      rw [if_pos rfl]
    · refine ⟨if gv K 6 = 10 then (e + 1) % 10 else e, ?_, ?_, ?_⟩
      · by_cases hz : gv K 6 = 10
        · rw [if_pos hz]; omega
        · rw [if_neg hz]; exact he
      · rw [oth 16 (by omega), q4]
      · intro k hk j hj
        rw [g6] at hk
        show h3.1 (20 + _) j = _
        by_cases hz : gv K 6 = 10
        · rw [if_pos hz]
          have hk6 : kd6 K = 9 := by unfold kd6; rw [if_pos hz]
          by_cases h9 : k = 9
          · subst h9
            have e1 : ((e + 1) % 10 + 9) % 10 = (e + gv K 6) % 10 := by omega
            rw [e1, row j hj]
            unfold keepK
            rw [if_neg (by omega), if_pos (by omega)]
            congr 1
            omega
          · have e1 : ((e + 1) % 10 + k) % 10 = (e + (k + 1)) % 10 := by omega
            rw [e1, oth _ (by omega), o2 _ (by omega)]
            have := B5 (k + 1) (by omega) j hj
            rw [show 16 + 4 + (e + (k + 1)) % 10 = 20 + (e + (k + 1)) % 10 from rfl] at this
            rw [this]
            unfold keepK
            rw [if_neg (by omega), if_neg (by omega), if_pos ⟨hz, by omega, by omega⟩]
            congr 1
            omega
        · rw [if_neg hz]
          have hk6 : kd6 K = gv K 6 := by unfold kd6; rw [if_neg hz]
          by_cases h9 : k = gv K 6
          · subst h9
            rw [row j hj]
            unfold keepK
            rw [if_neg (by omega), if_pos (by omega)]
            congr 1
            omega
          · rw [oth _ (by omega), o2 _ (by omega)]
            have := B5 k (by omega) j hj
            rw [show 16 + 4 + (e + k) % 10 = 20 + (e + k) % 10 from rfl] at this
            rw [this]
            unfold keepK
            rw [if_neg (by omega), if_neg (by omega), if_neg (by omega)]
  · by_cases hz : gv K 6 = 10
    · have hm2 : e + 1 - (e + 1) / 10 * 10 = (e + 1) % 10 := by omega
      rw [hz]
      simp (disch := omega) only [pw_lt, pw_cb, pw_cbx, pw_cbxr, pw_lit, pw_litL, pw_oi, pw_oim, pw_oi8, pw_m, pw_ldI, pw_ldL, pw_ldR, pw_stI, pw_stL, pw_nz, pw_ltI, pw_leI, pw_eqI, pw_eqm, pw_eqm2, pw_ltm, pw_mlt, pw_lem, pw_mle, pw_mm, pw_dec, pw_nar0, pw_nar1, nI_add, pw_sub, pw_mul, pw_and, pw_or, pw_andn, pw_shl1, pw_shl, pw_shr, pw_dv, nI_l, lN_i, Bool.false_eq_true, reduceCtorEq, if_false, if_true, ↓reduceIte, if_pos, if_neg, hm2]
      refine hj _ ⟨eqx_pI (by decide), fun c hc => by funext k; rw [pw_pIo (by omega)], by rw [pw_pIo (by omega)]; exact B0, ?_, ?_⟩
      · rw [pw_pIo (by omega), B3, hz]
        unfold kd6
        rw [if_pos hz]
      · rw [pw_pIs, if_pos hz]
    · simp (disch := omega) only [pw_lt, pw_cb, pw_cbx, pw_cbxr, pw_lit, pw_litL, pw_oi, pw_oim, pw_oi8, pw_m, pw_ldI, pw_ldL, pw_ldR, pw_stI, pw_stL, pw_nz, pw_ltI, pw_leI, pw_eqI, pw_eqm, pw_eqm2, pw_ltm, pw_mlt, pw_lem, pw_mle, pw_mm, pw_dec, pw_nar0, pw_nar1, nI_add, pw_sub, pw_mul, pw_and, pw_or, pw_andn, pw_shl1, pw_shl, pw_shr, pw_dv, nI_l, lN_i, Bool.false_eq_true, reduceCtorEq, if_false, if_true, ↓reduceIte, if_pos, if_neg]
      refine hj _ ⟨eqx_pI (by decide), fun c hc => by funext k; rw [pw_pIo (by omega)], by rw [pw_pIo (by omega)]; exact B0, ?_, ?_⟩
      · rw [pw_pIs]
        unfold kd6
        rw [if_neg hz]
      · rw [pw_pIo (by omega), if_neg hz]
        exact B4
/-! a night goes by -/
def dsum (K : Nat → Int32) (g p : Nat) : Nat → Int32
  | 0 => K (18 + p)
  | n + 1 => if g.testBit n = true ∧ gv K (24 + n) = p then dsum K g p n + K (34 + n) else dsum K g p n
def goN (K : Nat → Int32) (g n j : Nat) : Int32 := if j = 7 then nI (sdf (gv K 7) g) else if 8 ≤ j ∧ j < 18 then (if j - 8 < n ∧ (sdf (gv K 7) g).testBit (j - 8) = true then K j + nI 1 else K j) else if 18 ≤ j ∧ j < 24 then dsum K g (j - 18) n else K j
def goK (K : Nat → Int32) (g : Nat) : Nat → Int32 := goN K g (gv K 5)
set_option maxRecDepth 16384 in
theorem goN_same {K : Nat → Int32} {g n : Nat} : sameK K (goN K g n) := by
  intro j hj
  unfold goN
  rw [if_neg (by omega), if_neg (by omega), if_neg (by omega)]
set_option maxRecDepth 16384 in
theorem goN_hi {K : Nat → Int32} {g n j : Nat} (hj : 24 ≤ j ∨ j < 7) : goN K g n j = K j := by
  unfold goN
  rw [if_neg (by omega), if_neg (by omega), if_neg (by omega)]
set_option maxRecDepth 16384 in
theorem goN_RK {K : Nat → Int32} (H : RK K) (g n : Nat) : RK (goN K g n) ∧ gv (goN K g n) 6 = gv K 6 ∧ gv (goN K g n) 7 = sdf (gv K 7) g := by
  have h6 := (rk_b H).2.2.2.2.2.2.2.1
  have h1 := sdf_le (gv K 7) g
  have h2 := open_lt H
  exact RK_same H goN_same (d := gv K 6) (o := sdf (gv K 7) g) (by rw [goN_hi (by omega)]; exact (rk_e H).2.2.2.2.2.2.1) h6 (by unfold goN; rw [if_pos rfl]) (by omega)
set_option maxRecDepth 16384 in
theorem goN_0 {K : Nat → Int32} {g : Nat} : goN K g 0 = updK K 7 (nI (sdf (gv K 7) g)) := by
  funext j
  unfold goN updK
  by_cases h7 : j = 7
  · rw [if_pos h7, if_pos h7]
  · rw [if_neg h7, if_neg h7]
    by_cases h8 : 8 ≤ j ∧ j < 18
    · rw [if_pos h8, if_neg (by omega)]
    · rw [if_neg h8]
      by_cases h18 : 18 ≤ j ∧ j < 24
      · rw [if_pos h18, dsum]
        congr 1
        omega
      · rw [if_neg h18]
set_option maxRecDepth 16384 in
theorem goN_sA {K : Nat → Int32} {g n : Nat} (hn : n < 10) (hg : g.testBit n = true) (hw : gv K (24 + n) < 6) : goN K g (n + 1) = updK (goN K g n) (18 + gv K (24 + n)) (dsum K g (gv K (24 + n)) n + K (34 + n)) := by
  funext j
  unfold goN updK
  dsimp only
  have hs : (sdf (gv K 7) g).testBit n = false := by rw [sdf_tb, hg, Bool.not_true, Bool.and_false]
  by_cases hj : j = 18 + gv K (24 + n)
  · rw [if_pos hj, if_neg (by omega), if_neg (by omega), if_pos (by omega), dsum, if_pos ⟨hg, by omega⟩, hj, show 18 + gv K (24 + n) - 18 = gv K (24 + n) by omega]
  · rw [if_neg hj]
    by_cases h7 : j = 7
    · rw [if_pos h7, if_pos h7]
    · rw [if_neg h7, if_neg h7]
      by_cases h8 : 8 ≤ j ∧ j < 18
      · rw [if_pos h8, if_pos h8]
        by_cases hc : j - 8 < n ∧ (sdf (gv K 7) g).testBit (j - 8) = true
        · rw [if_pos hc, if_pos ⟨by omega, hc.2⟩]
        · rw [if_neg hc, if_neg ?_]
          rintro ⟨q1, q2⟩
          rcases (show j - 8 < n ∨ j - 8 = n by omega) with z | z
          · exact hc ⟨z, q2⟩
          · rw [z, hs] at q2; cases q2
      · rw [if_neg h8, if_neg h8]
        by_cases h18 : 18 ≤ j ∧ j < 24
        · rw [if_pos h18, if_pos h18, dsum, if_neg (by omega)]
        · rw [if_neg h18, if_neg h18]
set_option maxRecDepth 16384 in
theorem goN_sB {K : Nat → Int32} {g n : Nat} (hn : n < 10) (hg : g.testBit n = false) (ho : (gv K 7).testBit n = true) : goN K g (n + 1) = updK (goN K g n) (8 + n) (K (8 + n) + nI 1) := by
  funext j
  unfold goN updK
  dsimp only
  have hs : (sdf (gv K 7) g).testBit n = true := by rw [sdf_tb, hg, ho]; rfl
  by_cases hj : j = 8 + n
  · rw [if_pos hj, if_neg (by omega), if_pos (by omega), show j - 8 = n by omega, if_pos ⟨by omega, hs⟩, hj]
  · rw [if_neg hj]
    by_cases h7 : j = 7
    · rw [if_pos h7, if_pos h7]
    · rw [if_neg h7, if_neg h7]
      by_cases h8 : 8 ≤ j ∧ j < 18
      · rw [if_pos h8, if_pos h8]
        by_cases hc : j - 8 < n ∧ (sdf (gv K 7) g).testBit (j - 8) = true
        · rw [if_pos hc, if_pos ⟨by omega, hc.2⟩]
        · rw [if_neg hc, if_neg (fun q => hc ⟨by omega, q.2⟩)]
      · rw [if_neg h8, if_neg h8]
        by_cases h18 : 18 ≤ j ∧ j < 24
        · rw [if_pos h18, if_pos h18, dsum, if_neg (by rw [hg]; simp)]
        · rw [if_neg h18, if_neg h18]
set_option maxRecDepth 16384 in
theorem goN_sC {K : Nat → Int32} {g n : Nat} (hn : n < 10) (hg : g.testBit n = false) (ho : (gv K 7).testBit n = false) : goN K g (n + 1) = goN K g n := by
  funext j
  unfold goN
  have hs : (sdf (gv K 7) g).testBit n = false := by rw [sdf_tb, ho, Bool.false_and]
  by_cases h7 : j = 7
  · rw [if_pos h7, if_pos h7]
  · rw [if_neg h7, if_neg h7]
    by_cases h8 : 8 ≤ j ∧ j < 18
    · rw [if_pos h8, if_pos h8]
      by_cases hc : j - 8 < n ∧ (sdf (gv K 7) g).testBit (j - 8) = true
      · rw [if_pos hc, if_pos ⟨by omega, hc.2⟩]
      · rw [if_neg hc, if_neg ?_]
        rintro ⟨q1, q2⟩
        rcases (show j - 8 < n ∨ j - 8 = n by omega) with z | z
        · exact hc ⟨z, q2⟩
        · rw [z, hs] at q2; cases q2
    · rw [if_neg h8, if_neg h8]
      by_cases h18 : 18 ≤ j ∧ j < 24
      · rw [if_pos h18, if_pos h18, dsum, if_neg (by rw [hg]; simp)]
      · rw [if_neg h18, if_neg h18]
set_option maxRecDepth 16384 in
theorem e_isOpen7 {h : PH} {k o : Nat} (h7 : h.1 153 7 = nI o) (ho : o < 2147483648) (hk : k < 32) : f_X12_isOpen 152 (nI k) h = some (bI (o.testBit k), h) := by
  unfold f_X12_isOpen
  simp (disch := omega) only [pw_lt, pw_cb, pw_cbx, pw_cbxr, pw_lit, pw_litL, pw_oi, pw_oim, pw_oi8, pw_m, pw_ldI, pw_ldL, pw_ldR, pw_stI, pw_stL, pw_nz, pw_ltI, pw_leI, pw_eqI, pw_eqm, pw_eqm2, pw_ltm, pw_mlt, pw_lem, pw_mle, pw_mm, pw_dec, pw_nar0, pw_nar1, nI_add, pw_sub, pw_mul, pw_and, pw_or, pw_andn, pw_shl1, pw_shl, pw_shr, pw_dv, nI_l, lN_i, Bool.false_eq_true, reduceCtorEq, if_false, if_true, ↓reduceIte, if_pos, if_neg, r_152_0, h7, e_has, zr_b]
set_option maxRecDepth 16384 in
theorem wt_same {K K' : Nat → Int32} (H : RK K) (h : sameK K K') (s : Nat) : wt K' s = wt K s := by
  have h6 := H.2.2.2.2.2.2.2.1
  unfold wt
  rw [gv_same h (by omega)]
  exact sumTo_congr _ (fun i hi => by rw [gv_same h (by omega)])
set_option maxRecDepth 16384 in
theorem e_goesBy {K T : Nat → Int32} {h : PH} {p : Nat} (R : RX K T h) (hp : p ≤ ga K) : ok (f_X12_goesBy 152 (nI p) h) (fun r h' => r = nI (wG K T p) ∧ eqx [153] h h' ∧ h'.1 153 = goK K (gG K T p)) := by
  obtain ⟨H, r1, r2, r3, r4⟩ := R
  obtain ⟨b0, b1, b2, b3, b4, b5, b6, b7, b8, b9, b10⟩ := rk_b H
  have hW := H.2.2.2.2.2.2.2.2.2.2.2
  have hk5 := (rk_e H).2.2.2.2.2.1
  have hk7 := (rk_e H).2.2.2.2.2.2.2
  have hwp := r4 p hp
  have hgi := e_grantedIn (h := h) (w := wx K p) (by rw [r1]; exact H) (by rw [r1, r2]; exact r3) (by rw [r1]; exact wx_le K p)
  have hgd : gr K T (wx K p) = gG K T p := rfl
  rw [r1, r2, hgd] at hgi
  have hgl := gG_lt (T := T) H p
  have hwd : wt K (gG K T p) = wG K T p := rfl
  generalize gG K T p = g at *
  have hsd := sdf_le (gv K 7) g
  unfold f_X12_goesBy
  simp (disch := omega) only [pw_lit, r_152_19, pw_ldI, hwp, pw_cb, hgi]
  refine ok_lt ?_
  simp (disch := omega) only [pw_lit, pw_ldI, r_152_0, pw_stI, r1, hk7, pw_m, pw_andn]
  refine ok_lt (ok_join (fun h2 => eqx [153] h h2 ∧ h2.1 153 = goK K g) ?_ (fun j hj => ?_))
  · rintro h2 ⟨e2, q2⟩
    obtain ⟨H', -, -⟩ := goN_RK H g (gv K 5)
    have hw := e_weight (h := h2) (s := g) (by rw [q2]; exact H') (by omega)
    rw [q2, show wt (goK K g) g = wt K g from wt_same H goN_same g, hwd] at hw
    simp (disch := omega) only [pw_lt, pw_cb, pw_cbx, pw_cbxr, pw_lit, pw_litL, pw_oi, pw_oim, pw_oi8, pw_m, pw_ldI, pw_ldL, pw_ldR, pw_stI, pw_stL, pw_nz, pw_ltI, pw_leI, pw_eqI, pw_eqm, pw_eqm2, pw_ltm, pw_mlt, pw_lem, pw_mle, pw_mm, pw_dec, pw_nar0, pw_nar1, nI_add, pw_sub, pw_mul, pw_and, pw_or, pw_andn, pw_shl1, pw_shl, pw_shr, pw_dv, nI_l, lN_i, Bool.false_eq_true, reduceCtorEq, if_false, if_true, ↓reduceIte, if_pos, if_neg, hw]
    exact ok_some ⟨rfl, e2, q2⟩
  · refine lp_ok (fun n s h2 => n ≤ gv K 5 ∧ s = nI (gv K 5 - n) ∧ eqx [153] h h2 ∧ h2.1 153 = goN K g (gv K 5 - n)) ?_ FU (gv K 5) _ _ ⟨Nat.le_refl _, by rw [Nat.sub_self], eqx_pI (by decide), by rw [pI_upd, r1, Nat.sub_self, goN_0]⟩ (fu_lt (by omega))
    rintro n rec s h2 ⟨hn, rfl, e2, q2⟩ hrec
    have k5 : h2.1 153 5 = nI (gv K 5) := by rw [q2, goN_hi (by omega)]; exact hk5
    have k7 : h2.1 153 7 = nI (sdf (gv K 7) g) := by rw [q2]; unfold goN; rw [if_pos rfl]
    unfold b_X12_goesBy_26
    by_cases h0 : n = 0
    · subst h0
      simp (disch := omega) only [pw_lt, pw_cb, pw_cbx, pw_cbxr, pw_lit, pw_litL, pw_oi, pw_oim, pw_oi8, pw_m, pw_ldI, pw_ldL, pw_ldR, pw_stI, pw_stL, pw_nz, pw_ltI, pw_leI, pw_eqI, pw_eqm, pw_eqm2, pw_ltm, pw_mlt, pw_lem, pw_mle, pw_mm, pw_dec, pw_nar0, pw_nar1, nI_add, pw_sub, pw_mul, pw_and, pw_or, pw_andn, pw_shl1, pw_shl, pw_shr, pw_dv, nI_l, lN_i, Bool.false_eq_true, reduceCtorEq, if_false, if_true, ↓reduceIte, if_pos, if_neg, r_152_0, k5, Nat.sub_zero, Nat.le_refl]
      exact hj h2 ⟨e2, q2⟩
    · generalize hi : gv K 5 - n = i at *
      have e9 : gv K 5 - (n - 1) = i + 1 := by omega
      have hil : i < gv K 5 := by omega
      obtain ⟨⟨w1, w2⟩, ⟨w3, w4, w5⟩, -⟩ := hW i hil
      have v24 : h2.1 153 (24 + i) = nI (gv K (24 + i)) := by rw [q2, goN_hi (by omega)]; exact w1
      have v34 : h2.1 153 (34 + i) = nI (gv K (34 + i)) := by rw [q2, goN_hi (by omega)]; exact w3
      have hfin : ∀ h3, eqx [153] h h3 → h3.1 153 = goN K g (i + 1) → ok (rec (nI (i + 1)) h3) (fun r h' => r = nI (wG K T p) ∧ eqx [153] h h' ∧ h'.1 153 = goK K g) := fun h3 a b => hrec (n - 1) _ h3 (by omega) ⟨by omega, by rw [e9], a, by rw [e9]; exact b⟩
      rcases tf (g.testBit i) with hg | hg
      · have hop := e_isOpen7 (h := h2) (k := i) k7 (by omega) (by omega)
        rw [sdf_tb, hg, Bool.not_false, Bool.and_true] at hop
        rcases tf ((gv K 7).testBit i) with ho | ho
        · simp (disch := omega) only [pw_lt, pw_cb, pw_cbx, pw_cbxr, pw_lit, pw_litL, pw_oi, pw_oim, pw_oi8, pw_m, pw_ldI, pw_ldL, pw_ldR, pw_stI, pw_stL, pw_nz, pw_ltI, pw_leI, pw_eqI, pw_eqm, pw_eqm2, pw_ltm, pw_mlt, pw_lem, pw_mle, pw_mm, pw_dec, pw_nar0, pw_nar1, nI_add, pw_sub, pw_mul, pw_and, pw_or, pw_andn, pw_shl1, pw_shl, pw_shr, pw_dv, nI_l, lN_i, Bool.false_eq_true, reduceCtorEq, if_false, if_true, ↓reduceIte, if_pos, if_neg, r_152_0, k5, e_has, hg, hop, ho, bI_0']
          exact hfin h2 e2 (by rw [goN_sC (by omega) hg ho]; exact q2)
        · have v8 : h2.1 153 (8 + i) = K (8 + i) := by
            rw [q2]
            unfold goN
            rw [if_neg (by omega), if_pos (by omega), if_neg (by omega)]
          simp (disch := omega) only [pw_lt, pw_cb, pw_cbx, pw_cbxr, pw_lit, pw_litL, pw_oi, pw_oim, pw_oi8, pw_m, pw_ldI, pw_ldL, pw_ldR, pw_stI, pw_stL, pw_nz, pw_ltI, pw_leI, pw_eqI, pw_eqm, pw_eqm2, pw_ltm, pw_mlt, pw_lem, pw_mle, pw_mm, pw_dec, pw_nar0, pw_nar1, nI_add, pw_sub, pw_mul, pw_and, pw_or, pw_andn, pw_shl1, pw_shl, pw_shr, pw_dv, nI_l, lN_i, Bool.false_eq_true, reduceCtorEq, if_false, if_true, ↓reduceIte, if_pos, if_neg, r_152_0, k5, e_has, hg, hop, ho, bI_0', v8]
          exact hfin _ (eqx_trans e2 (eqx_pI (by decide))) (by rw [pI_upd, q2, goN_sB (by omega) hg ho])
      · have v18 : h2.1 153 (18 + gv K (24 + i)) = dsum K g (gv K (24 + i)) i := by
          rw [q2]
          unfold goN
          rw [if_neg (by omega), if_neg (by omega), if_pos (by omega), show 18 + gv K (24 + i) - 18 = gv K (24 + i) by omega]
        have hs : (sdf (gv K 7) g).testBit i = false := by rw [sdf_tb, hg, Bool.not_true, Bool.and_false]
        have hop := e_isOpen7 (h := pI h2 153 (18 + gv K (24 + i)) (dsum K g (gv K (24 + i)) i + nI (gv K (34 + i)))) (k := i) (by rw [pw_pIo (by omega)]; exact k7) (by omega) (by omega)
        rw [hs] at hop
        simp (disch := omega) only [pw_lt, pw_cb, pw_cbx, pw_cbxr, pw_lit, pw_litL, pw_oi, pw_oim, pw_oi8, pw_m, pw_ldI, pw_ldL, pw_ldR, pw_stI, pw_stL, pw_nz, pw_ltI, pw_leI, pw_eqI, pw_eqm, pw_eqm2, pw_ltm, pw_mlt, pw_lem, pw_mle, pw_mm, pw_dec, pw_nar0, pw_nar1, nI_add, pw_sub, pw_mul, pw_and, pw_or, pw_andn, pw_shl1, pw_shl, pw_shr, pw_dv, nI_l, lN_i, Bool.false_eq_true, reduceCtorEq, if_false, if_true, ↓reduceIte, if_pos, if_neg, r_152_0, k5, e_has, hg, v24, v34, v18, hop, bI_0']
        exact hfin _ (eqx_trans e2 (eqx_pI (by decide))) (by rw [pI_upd, q2, goN_sA (by omega) hg w2, w3])
set_option maxRecDepth 16384 in
theorem c_pass {K T : Nat → Int32} {h : PH} {g : Nat} (F : FC K T h) (ho : h.1 16 0 = nI (gv K 7)) (hwe : ∀ i, i < gv K 5 → h.1 5 i = K (34 + i)) (hby : ∀ i, i < gv K 5 → h.1 4 i = K (24 + i)) (B1 : ∀ i, i < 10 → h.1 17 i = K (8 + i)) (B2 : ∀ p, p < 6 → h.1 18 p = K (18 + p)) (hgl : g < 1024) : ok (f_X0_pass 16 (nI g) 3 h) (fun _ h' => eqx bkS h h' ∧ h'.1 16 0 = goK K g 7 ∧ (∀ i, i < 10 → h'.1 17 i = goK K g (8 + i)) ∧ (∀ p, p < 6 → h'.1 18 p = goK K g (18 + p)) ∧ (∀ j, j ≠ 0 → h'.1 16 j = h.1 16 j) ∧ (∀ c, 20 ≤ c → h'.1 c = h.1 c)) := by
  have H := F.1
  obtain ⟨b0, b1, b2, b3, b4, b5, b6, b7, b8, b9, b10⟩ := rk_b H
  have hW := H.2.2.2.2.2.2.2.2.2.2.2
  have s5 : h.1 3 5 = nI (gv K 5) := by rw [F.2.1.2.2.2.2.2.1]; exact (rk_e H).2.2.2.2.2.1
  have hsd := sdf_le (gv K 7) g
  unfold f_X0_pass
  simp (disch := omega) only [pw_lt, pw_cb, pw_cbx, pw_cbxr, pw_lit, pw_litL, pw_oi, pw_oim, pw_oi8, pw_m, pw_ldI, pw_ldL, pw_ldR, pw_stI, pw_stL, pw_nz, pw_ltI, pw_leI, pw_eqI, pw_eqm, pw_eqm2, pw_ltm, pw_mlt, pw_lem, pw_mle, pw_mm, pw_dec, pw_nar0, pw_nar1, nI_add, pw_sub, pw_mul, pw_and, pw_or, pw_andn, pw_shl1, pw_shl, pw_shr, pw_dv, nI_l, lN_i, Bool.false_eq_true, reduceCtorEq, if_false, if_true, ↓reduceIte, if_pos, if_neg, ho]
  refine lp_ok (fun n s h2 => n ≤ gv K 5 ∧ s = nI (gv K 5 - n) ∧ eqx bkS h h2 ∧ h2.1 16 0 = nI (sdf (gv K 7) g) ∧ (∀ i, i < 10 → h2.1 17 i = goN K g (gv K 5 - n) (8 + i)) ∧ (∀ p, p < 6 → h2.1 18 p = goN K g (gv K 5 - n) (18 + p)) ∧ (∀ j, j ≠ 0 → h2.1 16 j = h.1 16 j) ∧ (∀ c, 20 ≤ c → h2.1 c = h.1 c)) ?_ FU (gv K 5) _ _ ⟨Nat.le_refl _, by rw [Nat.sub_self], eqx_pI (by decide), pw_pIs, fun i hi => ?_, fun p hp => ?_, fun j hj => by rw [pw_pIo (by omega)], fun c hc => by funext k; rw [pw_pIo (by omega)]⟩ (fu_lt (by omega))
  · rintro n rec s h2 ⟨hn, rfl, e2, q0, q1, q2, q3, q4⟩ hrec
    have s5' : h2.1 3 5 = nI (gv K 5) := by rw [(e2 3 (by decide)).1]; exact s5
    unfold b_X0_pass_14
    by_cases h0 : n = 0
    · subst h0
      simp (disch := omega) only [pw_lt, pw_cb, pw_cbx, pw_cbxr, pw_lit, pw_litL, pw_oi, pw_oim, pw_oi8, pw_m, pw_ldI, pw_ldL, pw_ldR, pw_stI, pw_stL, pw_nz, pw_ltI, pw_leI, pw_eqI, pw_eqm, pw_eqm2, pw_ltm, pw_mlt, pw_lem, pw_mle, pw_mm, pw_dec, pw_nar0, pw_nar1, nI_add, pw_sub, pw_mul, pw_and, pw_or, pw_andn, pw_shl1, pw_shl, pw_shr, pw_dv, nI_l, lN_i, Bool.false_eq_true, reduceCtorEq, if_false, if_true, ↓reduceIte, if_pos, if_neg, s5', Nat.sub_zero, Nat.le_refl]
      exact ok_some ⟨e2, by rw [q0]; unfold goK goN; rw [if_pos rfl], q1, q2, q3, q4⟩
    · generalize hi : gv K 5 - n = i at *
      have e9 : gv K 5 - (n - 1) = i + 1 := by omega
      have hil : i < gv K 5 := by omega
      obtain ⟨⟨w1, w2⟩, ⟨w3, w4, w5⟩, -⟩ := hW i hil
      have vby : h2.1 4 i = nI (gv K (24 + i)) := by rw [(e2 4 (by decide)).1, hby i hil]; exact w1
      have vwe : h2.1 5 i = nI (gv K (34 + i)) := by rw [(e2 5 (by decide)).1, hwe i hil]; exact w3
      have hfin : ∀ h3, eqx bkS h h3 → h3.1 16 0 = nI (sdf (gv K 7) g) → (∀ i', i' < 10 → h3.1 17 i' = goN K g (i + 1) (8 + i')) → (∀ p, p < 6 → h3.1 18 p = goN K g (i + 1) (18 + p)) → (∀ j, j ≠ 0 → h3.1 16 j = h.1 16 j) → (∀ c, 20 ≤ c → h3.1 c = h.1 c) → ok (rec (nI (i + 1)) h3) (fun _ h' => eqx bkS h h' ∧ h'.1 16 0 = goK K g 7 ∧ (∀ i, i < 10 → h'.1 17 i = goK K g (8 + i)) ∧ (∀ p, p < 6 → h'.1 18 p = goK K g (18 + p)) ∧ (∀ j, j ≠ 0 → h'.1 16 j = h.1 16 j) ∧ (∀ c, 20 ≤ c → h'.1 c = h.1 c)) := fun h3 a b c d f g2 => hrec (n - 1) _ h3 (by omega) ⟨by omega, by rw [e9], a, b, by rw [e9]; exact c, by rw [e9]; exact d, f, g2⟩
      rcases tf (g.testBit i) with hg | hg
      · rcases tf ((gv K 7).testBit i) with ho2 | ho2
        · have hs : (sdf (gv K 7) g).testBit i = false := by rw [sdf_tb, ho2, Bool.false_and]
          simp (disch := omega) only [pw_lt, pw_cb, pw_cbx, pw_cbxr, pw_lit, pw_litL, pw_oi, pw_oim, pw_oi8, pw_m, pw_ldI, pw_ldL, pw_ldR, pw_stI, pw_stL, pw_nz, pw_ltI, pw_leI, pw_eqI, pw_eqm, pw_eqm2, pw_ltm, pw_mlt, pw_lem, pw_mle, pw_mm, pw_dec, pw_nar0, pw_nar1, nI_add, pw_sub, pw_mul, pw_and, pw_or, pw_andn, pw_shl1, pw_shl, pw_shr, pw_dv, nI_l, lN_i, Bool.false_eq_true, reduceCtorEq, if_false, if_true, ↓reduceIte, if_pos, if_neg, s5', pw_tb, hg, q0, hs]
          exact hfin h2 e2 q0 (by rw [goN_sC (by omega) hg ho2]; exact q1) (by rw [goN_sC (by omega) hg ho2]; exact q2) q3 q4
        · have hs : (sdf (gv K 7) g).testBit i = true := by rw [sdf_tb, hg, ho2]; rfl
          have v8 : h2.1 17 i = K (8 + i) := by
            rw [q1 i (by omega)]
            unfold goN
            rw [if_neg (by omega), if_pos (by omega), if_neg (by omega)]
          simp (disch := omega) only [pw_lt, pw_cb, pw_cbx, pw_cbxr, pw_lit, pw_litL, pw_oi, pw_oim, pw_oi8, pw_m, pw_ldI, pw_ldL, pw_ldR, pw_stI, pw_stL, pw_nz, pw_ltI, pw_leI, pw_eqI, pw_eqm, pw_eqm2, pw_ltm, pw_mlt, pw_lem, pw_mle, pw_mm, pw_dec, pw_nar0, pw_nar1, nI_add, pw_sub, pw_mul, pw_and, pw_or, pw_andn, pw_shl1, pw_shl, pw_shr, pw_dv, nI_l, lN_i, Bool.false_eq_true, reduceCtorEq, if_false, if_true, ↓reduceIte, if_pos, if_neg, s5', pw_tb, hg, q0, hs, r_16_1, v8]
          refine hfin _ (eqx_trans e2 (eqx_pI (by decide))) (by rw [pw_pIo (by omega)]; exact q0) (fun k hk => ?_) (fun p hp => ?_) (fun j hj => by rw [pw_pIo (by omega)]; exact q3 j hj) (fun c hc => by funext k; rw [pw_pIo (by omega), q4 c hc])
          · rw [goN_sB (by omega) hg ho2]
            unfold updK
            by_cases ek : k = i
            · subst ek
              rw [pw_pIs, if_pos rfl]
            · rw [pw_pIo (by omega), if_neg (by omega)]
              exact q1 k hk
          · rw [goN_sB (by omega) hg ho2, pw_pIo (by omega)]
            unfold updK
            rw [if_neg (by omega)]
            exact q2 p hp
      · have v18 : h2.1 18 (gv K (24 + i)) = dsum K g (gv K (24 + i)) i := by
          rw [q2 _ w2]
          unfold goN
          rw [if_neg (by omega), if_neg (by omega), if_pos (by omega), show 18 + gv K (24 + i) - 18 = gv K (24 + i) by omega]
        simp (disch := omega) only [pw_lt, pw_cb, pw_cbx, pw_cbxr, pw_lit, pw_litL, pw_oi, pw_oim, pw_oi8, pw_m, pw_ldI, pw_ldL, pw_ldR, pw_stI, pw_stL, pw_nz, pw_ltI, pw_leI, pw_eqI, pw_eqm, pw_eqm2, pw_ltm, pw_mlt, pw_lem, pw_mle, pw_mm, pw_dec, pw_nar0, pw_nar1, nI_add, pw_sub, pw_mul, pw_and, pw_or, pw_andn, pw_shl1, pw_shl, pw_shr, pw_dv, nI_l, lN_i, Bool.false_eq_true, reduceCtorEq, if_false, if_true, ↓reduceIte, if_pos, if_neg, s5', pw_tb, hg, r_3_12, r_3_13, r_16_2, vby, vwe, v18]
        refine hfin _ (eqx_trans e2 (eqx_pI (by decide))) (by rw [pw_pIo (by omega)]; exact q0) (fun k hk => ?_) (fun p hp => ?_) (fun j hj => by rw [pw_pIo (by omega)]; exact q3 j hj) (fun c hc => by funext k; rw [pw_pIo (by omega), q4 c hc])
        · rw [goN_sA (by omega) hg w2, pw_pIo (by omega)]
          unfold updK
          rw [if_neg (by omega)]
          exact q1 k hk
        · rw [goN_sA (by omega) hg w2]
          unfold updK
          by_cases ek : p = gv K (24 + i)
          · subst ek
            rw [pw_pIs, if_pos rfl, w3]
          · rw [pw_pIo (by omega), if_neg (by omega)]
            exact q2 p hp
  · rw [pw_pIo (by omega), Nat.sub_self, goN_0]
    unfold updK
    rw [if_neg (by omega)]
    exact B1 i hi
  · rw [pw_pIo (by omega), Nat.sub_self, goN_0]
    unfold updK
    rw [if_neg (by omega)]
    exact B2 p hp

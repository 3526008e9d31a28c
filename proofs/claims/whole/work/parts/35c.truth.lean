/-! ===== truth worked out, by the reference and by the class ===== -/
def stp (K : Nat → Int32) (k : Nat) : Nat := gv K (236 + k)
def srt (K : Nat → Int32) (i : Nat) : Nat := gv K (54 + i)
def rmS (K : Nat → Int32) : Nat → Nat → List Nat
  | _, 0 => []
  | k, m + 1 => stp K k :: rmS K (k + 1) m
def KW (K : Nat → Int32) : Prop := K 65 = nI (gv K 65) ∧ gv K 65 ≤ 900 ∧ srt K 0 = 0 ∧ (∀ i, i ≤ gv K 5 → K (54 + i) = nI (srt K i) ∧ srt K i ≤ gv K 65) ∧ (∀ i, i < gv K 5 → srt K i ≤ srt K (i + 1)) ∧ (∀ k, k < gv K 65 → K (236 + k) = nI (stp K k) ∧ okS K (stp K k)) ∧ ∀ i, i < gv K 5 → tyr (rmS K (srt K i) (srt K (i + 1) - srt K i)) [] = some [true]
def evv (K : Nat → Int32) (w i : Nat) : List Int := evr K w (rmS K (srt K i) (srt K (i + 1) - srt K i)) []
def tvR (K : Nat → Int32) (w i : Nat) : Bool := decide (evv K w i = [1])
def EV (K T : Nat → Int32) : Prop := ∀ i, i < gv K 5 → ∀ w, w ≤ ga K → T (4096 * i + w) = bI (tvR K w i)
set_option maxRecDepth 16384 in
theorem bI_dec (b : Bool) : decide (bI b = 1) = b := by cases b <;> rfl
set_option maxRecDepth 16384 in
theorem EV.tt {K T : Nat → Int32} (E : EV K T) : TT K T := fun i hi w hw => by rw [E i hi w hw, bI_dec]
set_option maxRecDepth 16384 in
theorem okS_lt {K : Nat → Int32} (H : RK K) {s : Nat} (h : okS K s) : s < 2000 := by
  have := (rk_b H)
  rcases h with q | q
  · omega
  · unfold okA at q; omega
set_option maxRecDepth 16384 in
theorem tyS_nil {ts : List Bool} (h : tyS ts []) : ts = [] := by
  cases ts with
  | nil => rfl
  | cons a b => exact absurd h (by intro q; exact q)
set_option maxRecDepth 16384 in
theorem tyS_one {vs : List Int} (h : tyS [true] vs) : ∃ v, vs = [v] ∧ V01 v := by
  match vs, h with
  | [v], h => exact ⟨v, rfl, h.1⟩
set_option maxRecDepth 16384 in
theorem iI_1 {v : Int} (h : V01 v) : iI v = bI (decide ([v] = [1])) := by
  rcases h with rfl | rfl
  · exact ii0
  · exact ii1
set_option maxRecDepth 16384 in
theorem iI_not {x : Int} (h : V01 x) : nI 1 - iI x = iI (1 - x) := by
  rcases h with rfl | rfl <;> decide +kernel
set_option maxRecDepth 16384 in
theorem e_worksOut {K : Nat → Int32} {h : PH} {i w : Nat} (H : RK K) (W : KW K) (r1 : h.1 153 = K) (hi : i < gv K 5) (hw : w < 4096) : ok (f_X12_worksOut 152 (nI i) (nI w) h) (fun r h' => r = bI (tvR K w i) ∧ eqx [161] h h') := by
  obtain ⟨w65, w900, w0, wst, wmo, wsp, wty⟩ := W
  obtain ⟨b0, b1, b2, b3, b4, b5, b6, b7, b8, b9, b10⟩ := rk_b H
  obtain ⟨st1, st2⟩ := wst i (by omega)
  obtain ⟨en1, en2⟩ := wst (i + 1) (by omega)
  have hmo := wmo i hi
  have hty := wty i hi
  have e1 : 54 + i + 1 = 54 + (i + 1) := by omega
  unfold f_X12_worksOut
  simp (disch := omega) only [pw_lit, r_152_0, nI_add, pw_ldI, r1, st1]
  refine ok_lt (ok_lt (ok_join (fun h1 => eqx [161] h h1 ∧ h1.1 161 0 = bI (tvR K w i)) ?_ (fun j hj => ?_)))
  · rintro h1 ⟨e2, q⟩
    rcases tf (tvR K w i) with hb | hb
    · rw [hb] at q
      simp (disch := omega) only [pw_lt, pw_cb, pw_cbx, pw_cbxr, pw_lit, pw_litL, pw_oi, pw_oim, pw_oi8, pw_m, pw_ldI, pw_ldL, pw_ldR, pw_stI, pw_stL, pw_nz, pw_ltI, pw_leI, pw_eqI, pw_eqm, pw_eqm2, pw_ltm, pw_mlt, pw_lem, pw_mle, pw_mm, pw_dec, pw_nar0, pw_nar1, nI_add, pw_sub, pw_mul, pw_and, pw_or, pw_andn, pw_shl1, pw_shl, pw_shr, pw_dv, nI_l, lN_i, Bool.false_eq_true, reduceCtorEq, if_false, if_true, ↓reduceIte, if_pos, if_neg, r_152_20, q, bI_1', zr_0]
      exact ok_some ⟨by rw [hb], e2⟩
    · rw [hb] at q
      simp (disch := omega) only [pw_lt, pw_cb, pw_cbx, pw_cbxr, pw_lit, pw_litL, pw_oi, pw_oim, pw_oi8, pw_m, pw_ldI, pw_ldL, pw_ldR, pw_stI, pw_stL, pw_nz, pw_ltI, pw_leI, pw_eqI, pw_eqm, pw_eqm2, pw_ltm, pw_mlt, pw_lem, pw_mle, pw_mm, pw_dec, pw_nar0, pw_nar1, nI_add, pw_sub, pw_mul, pw_and, pw_or, pw_andn, pw_shl1, pw_shl, pw_shr, pw_dv, nI_l, lN_i, Bool.false_eq_true, reduceCtorEq, if_false, if_true, ↓reduceIte, if_pos, if_neg, r_152_20, q, bI_1', zr_1]
      exact ok_some ⟨by rw [hb], e2⟩
  · refine lp_ok (fun n s h1 => eqx [161] h h1 ∧ ∃ k ts vs, k + n = srt K (i + 1) ∧ s = (nI vs.length, nI k) ∧ vs.length ≤ 64 ∧ SA vs 161 h1 ∧ tyS ts vs ∧ tyr (rmS K k n) ts = some [true] ∧ evr K w (rmS K k n) vs = evv K w i) ?_ FU (srt K (i + 1) - srt K i) _ h ⟨eqx_rfl _ _, srt K i, [], [], by omega, rfl, by simp, fun j hj => absurd hj (by simp), trivial, hty, rfl⟩ (fu_lt (by omega))
    rintro n rec s h1 ⟨e2, k, ts, vs, hk, rfl, hvl, S, tS, hT, hE⟩ hrec
    have q153 : h1.1 153 = K := by rw [(e2 153 (by decide)).1, r1]
    unfold b_X12_worksOut_13
    cases n with
    | zero =>
      have hTs : ts = [true] := by
        have : some ts = some [true] := hT
        exact Option.some.inj this
      subst hTs
      obtain ⟨v, rfl, hv⟩ := tyS_one tS
      have hE : [v] = evv K w i := hE
      simp (disch := omega) only [pw_lt, pw_cb, pw_cbx, pw_cbxr, pw_lit, pw_litL, pw_oi, pw_oim, pw_oi8, pw_m, pw_ldI, pw_ldL, pw_ldR, pw_stI, pw_stL, pw_nz, pw_ltI, pw_leI, pw_eqI, pw_eqm, pw_eqm2, pw_ltm, pw_mlt, pw_lem, pw_mle, pw_mm, pw_dec, pw_nar0, pw_nar1, nI_add, pw_sub, pw_mul, pw_and, pw_or, pw_andn, pw_shl1, pw_shl, pw_shr, pw_dv, nI_l, lN_i, Bool.false_eq_true, reduceCtorEq, if_false, if_true, ↓reduceIte, if_pos, if_neg, r_152_0, q153, e1, en1]
      refine hj h1 ⟨e2, ?_⟩
      have := S 0 (by simp)
      have this : h1.1 161 0 = iI v := this
      rw [this, iI_1 hv]
      unfold tvR
      rw [← hE]
    | succ n =>
      obtain ⟨sp1, sp2⟩ := wsp k (by omega)
      have hsl := okS_lt H sp2
      have hT : (match ty1 (stp K k) ts with | none => none | some st' => tyr (rmS K (k + 1) n) st') = some [true] := hT
      cases ht1 : ty1 (stp K k) ts with
      | none => rw [ht1] at hT; cases hT
      | some ts' =>
        rw [ht1] at hT
        obtain ⟨tS', hc⟩ := ty1_cases H hw sp2 ht1 tS
        have hE : evr K w (rmS K (k + 1) n) (ev1 K w (stp K k) vs) = evv K w i := hE
        have hnx : ∀ h2 vs', eqx [161] h1 h2 → vs' = ev1 K w (stp K k) vs → vs'.length ≤ 64 → SA vs' 161 h2 → ok (rec (nI vs'.length, nI (k + 1)) h2) _ := fun h2 vs' a b c d => hrec n _ h2 (by omega) ⟨eqx_trans e2 a, k + 1, ts', vs', by omega, rfl, c, d, by rw [b]; exact tS', hT, by rw [b]; exact hE⟩
        rcases hc with ⟨c1, c2, c3, c4⟩ | ⟨c1, x, r, rfl, c2, c3⟩ | ⟨c1, c1', y, x, r, rfl, c2, c3, c4, c5⟩
        · have hpl := e_plain (h := h1) H q153 hw c2
          simp (disch := omega) only [pw_lt, pw_cb, pw_cbx, pw_cbxr, pw_lit, pw_litL, pw_oi, pw_oim, pw_oi8, pw_m, pw_ldI, pw_ldL, pw_ldR, pw_stI, pw_stL, pw_nz, pw_ltI, pw_leI, pw_eqI, pw_eqm, pw_eqm2, pw_ltm, pw_mlt, pw_lem, pw_mle, pw_mm, pw_dec, pw_nar0, pw_nar1, nI_add, pw_sub, pw_mul, pw_and, pw_or, pw_andn, pw_shl1, pw_shl, pw_shr, pw_dv, nI_l, lN_i, Bool.false_eq_true, reduceCtorEq, if_false, if_true, ↓reduceIte, if_pos, if_neg, r_152_0, r_152_20, q153, e1, en1, sp1, hpl]
          exact hnx _ ((pl K w (stp K k) : Int) :: vs) (eqx_pI (by decide)) c4.symm (by simp; omega) (by rw [← iI_nat]; exact SA_push S)
        · have htop := SA_top S
          simp only [List.length_cons] at hvl ⊢
          have e4 : r.length + 1 - 1 = r.length := by omega
          simp (disch := omega) only [pw_lt, pw_cb, pw_cbx, pw_cbxr, pw_lit, pw_litL, pw_oi, pw_oim, pw_oi8, pw_m, pw_ldI, pw_ldL, pw_ldR, pw_stI, pw_stL, pw_nz, pw_ltI, pw_leI, pw_eqI, pw_eqm, pw_eqm2, pw_ltm, pw_mlt, pw_lem, pw_mle, pw_mm, pw_dec, pw_nar0, pw_nar1, nI_add, pw_sub, pw_mul, pw_and, pw_or, pw_andn, pw_shl1, pw_shl, pw_shr, pw_dv, nI_l, lN_i, Bool.false_eq_true, reduceCtorEq, if_false, if_true, ↓reduceIte, if_pos, if_neg, r_152_0, r_152_20, q153, e1, en1, sp1, c1, e4, htop, iI_not c2]
          exact hnx _ ((1 - x) :: r) (eqx_pI (by decide)) c3.symm (by simp; omega) (SA_push (SA_tail S))
        · have htop := SA_top S
          have htop2 := SA_top (SA_tail S)
          simp only [List.length_cons] at hvl htop ⊢
          have e4 : r.length + 1 + 1 - 1 = r.length + 1 := by omega
          have e5 : r.length + 1 - 1 = r.length := by omega
          have hdn := e_done (h := h1) c1 c1' c2 c3
          have hx : (iI x).toInt64 = iL x := iI_l (by have := c2.1; omega) (by have := c2.2; omega)
          have hy : (iI y).toInt64 = iL y := iI_l (by have := c3.1; omega) (by have := c3.2; omega)
          simp (disch := omega) only [pw_lt, pw_cb, pw_cbx, pw_cbxr, pw_lit, pw_litL, pw_oi, pw_oim, pw_oi8, pw_m, pw_ldI, pw_ldL, pw_ldR, pw_stI, pw_stL, pw_nz, pw_ltI, pw_leI, pw_eqI, pw_eqm, pw_eqm2, pw_ltm, pw_mlt, pw_lem, pw_mle, pw_mm, pw_dec, pw_nar0, pw_nar1, nI_add, pw_sub, pw_mul, pw_and, pw_or, pw_andn, pw_shl1, pw_shl, pw_shr, pw_dv, nI_l, lN_i, Bool.false_eq_true, reduceCtorEq, if_false, if_true, ↓reduceIte, if_pos, if_neg, r_152_0, r_152_20, q153, e1, en1, sp1, e4, e5, htop, htop2, hx, hy, hdn]
          exact hnx _ (bop (stp K k) x y :: r) (eqx_pI (by decide)) c5.symm (by simp; omega) (SA_push (SA_tail (SA_tail S)))
/-! the class -/
def enc (K : Nat → Int32) (s : Nat) : Nat := if 1000 ≤ s then 11 * 4096 + (s - 1000) else if s = 400 then 12 * 4096 + ga K else if 300 ≤ s then 12 * 4096 + dayM K (s - 300) else if 200 ≤ s then 12 * 4096 + parM K (s - 200) else if 100 ≤ s then 12 * 4096 + 2 ^ (s - 100) else if s = 18 then 4 * 4096 else opc s * 4096
def CD (F C K : Nat → Int32) : Prop := (∀ i, i ≤ gv K 5 → 0 < gv K 5 → F i = K (54 + i)) ∧ ∀ k, k < gv K 65 → C k = nI (enc K (stp K k))
set_option maxRecDepth 16384 in
theorem encA {K : Nat → Int32} (H : RK K) {w s : Nat} (hw : w ≤ ga K) (hs : okA K s) : ∃ o a, enc K s = o * 4096 + a ∧ a < 4096 ∧ (o = 11 ∧ a = pl K w s ∨ o = 12 ∧ pc (w &&& a) = pl K w s) := by
  have hb := rk_b H
  have h2 : 2 ^ gc K ≤ 2 ^ 12 := Nat.pow_le_pow_right (by decide) hb.2.2.2.1
  have e12 : 2 ^ 12 = 4096 := rfl
  have hd : ∀ d, dayM K d < 4096 := fun d => by have := orTo_lt (fun c => decide (c % gv K 2 = d)) (gc K); unfold dayM; omega
  have hp : ∀ p, parM K p < 4096 := fun p => by have := orTo_lt (fun c => decide (c / gv K 2 = p)) (gc K); unfold parM; omega
  unfold okA at hs
  unfold enc pl
  by_cases c1 : 1000 ≤ s
  · rw [if_pos c1, if_pos c1]
    exact ⟨11, s - 1000, rfl, by omega, Or.inl ⟨rfl, rfl⟩⟩
  · rw [if_neg c1, if_neg c1]
    by_cases c2 : s = 400
    · rw [if_pos c2, if_pos c2]
      refine ⟨12, ga K, rfl, hb.2.2.2.2.2.2.2.2.2.1, Or.inr ⟨rfl, ?_⟩⟩
      have : w &&& ga K = w := by
        unfold ga
        rw [Nat.and_two_pow_sub_one_eq_mod]
        exact Nat.mod_eq_of_lt (by have := hb.2.2.2.2.2.2.2.2.2.2; omega)
      rw [this]
    · rw [if_neg c2, if_neg c2]
      by_cases c3 : 300 ≤ s
      · rw [if_pos c3, if_pos c3]
        exact ⟨12, dayM K (s - 300), rfl, hd _, Or.inr ⟨rfl, pc_dayM H (by omega)⟩⟩
      · rw [if_neg c3, if_neg c3]
        by_cases c4 : 200 ≤ s
        · rw [if_pos c4, if_pos c4]
          exact ⟨12, parM K (s - 200), rfl, hp _, Or.inr ⟨rfl, pc_parM H (by omega)⟩⟩
        · rw [if_neg c4, if_neg c4, if_pos (by omega)]
          have hc : s - 100 < 12 := by omega
          have hpl : 2 ^ (s - 100) < 2 ^ 12 := Nat.pow_lt_pow_right (by decide) hc
          refine ⟨12, 2 ^ (s - 100), rfl, by omega, Or.inr ⟨rfl, ?_⟩⟩
          generalize s - 100 = c at *
          have hp1 : pc (2 ^ c) = 1 := (by decide : ∀ c, c < 12 → pc (2 ^ c) = 1) c hc
          by_cases hb2 : w.testBit c = true
          · have : w &&& 2 ^ c = 2 ^ c := by
              apply Nat.eq_of_testBit_eq
              intro i
              rw [Nat.testBit_and, Nat.testBit_two_pow]
              by_cases e : c = i
              · subst e; rw [hb2]; rfl
              · simp [e]
            rw [this, hp1, if_pos hb2]
          · have hb3 : w.testBit c = false := by simpa using hb2
            have : w &&& 2 ^ c = 0 := by
              apply Nat.eq_of_testBit_eq
              intro i
              rw [Nat.testBit_and, Nat.testBit_two_pow, Nat.zero_testBit]
              by_cases e : c = i
              · subst e; rw [hb3]; rfl
              · simp [e]
            rw [this, if_neg hb2]
            rfl
set_option maxRecDepth 16384 in
theorem opc_le {s : Nat} (h1 : 10 ≤ s) (h2 : s ≤ 17) : 2 ≤ opc s ∧ opc s ≤ 10 ∧ opc s ≠ 4 := by
  rcases (show s = 10 ∨ s = 11 ∨ s = 12 ∨ s = 13 ∨ s = 14 ∨ s = 15 ∨ s = 16 ∨ s = 17 by omega) with rfl | rfl | rfl | rfl | rfl | rfl | rfl | rfl <;> decide
set_option maxRecDepth 16384 in
theorem sh12 (o a : Nat) (ha : a < 4096) : (o * 4096 + a) >>> 12 = o := by
  rw [Nat.shiftRight_eq_div_pow]
  show (o * 4096 + a) / 4096 = o
  omega
set_option maxRecDepth 16384 in
theorem an12 (o a : Nat) (ha : a < 4096) : (o * 4096 + a) &&& 4095 = a := by
  have := Nat.and_two_pow_sub_one_eq_mod (o * 4096 + a) 12
  have e : (2 ^ 12 - 1 : Nat) = 4095 := rfl
  have e2 : (2 ^ 12 : Nat) = 4096 := rfl
  rw [e, e2] at this
  rw [this]
  omega
set_option maxRecDepth 16384 in
theorem c_truthOf {K : Nat → Int32} {h : PH} {i w : Nat} (H : RK K) (W : KW K) (D : CD (h.1 6) (h.1 7) K) (hi : i < gv K 5) (hw : w ≤ ga K) : ok (f_X3_truthOf 30 (nI i) (nI w) h) (fun r h' => r = bI (tvR K w i) ∧ eqx [32] h h') := by
  obtain ⟨w65, w900, w0, wst, wmo, wsp, wty⟩ := W
  obtain ⟨b0, b1, b2, b3, b4, b5, b6, b7, b8, b9, b10⟩ := rk_b H
  obtain ⟨D1, D2⟩ := D
  obtain ⟨st1, st2⟩ := wst i (by omega)
  obtain ⟨en1, en2⟩ := wst (i + 1) (by omega)
  have f1 : h.1 6 i = nI (srt K i) := by rw [D1 i (by omega) (by omega)]; exact st1
  have f2 : h.1 6 (i + 1) = nI (srt K (i + 1)) := by rw [D1 (i + 1) (by omega) (by omega)]; exact en1
  have hmo := wmo i hi
  have hty := wty i hi
  unfold f_X3_truthOf
  simp (disch := omega) only [pw_lit, r_30_0, r_3_14, nI_add, pw_ldI, f1]
  refine ok_lt (ok_lt ?_)
  refine lp_ok (fun n s h1 => eqx [32] h h1 ∧ ∃ k ts vs, k + n = srt K (i + 1) ∧ s = (nI vs.length, nI k) ∧ vs.length ≤ 64 ∧ SA vs 32 h1 ∧ tyS ts vs ∧ tyr (rmS K k n) ts = some [true] ∧ evr K w (rmS K k n) vs = evv K w i) ?_ FU (srt K (i + 1) - srt K i) _ h ⟨eqx_rfl _ _, srt K i, [], [], by omega, rfl, by simp, fun j hj => absurd hj (by simp), trivial, hty, rfl⟩ (fu_lt (by omega))
  rintro n rec s h1 ⟨e2, k, ts, vs, hk, rfl, hvl, S, tS, hT, hE⟩ hrec
  have g2 : h1.1 6 (i + 1) = nI (srt K (i + 1)) := by rw [(e2 6 (by decide)).1]; exact f2
  unfold b_X3_truthOf_13
  cases n with
  | zero =>
    have hTs : ts = [true] := by
      have : some ts = some [true] := hT
      exact Option.some.inj this
    subst hTs
    obtain ⟨v, rfl, hv⟩ := tyS_one tS
    have hE : [v] = evv K w i := hE
    have := S 0 (by simp)
    have this : h1.1 32 0 = iI v := this
    simp (disch := omega) only [pw_lt, pw_cb, pw_cbx, pw_cbxr, pw_lit, pw_litL, pw_oi, pw_oim, pw_oi8, pw_m, pw_ldI, pw_ldL, pw_ldR, pw_stI, pw_stL, pw_nz, pw_ltI, pw_leI, pw_eqI, pw_eqm, pw_eqm2, pw_ltm, pw_mlt, pw_lem, pw_mle, pw_mm, pw_dec, pw_nar0, pw_nar1, nI_add, pw_sub, pw_mul, pw_and, pw_or, pw_andn, pw_shl1, pw_shl, pw_shr, pw_dv, nI_l, lN_i, Bool.false_eq_true, reduceCtorEq, if_false, if_true, ↓reduceIte, if_pos, if_neg, r_30_0, r_3_14, r_30_2, g2, this]
    refine ok_some ⟨?_, e2⟩
    rw [iI_1 hv]
    unfold tvR
    rw [← hE]
  | succ n =>
    obtain ⟨sp1, sp2⟩ := wsp k (by omega)
    have hsl := okS_lt H sp2
    have dk : h1.1 7 k = nI (enc K (stp K k)) := by rw [(e2 7 (by decide)).1]; exact D2 k (by omega)
    have hT : (match ty1 (stp K k) ts with | none => none | some st' => tyr (rmS K (k + 1) n) st') = some [true] := hT
    cases ht1 : ty1 (stp K k) ts with
    | none => rw [ht1] at hT; cases hT
    | some ts' =>
      rw [ht1] at hT
      obtain ⟨tS', hc⟩ := ty1_cases (w := w) H (by omega) sp2 ht1 tS
      have hE : evr K w (rmS K (k + 1) n) (ev1 K w (stp K k) vs) = evv K w i := hE
      have hnx : ∀ h2 vs', eqx [32] h1 h2 → vs' = ev1 K w (stp K k) vs → vs'.length ≤ 64 → SA vs' 32 h2 → ok (rec (nI vs'.length, nI (k + 1)) h2) (fun r h' => r = bI (tvR K w i) ∧ eqx [32] h h') := fun h2 vs' a b c d => hrec n _ h2 (by omega) ⟨eqx_trans e2 a, k + 1, ts', vs', by omega, rfl, c, d, by rw [b]; exact tS', hT, by rw [b]; exact hE⟩
      rcases hc with ⟨c1, c2, c3, c4⟩ | ⟨c1, x, r, rfl, c2, c3⟩ | ⟨c1, c1', y, x, r, rfl, c2, c3, c4, c5⟩
      · obtain ⟨o, a, ee, ha, hoa⟩ := encA H hw c2
        rw [ee] at dk
        have hol : o ≤ 12 := by omega
        have s1 := sh12 o a ha
        have s2 := an12 o a ha
        have hwa : w &&& a ≤ w := Nat.and_le_left
        have fin : ok (rec (nI (vs.length + 1), nI (k + 1)) (pI h1 32 vs.length (nI (pl K w (stp K k))))) (fun r h' => r = bI (tvR K w i) ∧ eqx [32] h h') := hnx _ ((pl K w (stp K k) : Int) :: vs) (eqx_pI (by decide)) c4.symm (by simp; omega) (by rw [← iI_nat]; exact SA_push S)
        rcases hoa with ⟨rfl, rfl⟩ | ⟨rfl, hp⟩
        · simp (disch := omega) only [pw_lt, pw_cb, pw_cbx, pw_cbxr, pw_lit, pw_litL, pw_oi, pw_oim, pw_oi8, pw_m, pw_ldI, pw_ldL, pw_ldR, pw_stI, pw_stL, pw_nz, pw_ltI, pw_leI, pw_eqI, pw_eqm, pw_eqm2, pw_ltm, pw_mlt, pw_lem, pw_mle, pw_mm, pw_dec, pw_nar0, pw_nar1, nI_add, pw_sub, pw_mul, pw_and, pw_or, pw_andn, pw_shl1, pw_shl, pw_shr, pw_dv, nI_l, lN_i, Bool.false_eq_true, reduceCtorEq, if_false, if_true, ↓reduceIte, if_pos, if_neg, r_30_0, r_3_14, r_3_15, r_30_2, g2, dk, s1, s2]
          exact fin
        · simp (disch := omega) only [pw_lt, pw_cb, pw_cbx, pw_cbxr, pw_lit, pw_litL, pw_oi, pw_oim, pw_oi8, pw_m, pw_ldI, pw_ldL, pw_ldR, pw_stI, pw_stL, pw_nz, pw_ltI, pw_leI, pw_eqI, pw_eqm, pw_eqm2, pw_ltm, pw_mlt, pw_lem, pw_mle, pw_mm, pw_dec, pw_nar0, pw_nar1, nI_add, pw_sub, pw_mul, pw_and, pw_or, pw_andn, pw_shl1, pw_shl, pw_shr, pw_dv, nI_l, lN_i, Bool.false_eq_true, reduceCtorEq, if_false, if_true, ↓reduceIte, if_pos, if_neg, r_30_0, r_3_14, r_3_15, r_30_2, g2, dk, s1, s2, e_bitCount, hp]
          exact fin
      · have ee : enc K (stp K k) = 4 * 4096 + 0 := by
          unfold enc
          rw [c1]
          rfl
        rw [ee] at dk
        have s1 := sh12 4 0 (by omega)
        have s2 := an12 4 0 (by omega)
        have htop := SA_top S
        simp only [List.length_cons] at hvl ⊢
        have e4 : r.length + 1 - 1 = r.length := by omega
        simp (disch := omega) only [pw_lt, pw_cb, pw_cbx, pw_cbxr, pw_lit, pw_litL, pw_oi, pw_oim, pw_oi8, pw_m, pw_ldI, pw_ldL, pw_ldR, pw_stI, pw_stL, pw_nz, pw_ltI, pw_leI, pw_eqI, pw_eqm, pw_eqm2, pw_ltm, pw_mlt, pw_lem, pw_mle, pw_mm, pw_dec, pw_nar0, pw_nar1, nI_add, pw_sub, pw_mul, pw_and, pw_or, pw_andn, pw_shl1, pw_shl, pw_shr, pw_dv, nI_l, lN_i, Bool.false_eq_true, reduceCtorEq, if_false, if_true, ↓reduceIte, if_pos, if_neg, r_30_0, r_3_14, r_3_15, r_30_2, g2, dk, s1, s2, e4, htop, iI_not c2]
        exact hnx _ ((1 - x) :: r) (eqx_pI (by decide)) c3.symm (by simp; omega) (SA_push (SA_tail S))
      · have ho := opc_le c1 c1'
        have ee : enc K (stp K k) = opc (stp K k) * 4096 + 0 := by
          unfold enc
          rw [if_neg (by omega), if_neg (by omega), if_neg (by omega), if_neg (by omega), if_neg (by omega), if_neg (by omega)]
          rfl
        rw [ee] at dk
        have s1 := sh12 (opc (stp K k)) 0 (by omega)
        have s2 := an12 (opc (stp K k)) 0 (by omega)
        have htop := SA_top S
        have htop2 := SA_top (SA_tail S)
        simp only [List.length_cons] at hvl htop ⊢
        have e4 : r.length + 1 + 1 - 1 = r.length + 1 := by omega
        have e5 : r.length + 1 - 1 = r.length := by omega
        obtain ⟨v, hre, hbv, hv1, hv2⟩ := c_reckon (h := h1) c1 c1' c2 c3 c4
        have hke := c_kept (h := h1) hv1 hv2
        rw [hbv] at hke
        have hx : (iI x).toInt64 = iL x := iI_l (by have := c2.1; omega) (by have := c2.2; omega)
        have hy : (iI y).toInt64 = iL y := iI_l (by have := c3.1; omega) (by have := c3.2; omega)
        simp (disch := omega) only [pw_lt, pw_cb, pw_cbx, pw_cbxr, pw_lit, pw_litL, pw_oi, pw_oim, pw_oi8, pw_m, pw_ldI, pw_ldL, pw_ldR, pw_stI, pw_stL, pw_nz, pw_ltI, pw_leI, pw_eqI, pw_eqm, pw_eqm2, pw_ltm, pw_mlt, pw_lem, pw_mle, pw_mm, pw_dec, pw_nar0, pw_nar1, nI_add, pw_sub, pw_mul, pw_and, pw_or, pw_andn, pw_shl1, pw_shl, pw_shr, pw_dv, nI_l, lN_i, Bool.false_eq_true, reduceCtorEq, if_false, if_true, ↓reduceIte, if_pos, if_neg, r_30_0, r_3_14, r_3_15, r_30_2, g2, dk, s1, s2, e4, e5, htop, htop2, hx, hy, hre, hke]
        exact hnx _ (bop (stp K k) x y :: r) (eqx_pI (by decide)) c5.symm (by simp; omega) (SA_push (SA_tail (SA_tail S)))
set_option maxRecDepth 16384 in
theorem cd_ok {L F C K T : Nat → Int32} (H : RK K) (W : KW K) (D : CD F C K) (E : EV K T) : CdOk L F C K T := by
  intro h h3 h6 h7 i hi w hw
  refine ok_mono (c_truthOf H W (by rw [h6, h7]; exact D) hi hw) ?_
  rintro r h' ⟨rfl, e⟩
  exact ⟨by rw [E i hi w hw, bI_dec], e⟩
set_option maxRecDepth 16384 in
theorem e_laysTruths {K : Nat → Int32} {h : PH} (H : RK K) (W : KW K) (r1 : h.1 153 = K) : ok (f_X12_laysTruths 152 h) (fun _ h' => eqx [159, 160, 161] h h' ∧ WW K (h'.1 160) ∧ EV K (h'.1 159)) := by
  obtain ⟨b0, b1, b2, b3, b4, b5, b6, b7, b8, b9, b10⟩ := rk_b H
  have hk5 := (rk_e H).2.2.2.2.2.1
  unfold f_X12_laysTruths
  refine ok_lt ?_
  refine lp_ok (fun n s h1 => n ≤ ga K + 1 ∧ s = nI (ga K + 1 - n) ∧ eqx [159, 160, 161] h h1 ∧ (∀ w, w < ga K + 1 - n → h1.1 160 w = nI (wx K w)) ∧ ∀ i, i < gv K 5 → ∀ w, w < ga K + 1 - n → h1.1 159 (4096 * i + w) = bI (tvR K w i)) ?_ FU (ga K + 1) _ h ⟨Nat.le_refl _, by rw [Nat.sub_self, pw_lit], eqx_rfl _ _, fun w hw => absurd hw (by omega), fun i hi w hw => absurd hw (by omega)⟩ (fu_lt (by omega))
  rintro n rec s h1 ⟨hn, rfl, e1, y1, y2⟩ hrec
  have q153 : h1.1 153 = K := by rw [(e1 153 (by decide)).1, r1]
  have hev := e_everywhere (h := h1) (by rw [q153]; exact H)
  rw [q153] at hev
  unfold b_X12_laysTruths_2
  by_cases h0 : n = 0
  · subst h0
    simp (disch := omega) only [pw_lt, pw_cb, pw_cbx, pw_cbxr, pw_lit, pw_litL, pw_oi, pw_oim, pw_oi8, pw_m, pw_ldI, pw_ldL, pw_ldR, pw_stI, pw_stL, pw_nz, pw_ltI, pw_leI, pw_eqI, pw_eqm, pw_eqm2, pw_ltm, pw_mlt, pw_lem, pw_mle, pw_mm, pw_dec, pw_nar0, pw_nar1, nI_add, pw_sub, pw_mul, pw_and, pw_or, pw_andn, pw_shl1, pw_shl, pw_shr, pw_dv, nI_l, lN_i, Bool.false_eq_true, reduceCtorEq, if_false, if_true, ↓reduceIte, if_pos, if_neg, hev]
    exact ok_some ⟨e1, fun w hw => y1 w (by omega), fun i hi w hw => y2 i hi w (by omega)⟩
  · generalize hwd : ga K + 1 - n = w at *
    have hwa : w ≤ ga K := by omega
    have e9 : ga K + 1 - (n - 1) = w + 1 := by omega
    have hbl := e_blown (h := h1) (p := w) (by rw [q153]; exact H) (by rw [q153]; exact hwa)
    rw [q153] at hbl
    simp (disch := omega) only [pw_lt, pw_cb, pw_cbx, pw_cbxr, pw_lit, pw_litL, pw_oi, pw_oim, pw_oi8, pw_m, pw_ldI, pw_ldL, pw_ldR, pw_stI, pw_stL, pw_nz, pw_ltI, pw_leI, pw_eqI, pw_eqm, pw_eqm2, pw_ltm, pw_mlt, pw_lem, pw_mle, pw_mm, pw_dec, pw_nar0, pw_nar1, nI_add, pw_sub, pw_mul, pw_and, pw_or, pw_andn, pw_shl1, pw_shl, pw_shr, pw_dv, nI_l, lN_i, Bool.false_eq_true, reduceCtorEq, if_false, if_true, ↓reduceIte, hev, hbl, r_152_19]
    rw [if_neg (by omega)]
    refine lp_ok (fun m s h2 => m ≤ gv K 5 ∧ s = nI (gv K 5 - m) ∧ eqx [159, 160, 161] h h2 ∧ (∀ u, u < w + 1 → h2.1 160 u = nI (wx K u)) ∧ (∀ i, i < gv K 5 → ∀ u, u < w → h2.1 159 (4096 * i + u) = bI (tvR K u i)) ∧ ∀ i, i < gv K 5 - m → h2.1 159 (4096 * i + w) = bI (tvR K w i)) ?_ FU (gv K 5) _ _ ⟨Nat.le_refl _, by rw [Nat.sub_self], eqx_trans e1 (eqx_pI (by decide)), fun u hu => ?_, fun i hi u hu => by rw [pw_pIo (by omega)]; exact y2 i hi u hu, fun i hi => absurd hi (by omega)⟩ (fu_lt (by omega))
    · rintro m rec2 s h2 ⟨hm, rfl, e2, z1, z2, z3⟩ hrec2
      have p153 : h2.1 153 = K := by rw [(e2 153 (by decide)).1, r1]
      unfold b_X12_laysTruths_23
      by_cases hm0 : m = 0
      · subst hm0
        simp (disch := omega) only [pw_lt, pw_cb, pw_cbx, pw_cbxr, pw_lit, pw_litL, pw_oi, pw_oim, pw_oi8, pw_m, pw_ldI, pw_ldL, pw_ldR, pw_stI, pw_stL, pw_nz, pw_ltI, pw_leI, pw_eqI, pw_eqm, pw_eqm2, pw_ltm, pw_mlt, pw_lem, pw_mle, pw_mm, pw_dec, pw_nar0, pw_nar1, nI_add, pw_sub, pw_mul, pw_and, pw_or, pw_andn, pw_shl1, pw_shl, pw_shr, pw_dv, nI_l, lN_i, Bool.false_eq_true, reduceCtorEq, if_false, if_true, ↓reduceIte, if_pos, if_neg, r_152_0, p153, hk5, Nat.sub_zero, Nat.le_refl]
        refine hrec (n - 1) _ h2 (by omega) ⟨by omega, by rw [e9], e2, by rw [e9]; exact z1, fun i hi u hu => ?_⟩
        rw [e9] at hu
        by_cases eu : u = w
        · subst eu
          exact z3 i (by omega)
        · exact z2 i hi u (by omega)
      · generalize hid : gv K 5 - m = i at *
        have e8 : gv K 5 - (m - 1) = i + 1 := by omega
        simp (disch := omega) only [pw_lt, pw_cb, pw_cbx, pw_cbxr, pw_lit, pw_litL, pw_oi, pw_oim, pw_oi8, pw_m, pw_ldI, pw_ldL, pw_ldR, pw_stI, pw_stL, pw_nz, pw_ltI, pw_leI, pw_eqI, pw_eqm, pw_eqm2, pw_ltm, pw_mlt, pw_lem, pw_mle, pw_mm, pw_dec, pw_nar0, pw_nar1, nI_add, pw_sub, pw_mul, pw_and, pw_or, pw_andn, pw_shl1, pw_shl, pw_shr, pw_dv, nI_l, lN_i, Bool.false_eq_true, reduceCtorEq, if_false, if_true, ↓reduceIte, r_152_0, p153, hk5]
        rw [if_neg (by omega)]
        refine ok_cb (e_worksOut (i := i) (w := w) H W p153 (by omega) (by omega)) ?_
        rintro r h3 ⟨rfl, e3⟩
        simp (disch := omega) only [pw_lt, pw_cb, pw_cbx, pw_cbxr, pw_lit, pw_litL, pw_oi, pw_oim, pw_oi8, pw_m, pw_ldI, pw_ldL, pw_ldR, pw_stI, pw_stL, pw_nz, pw_ltI, pw_leI, pw_eqI, pw_eqm, pw_eqm2, pw_ltm, pw_mlt, pw_lem, pw_mle, pw_mm, pw_dec, pw_nar0, pw_nar1, nI_add, pw_sub, pw_mul, pw_and, pw_or, pw_andn, pw_shl1, pw_shl, pw_shr, pw_dv, nI_l, lN_i, Bool.false_eq_true, reduceCtorEq, if_false, if_true, ↓reduceIte, if_pos, if_neg, r_152_18, nar_b]
        refine hrec2 (m - 1) _ _ (by omega) ⟨by omega, by rw [e8], eqx_trans e2 (eqx_trans (eqx_mono e3 (fun c hc => by simp at hc; simp [hc])) (eqx_pI (by decide))), fun u hu => ?_, fun i' hi' u hu => ?_, fun i' hi' => ?_⟩
        · rw [pw_pIo (by omega), (e3 160 (by decide)).1]
          exact z1 u hu
        · rw [pw_pIo (by omega), (e3 159 (by decide)).1]
          exact z2 i' hi' u hu
        · rw [e8] at hi'
          by_cases ei : i' = i
          · subst ei
            rw [pw_pIs]
          · rw [pw_pIo (by omega), (e3 159 (by decide)).1]
            exact z3 i' (by omega)
    · by_cases eu : u = w
      · subst eu
        rw [pw_pIs]
      · rw [pw_pIo (by omega)]
        exact y1 u (by omega)

/-! ===== loops over the plans that can be ===== -/
def fA {σ : Type} (A : Nat → Bool) (st : σ → Nat → σ) (s0 : σ) : Nat → σ
  | 0 => s0
  | n + 1 => if A n then st (fA A st s0 n) n else fA A st s0 n
set_option maxRecDepth 16384 in
theorem fA_fold {σ : Type} (A : Nat → Bool) (st : σ → Nat → σ) (s0 : σ) : ∀ n, ((List.range n).filter A).foldl st s0 = fA A st s0 n
  | 0 => rfl
  | n + 1 => by
    rw [List.range_succ, List.filter_append, List.foldl_append, fA_fold A st s0 n, fA]
    cases h : A n <;> simp [h]
set_option maxRecDepth 16384 in
theorem fA_take {σ : Type} (A : Nat → Bool) (st : σ → Nat → σ) (s0 : σ) : ∀ n k, k < ((List.range n).filter A).length → (((List.range n).filter A).take k).foldl st s0 = fA A st s0 (((List.range n).filter A).getD k 0) ∧ ((List.range n).filter A).getD k 0 < n ∧ A (((List.range n).filter A).getD k 0) = true
  | 0, k, h => absurd h (by simp)
  | n + 1, k, h => by
    have ih := fA_take A st s0 n k
    have hf := fA_fold A st s0 n
    have hl : (List.range (n + 1)).filter A = (List.range n).filter A ++ (if A n then [n] else []) := by
      rw [List.range_succ, List.filter_append]
      congr 1
      cases hb : A n <;> simp [hb]
    rw [hl] at h ⊢
    generalize (List.range n).filter A = L at *
    rcases Nat.lt_or_ge k L.length with q | q
    · obtain ⟨i1, i2, i3⟩ := ih q
      have e1 : (L ++ (if A n then [n] else [])).getD k 0 = L.getD k 0 := by
        rw [List.getD_eq_getElem?_getD, List.getElem?_append_left q, ← List.getD_eq_getElem?_getD]
      rw [e1, List.take_append_of_le_length (by omega)]
      exact ⟨i1, by omega, i3⟩
    · cases hb : A n
      · rw [hb] at h
        simp at h
        omega
      · rw [hb] at h
        simp at h
        have ek : k = L.length := by omega
        subst ek
        have e1 : (L ++ (if true = true then [n] else [])).getD L.length 0 = n := by
          rw [List.getD_eq_getElem?_getD, List.getElem?_append_right (Nat.le_refl _)]
          simp
        rw [e1, List.take_append_of_le_length (Nat.le_refl _), List.take_length]
        exact ⟨hf, by omega, hb⟩
set_option maxRecDepth 16384 in
theorem fA_congr {σ : Type} {A B : Nat → Bool} {st st' : σ → Nat → σ} {s0 : σ} : ∀ n, (∀ i, i < n → A i = B i) → (∀ i, i < n → A i = true → st (fA A st s0 i) i = st' (fA A st s0 i) i) → fA A st s0 n = fA B st' s0 n
  | 0, _, _ => rfl
  | n + 1, h, h2 => by
    rw [fA, fA, fA_congr n (fun i hi => h i (by omega)) (fun i hi => h2 i (by omega)), ← h n (by omega)]
    by_cases hb : A n = true
    · rw [if_pos hb, if_pos hb, ← fA_congr n (fun i hi => h i (by omega)) (fun i hi => h2 i (by omega)), h2 n (by omega) hb]
    · rw [if_neg hb, if_neg hb]
/- the class, settled -/
def RC (K T : Nat → Int32) (h : PH) : Prop := FC K T h ∧ CT2 K T (gv K 7) h ∧ h.1 33 7 = nI (gv K 7) ∧ h.1 16 0 = nI (gv K 7) ∧ (∀ i, i < gv K 5 → h.1 5 i = K (34 + i)) ∧ (∀ i, i < gv K 5 → h.1 4 i = K (24 + i))
set_option maxRecDepth 16384 in
theorem RC.to {K T : Nat → Int32} {h h' : PH} {S : List Nat} (R : RC K T h) (e : eqx S h h') (F : FC K T h') (h4 : 4 ∉ S) (h5 : 5 ∉ S) (h16 : 16 ∉ S) (h33 : 33 ∉ S) (h34 : 34 ∉ S) (h35 : 35 ∉ S) : RC K T h' := by
  obtain ⟨a, b, c, d, f, g⟩ := R
  refine ⟨F, ?_, ?_, ?_, ?_, ?_⟩
  · unfold CT2
    rw [(e 33 h33).1, (e 34 h34).1, (e 35 h35).1]
    exact b
  · rw [(e 33 h33).1]; exact c
  · rw [(e 16 h16).1]; exact d
  · rw [(e 5 h5).1]; exact f
  · rw [(e 4 h4).1]; exact g
set_option maxRecDepth 16384 in
theorem RC.to2 {K T : Nat → Int32} {h h' : PH} (R : RC K T h) (e : eqx [31, 32] h h') (F : FC K T h') : RC K T h' := R.to e F (by decide) (by decide) (by decide) (by decide) (by decide) (by decide)
set_option maxRecDepth 16384 in
theorem aL_abl {K T : Nat → Int32} (H : RK K) (n : Nat) : aL K T (gv K 7) n = (List.range n).filter (abl K T) := by
  unfold aL
  rw [show ablo K T (gv K 7) = abl K T from funext (ablo_abl H)]
set_option maxRecDepth 16384 in
theorem c_over {α σ β : Type} {body : (β → PH → Option (α × PH)) → β → PH → Option (α × PH)} {K T : Nat → Int32} {h : PH} {Q : α → PH → Prop} {N : Nat} (R : RC K T h) (enc : σ → Nat → β) (st : σ → Nat → σ) (s0 : σ) (hN : 4097 < N)
    (hs : ∀ rec s p k h', eqx [31, 32] h h' → RC K T h' → h'.1 33 4 = nI (aL K T (gv K 7) (ga K + 1)).length → h'.1 34 k = nI p → k < (aL K T (gv K 7) (ga K + 1)).length → k < 4096 → (aL K T (gv K 7) (ga K + 1)).length ≤ 4096 → p ≤ ga K → abl K T p = true → s = fA (abl K T) st s0 p → (∀ h'', eqx [31, 32] h' h'' → FC K T h'' → ok (rec (enc (st s p) (k + 1)) h'') Q) → ok (body rec (enc s k) h') Q)
    (he : ∀ rec s h', eqx [31, 32] h h' → RC K T h' → h'.1 33 4 = nI (aL K T (gv K 7) (ga K + 1)).length → (aL K T (gv K 7) (ga K + 1)).length ≤ 4096 → s = fA (abl K T) st s0 (ga K + 1) → ok (body rec (enc s (aL K T (gv K 7) (ga K + 1)).length) h') Q) : ok (lp body N (enc s0 0) h) Q := by
  have H := R.1.1
  obtain ⟨b0, b1, b2, b3, b4, b5, b6, b7, b8, b9, b10⟩ := rk_b H
  have hlen := aL_len K T (gv K 7) (ga K + 1)
  have hal := aL_abl (T := T) H (ga K + 1)
  have hft := fA_take (abl K T) st s0 (ga K + 1)
  have hff := fA_fold (abl K T) st s0 (ga K + 1)
  rw [← hal] at hft hff
  generalize hL : aL K T (gv K 7) (ga K + 1) = L at *
  refine lp_ok (fun n s h' => ∃ k, k + n = L.length ∧ s = enc ((L.take k).foldl st s0) k ∧ eqx [31, 32] h h' ∧ RC K T h') ?_ N L.length _ h ⟨0, by omega, rfl, eqx_rfl _ _, R⟩ (by omega)
  rintro n rec s h' ⟨k, hk, rfl, e1, R1⟩ hrec
  have c1 := R1.2.1.1
  have c2 := R1.2.1.2.1
  rw [hL] at c1 c2
  rcases Nat.lt_or_ge k L.length with q | q
  · obtain ⟨f1, f2, f3⟩ := hft k q
    refine hs rec _ (L.getD k 0) k h' e1 R1 c1 (c2 k q) q (by omega) (by omega) (by omega) f3 f1 (fun h'' e2 F2 => ?_)
    refine hrec (n - 1) _ h'' (by omega) ⟨k + 1, by omega, ?_, eqx_trans e1 e2, R1.to2 e2 F2⟩
    have e3 : L.take (k + 1) = L.take k ++ [L.getD k 0] := by
      rw [List.getD_eq_getElem?_getD, List.getElem?_eq_getElem q]
      exact (List.take_append_getElem q).symm
    rw [e3, List.foldl_append]
    rfl
  · have ek : k = L.length := by omega
    subst ek
    rw [List.take_length, hff]
    exact he rec _ h' e1 R1 c1 (by omega) rfl
/-! ===== most ===== -/
def wG (K T : Nat → Int32) (p : Nat) : Nat := wt K (gG K T p)
set_option maxRecDepth 16384 in
theorem wt_le {K : Nat → Int32} (H : RK K) (s : Nat) : wt K s ≤ 90 := by
  have h1 := H.2.2.2.2.2.2.2.1
  have hW := H.2.2.2.2.2.2.2.2.2.2.2
  have key : ∀ n, n ≤ gv K 5 → sumTo n (fun i => if s.testBit i then gv K (34 + i) else 0) ≤ 9 * n := by
    intro n
    induction n with
    | zero => intro _; exact Nat.zero_le _
    | succ n ih =>
      intro hn
      have h2 := ih (by omega)
      obtain ⟨-, ⟨-, -, w3⟩, -⟩ := hW n (by omega)
      unfold sumTo
      have e : (fun i => if s.testBit i then gv K (34 + i) else 0) n = if s.testBit n then gv K (34 + n) else 0 := rfl
      rw [e]
      by_cases hb : s.testBit n = true
      · rw [if_pos hb]
        omega
      · rw [if_neg hb]
        omega
  have := key (gv K 5) (Nat.le_refl _)
  unfold wt
  omega
def mst (K T : Nat → Int32) : Option Nat → Nat → Option Nat
  | none, p => some p
  | some b, p => if wG K T b < wG K T p ∨ wG K T b = wG K T p ∧ pc p < pc b then some p else some b
def mB (K T : Nat → Int32) : Option Nat := fA (abl K T) (mst K T) none (ga K + 1)
set_option maxRecDepth 16384 in
theorem mst_lt {K T : Nat → Int32} : ∀ n b, fA (abl K T) (mst K T) none n = some b → b < n
  | 0, b, h => by cases h
  | n + 1, b, h => by
    have ih := mst_lt (K := K) (T := T) n
    rw [fA] at h
    by_cases hb : abl K T n = true
    · rw [if_pos hb] at h
      cases hq : fA (abl K T) (mst K T) none n with
      | none =>
        rw [hq, mst] at h
        cases h
        omega
      | some c =>
        have := ih c hq
        rw [hq, mst] at h
        by_cases hc : wG K T c < wG K T n ∨ wG K T c = wG K T n ∧ pc n < pc c
        · rw [if_pos hc] at h
          cases h
          omega
        · rw [if_neg hc] at h
          cases h
          omega
    · rw [if_neg hb] at h
      have := ih b h
      omega
set_option maxRecDepth 16384 in
theorem e_most_lp {K T : Nat → Int32} {h : PH} {Q : Int32 → PH → Prop} {j : Int32 → PH → Option (Int32 × PH)} (R : RG K T h) (hj : ok (j (oI (mB K T)) h) Q) : ok (lp (b_X12_most_31 152 j) FU (mI, nI 0) h) Q := by
  obtain ⟨⟨H, r1, r2, r3, r4⟩, g1, g2⟩ := R
  obtain ⟨b0, b1, b2, b3, b4, b5, b6, b7, b8, b9, b10⟩ := rk_b H
  have hev := e_everywhere (h := h) (by rw [r1]; exact H)
  rw [r1] at hev
  suffices hs : lp (b_X12_most_31 152 j) FU (mI, nI 0) h = j (oI (mB K T)) h by rw [hs]; exact hj
  refine lp_run (fun i => (oI (fA (abl K T) (mst K T) none i), nI i)) (fun _ => h) (ga K + 1) _ ?_ ?_ FU (fu_lt (by omega))
  · intro i hi rec
    have hg := gG_lt (T := T) H i
    have hGi := g1 i (by omega)
    have hwi : f_X12_weight 152 (nI (gG K T i)) h = _ := e_weight (by rw [r1]; exact H) (by omega)
    rw [r1] at hwi
    have hwl := wt_le H (gG K T i)
    unfold b_X12_most_31
    unfold GB at hGi
    by_cases h1 : wy K T i = 0
    · have hA : abl K T i = true := decide_eq_true h1
      rw [if_pos h1] at hGi
      cases hb : fA (abl K T) (mst K T) none i with
      | none => simp (disch := omega) only [pw_lt, pw_cb, pw_cbx, pw_cbxr, pw_lit, pw_litL, pw_oi, pw_oim, pw_oi8, pw_m, pw_ldI, pw_ldL, pw_ldR, pw_stI, pw_stL, pw_nz, pw_ltI, pw_leI, pw_eqI, pw_eqm, pw_eqm2, pw_ltm, pw_mlt, pw_lem, pw_mle, pw_mm, pw_dec, pw_nar0, pw_nar1, nI_add, pw_sub, pw_mul, pw_and, pw_or, pw_andn, pw_shl1, pw_shl, pw_shr, pw_dv, nI_l, lN_i, Bool.false_eq_true, reduceCtorEq, if_false, if_true, ↓reduceIte, if_pos, if_neg, hev, r_152_21, hGi, hb, oI, fA, hA, mst]
      | some b =>
        have hbl := mst_lt i b hb
        have hg2 := gG_lt (T := T) H b
        have hGb := g1 b (by omega)
        have hwb : f_X12_weight 152 (nI (gG K T b)) h = _ := e_weight (by rw [r1]; exact H) (by omega)
        rw [r1] at hwb
        have hwl2 := wt_le H (gG K T b)
        have habb : ∀ n c, fA (abl K T) (mst K T) none n = some c → abl K T c = true := by
          intro n
          induction n with
          | zero => intro c hc; cases hc
          | succ n ih =>
            intro c hc
            rw [fA] at hc
            by_cases hb : abl K T n = true
            · rw [if_pos hb] at hc
              cases hq : fA (abl K T) (mst K T) none n with
              | none => rw [hq, mst] at hc; cases hc; exact hb
              | some d =>
                rw [hq, mst] at hc
                by_cases hz : wG K T d < wG K T n ∨ wG K T d = wG K T n ∧ pc n < pc d
                · rw [if_pos hz] at hc; cases hc; exact hb
                · rw [if_neg hz] at hc; cases hc; exact ih _ hq
            · rw [if_neg hb] at hc
              exact ih c hc
        have hAb := of_decide_eq_true (habb i b hb)
        unfold GB at hGb
        rw [if_pos hAb] at hGb
        have p1 := pc_le (show i < 4096 by omega)
        have p2 := pc_le (show b < 4096 by omega)
        have d1 : (nI 0 < nI (wt K (gG K T i)) - nI (wt K (gG K T b))) = (wG K T b < wG K T i) := by
          refine propext ?_
          unfold wG
          rw [Int32.lt_iff_toInt_lt, pw_subI (by omega) (by omega), pw_toInt (by decide)]
          omega
        have d2 : (nI (wt K (gG K T i)) - nI (wt K (gG K T b)) = nI 0) = (wG K T b = wG K T i) := by
          refine propext ?_
          unfold wG
          rw [← Int32.toInt_inj, pw_subI (by omega) (by omega), pw_toInt (by decide)]
          omega
        by_cases c1 : wG K T b < wG K T i
        · simp (disch := omega) only [pw_lt, pw_cb, pw_cbx, pw_cbxr, pw_lit, pw_litL, pw_oi, pw_oim, pw_oi8, pw_m, pw_ldI, pw_ldL, pw_ldR, pw_stI, pw_stL, pw_nz, pw_ltI, pw_leI, pw_eqI, pw_eqm, pw_eqm2, pw_ltm, pw_mlt, pw_lem, pw_mle, pw_mm, pw_dec, pw_nar0, pw_nar1, nI_add, pw_mul, pw_and, pw_or, pw_andn, pw_shl1, pw_shl, pw_shr, pw_dv, nI_l, lN_i, Bool.false_eq_true, reduceCtorEq, if_false, if_true, ↓reduceIte, if_pos, if_neg, hev, r_152_21, hGi, hGb, hb, oI, fA, hA, mst, hwi, hwb, d1, d2, c1, true_or]
        · by_cases c2 : wG K T b = wG K T i
          · by_cases c3 : pc i < pc b
            · simp (disch := omega) only [pw_lt, pw_cb, pw_cbx, pw_cbxr, pw_lit, pw_litL, pw_oi, pw_oim, pw_oi8, pw_m, pw_ldI, pw_ldL, pw_ldR, pw_stI, pw_stL, pw_nz, pw_ltI, pw_leI, pw_eqI, pw_eqm, pw_eqm2, pw_ltm, pw_mlt, pw_lem, pw_mle, pw_mm, pw_dec, pw_nar0, pw_nar1, nI_add, pw_mul, pw_and, pw_or, pw_andn, pw_shl1, pw_shl, pw_shr, pw_dv, nI_l, lN_i, Bool.false_eq_true, reduceCtorEq, if_false, if_true, ↓reduceIte, if_pos, if_neg, hev, r_152_21, hGi, hGb, hb, oI, fA, hA, mst, hwi, hwb, d1, d2, c2, c3, e_size, Nat.lt_irrefl, and_self, or_true]
            · simp (disch := omega) only [pw_lt, pw_cb, pw_cbx, pw_cbxr, pw_lit, pw_litL, pw_oi, pw_oim, pw_oi8, pw_m, pw_ldI, pw_ldL, pw_ldR, pw_stI, pw_stL, pw_nz, pw_ltI, pw_leI, pw_eqI, pw_eqm, pw_eqm2, pw_ltm, pw_mlt, pw_lem, pw_mle, pw_mm, pw_dec, pw_nar0, pw_nar1, nI_add, pw_mul, pw_and, pw_or, pw_andn, pw_shl1, pw_shl, pw_shr, pw_dv, nI_l, lN_i, Bool.false_eq_true, reduceCtorEq, if_false, if_true, ↓reduceIte, if_pos, if_neg, hev, r_152_21, hGi, hGb, hb, oI, fA, hA, mst, hwi, hwb, d1, d2, c2, c3, e_size, Nat.lt_irrefl, and_false, or_false]
          · simp (disch := omega) only [pw_lt, pw_cb, pw_cbx, pw_cbxr, pw_lit, pw_litL, pw_oi, pw_oim, pw_oi8, pw_m, pw_ldI, pw_ldL, pw_ldR, pw_stI, pw_stL, pw_nz, pw_ltI, pw_leI, pw_eqI, pw_eqm, pw_eqm2, pw_ltm, pw_mlt, pw_lem, pw_mle, pw_mm, pw_dec, pw_nar0, pw_nar1, nI_add, pw_mul, pw_and, pw_or, pw_andn, pw_shl1, pw_shl, pw_shr, pw_dv, nI_l, lN_i, Bool.false_eq_true, reduceCtorEq, if_false, if_true, ↓reduceIte, if_pos, if_neg, hev, r_152_21, hGi, hGb, hb, oI, fA, hA, mst, hwi, hwb, d1, d2, c1, c2, false_and, or_false]
    · have hA : abl K T i = false := decide_eq_false h1
      rw [if_neg h1] at hGi
      simp (disch := omega) only [pw_lt, pw_cb, pw_cbx, pw_cbxr, pw_lit, pw_litL, pw_oi, pw_oim, pw_oi8, pw_m, pw_ldI, pw_ldL, pw_ldR, pw_stI, pw_stL, pw_nz, pw_ltI, pw_leI, pw_eqI, pw_eqm, pw_eqm2, pw_ltm, pw_mlt, pw_lem, pw_mle, pw_mm, pw_dec, pw_nar0, pw_nar1, nI_add, pw_sub, pw_mul, pw_and, pw_or, pw_andn, pw_shl1, pw_shl, pw_shr, pw_dv, nI_l, lN_i, Bool.false_eq_true, reduceCtorEq, if_false, if_true, ↓reduceIte, if_pos, if_neg, hev, r_152_21, hGi, fA, hA]
  · intro rec
    unfold b_X12_most_31
    simp (disch := omega) only [pw_lt, pw_cb, pw_cbx, pw_cbxr, pw_lit, pw_litL, pw_oi, pw_oim, pw_oi8, pw_m, pw_ldI, pw_ldL, pw_ldR, pw_stI, pw_stL, pw_nz, pw_ltI, pw_leI, pw_eqI, pw_eqm, pw_eqm2, pw_ltm, pw_mlt, pw_lem, pw_mle, pw_mm, pw_dec, pw_nar0, pw_nar1, nI_add, pw_sub, pw_mul, pw_and, pw_or, pw_andn, pw_shl1, pw_shl, pw_shr, pw_dv, nI_l, lN_i, Bool.false_eq_true, reduceCtorEq, if_false, if_true, ↓reduceIte, if_pos, if_neg, hev]
    rfl
set_option maxRecDepth 16384 in
theorem c_gG {h : PH} {K T : Nat → Int32} {p : Nat} (F : FC K T h) (hp : p ≤ ga K) : ok (f_X3_grantedBy 30 (nI p) (nI (gv K 7)) h) (fun r h' => r = nI (gG K T p) ∧ eqx [31, 32] h h' ∧ FC K T h') := by
  refine ok_mono (c_grantedBy (o := gv K 7) F hp) ?_
  rintro r h' ⟨rfl, e, F2⟩
  exact ⟨congrArg nI (gr_hw K T _), e, F2⟩
set_option maxRecDepth 16384 in
theorem c_mostPlan {K T : Nat → Int32} {h : PH} (R : RC K T h) : ok (f_X2_mostPlan 33 h) (fun r h' => r = oI (mB K T) ∧ eqx [31, 32] h h' ∧ RC K T h') := by
  have H := R.1.1
  obtain ⟨b0, b1, b2, b3, b4, b5, b6, b7, b8, b9, b10⟩ := rk_b H
  unfold f_X2_mostPlan
  simp only [pw_lt, pw_lit, pw_m]
  refine c_over (body := b_X2_mostPlan_6 33) R (fun s k => (oI s, (match s with | none => mI | some b => nI (wG K T b)), nI k)) (mst K T) none (by rw [fu_eq]; omega) ?_ ?_
  · intro rec s p k h' e1 R1 v4 v34 hk hk2 hl hp hA hsd hrec
    have hwp := wt_le H (gG K T p)
    unfold b_X2_mostPlan_6
    have o7 := R1.2.2.1
    simp (disch := omega) only [pw_lt, pw_cb, pw_cbx, pw_cbxr, pw_lit, pw_litL, pw_oi, pw_oim, pw_oi8, pw_m, pw_ldI, pw_ldL, pw_ldR, pw_stI, pw_stL, pw_nz, pw_ltI, pw_leI, pw_eqI, pw_eqm, pw_eqm2, pw_ltm, pw_mlt, pw_lem, pw_mle, pw_mm, pw_dec, pw_nar0, pw_nar1, nI_add, pw_sub, pw_mul, pw_and, pw_or, pw_andn, pw_shl1, pw_shl, pw_shr, pw_dv, nI_l, lN_i, Bool.false_eq_true, reduceCtorEq, if_false, if_true, ↓reduceIte, if_pos, if_neg, v4, r_33_3, r_33_2, v34, o7]
    refine ok_cb (c_gG R1.1 hp) ?_
    rintro r h2 ⟨rfl, e2, F2⟩
    have R2 := R1.to2 e2 F2
    have hg := gG_lt (T := T) H p
    have hw2 := c_weightOf (h := h2) (s := gG K T p) H F2.2.1 R2.2.2.2.2.1 (by omega)
    have v34' : h2.1 34 k = nI p := by rw [(e2 34 (by decide)).1, v34]
    have hwd : wt K (gG K T p) = wG K T p := rfl
    rw [hwd] at hw2 hwp
    cases s with
    | none =>
      simp (disch := omega) only [pw_lt, pw_cb, pw_cbx, pw_cbxr, pw_lit, pw_litL, pw_oi, pw_oim, pw_oi8, pw_m, pw_ldI, pw_ldL, pw_ldR, pw_stI, pw_stL, pw_nz, pw_ltI, pw_leI, pw_eqI, pw_eqm, pw_eqm2, pw_ltm, pw_mlt, pw_lem, pw_mle, pw_mm, pw_dec, pw_nar0, pw_nar1, nI_add, pw_sub, pw_mul, pw_and, pw_or, pw_andn, pw_shl1, pw_shl, pw_shr, pw_dv, nI_l, lN_i, Bool.false_eq_true, reduceCtorEq, if_false, if_true, ↓reduceIte, if_pos, if_neg, r_33_0, hw2, v34', r_33_3]
      exact hrec h2 e2 F2
    | some b =>
      have hbl := mst_lt p b hsd.symm
      have hwb : wG K T b ≤ 90 := wt_le H (gG K T b)
      by_cases c1 : wG K T b < wG K T p
      · have hm : mst K T (some b) p = some p := by rw [mst, if_pos (Or.inl c1)]
        simp (disch := omega) only [pw_lt, pw_cb, pw_cbx, pw_cbxr, pw_lit, pw_litL, pw_oi, pw_oim, pw_oi8, pw_m, pw_ldI, pw_ldL, pw_ldR, pw_stI, pw_stL, pw_nz, pw_ltI, pw_leI, pw_eqI, pw_eqm, pw_eqm2, pw_ltm, pw_mlt, pw_lem, pw_mle, pw_mm, pw_dec, pw_nar0, pw_nar1, nI_add, pw_sub, pw_mul, pw_and, pw_or, pw_andn, pw_shl1, pw_shl, pw_shr, pw_dv, nI_l, lN_i, Bool.false_eq_true, reduceCtorEq, if_false, if_true, ↓reduceIte, if_pos, if_neg, r_33_0, hw2, v34', r_33_3]
        have := hrec h2 e2 F2
        rw [hm] at this
        exact this
      · by_cases c2 : wG K T b = wG K T p
        · have hls := c_lesser (h := h2) (a := some b) (b := some p) (fun q hq => by cases hq; omega) (fun q hq => by cases hq; omega)
          have hls : f_X2_lesser (nI b) (nI p) h2 = some (oI (lsr (some b) (some p)), h2) := hls
          have hm : mst K T (some b) p = lsr (some b) (some p) := by
            rw [mst, lsr]
            by_cases c3 : pc p < pc b
            · rw [if_pos (Or.inr ⟨c2, c3⟩), if_neg (by omega)]
            · rw [if_neg (by omega), if_pos (by omega)]
          have hw3 : (match lsr (some b) (some p) with | none => mI | some b => nI (wG K T b)) = nI (wG K T p) := by
            rw [← hm, mst]
            by_cases c3 : wG K T b < wG K T p ∨ wG K T b = wG K T p ∧ pc p < pc b
            · rw [if_pos c3]
            · rw [if_neg c3]
              exact congrArg nI c2
          have hle : wG K T p ≤ wG K T b := by omega
          simp (disch := omega) only [pw_lt, pw_cb, pw_cbx, pw_cbxr, pw_lit, pw_litL, pw_oi, pw_oim, pw_oi8, pw_m, pw_ldI, pw_ldL, pw_ldR, pw_stI, pw_stL, pw_nz, pw_ltI, pw_leI, pw_eqI, pw_eqm, pw_eqm2, pw_ltm, pw_mlt, pw_lem, pw_mle, pw_mm, pw_dec, pw_nar0, pw_nar1, nI_add, pw_sub, pw_mul, pw_and, pw_or, pw_andn, pw_shl1, pw_shl, pw_shr, pw_dv, nI_l, lN_i, Bool.false_eq_true, reduceCtorEq, if_false, if_true, ↓reduceIte, if_pos, if_neg, r_33_0, hw2, v34', r_33_3, oI, c2, hls, Nat.le_refl]
          have := hrec h2 e2 F2
          rw [hm, hw3] at this
          exact this
        · have hm : mst K T (some b) p = some b := by rw [mst, if_neg (by omega)]
          simp (disch := omega) only [pw_lt, pw_cb, pw_cbx, pw_cbxr, pw_lit, pw_litL, pw_oi, pw_oim, pw_oi8, pw_m, pw_ldI, pw_ldL, pw_ldR, pw_stI, pw_stL, pw_nz, pw_ltI, pw_leI, pw_eqI, pw_eqm, pw_eqm2, pw_ltm, pw_mlt, pw_lem, pw_mle, pw_mm, pw_dec, pw_nar0, pw_nar1, nI_add, pw_sub, pw_mul, pw_and, pw_or, pw_andn, pw_shl1, pw_shl, pw_shr, pw_dv, nI_l, lN_i, Bool.false_eq_true, reduceCtorEq, if_false, if_true, ↓reduceIte, if_pos, if_neg, r_33_0, hw2, v34', r_33_3, oI]
          have := hrec h2 e2 F2
          rw [hm] at this
          exact this
  · intro rec s h' e1 R1 v4 hl hs
    unfold b_X2_mostPlan_6
    simp (disch := omega) only [pw_lt, pw_cb, pw_cbx, pw_cbxr, pw_lit, pw_litL, pw_oi, pw_oim, pw_oi8, pw_m, pw_ldI, pw_ldL, pw_ldR, pw_stI, pw_stL, pw_nz, pw_ltI, pw_leI, pw_eqI, pw_eqm, pw_eqm2, pw_ltm, pw_mlt, pw_lem, pw_mle, pw_mm, pw_dec, pw_nar0, pw_nar1, nI_add, pw_sub, pw_mul, pw_and, pw_or, pw_andn, pw_shl1, pw_shl, pw_shr, pw_dv, nI_l, lN_i, Bool.false_eq_true, reduceCtorEq, if_false, if_true, ↓reduceIte, if_pos, if_neg, v4, Nat.le_refl]
    exact ok_some ⟨by rw [hs]; rfl, e1, R1⟩

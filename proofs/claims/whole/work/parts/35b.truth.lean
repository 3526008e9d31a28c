/-! ===== what an atom comes to ===== -/
set_option maxRecDepth 16384 in
theorem sumTo_add (f : Nat → Nat) (m : Nat) : ∀ n, sumTo (m + n) f = sumTo m f + sumTo n (fun i => f (m + i))
  | 0 => rfl
  | n + 1 => by
    have ih := sumTo_add f m n
    show sumTo (m + n) f + f (m + n) = sumTo m f + (sumTo n (fun i => f (m + i)) + f (m + n))
    omega
set_option maxRecDepth 16384 in
theorem sumTo_mul (f : Nat → Nat) (nd : Nat) : ∀ np, sumTo (np * nd) f = sumTo np (fun p => sumTo nd (fun d => f (nd * p + d)))
  | 0 => by rw [Nat.zero_mul]; rfl
  | np + 1 => by
    rw [Nat.succ_mul, sumTo_add, sumTo_mul f nd np]
    have e : ∀ i, np * nd + i = nd * np + i := fun i => by rw [Nat.mul_comm]
    show _ = sumTo np _ + sumTo nd (fun d => f (nd * np + d))
    congr 1
    exact sumTo_congr nd (fun i _ => by rw [e])
set_option maxRecDepth 16384 in
theorem sumTo_0 {f : Nat → Nat} : ∀ n, (∀ i, i < n → f i = 0) → sumTo n f = 0
  | 0, _ => rfl
  | n + 1, h => by
    unfold sumTo
    rw [sumTo_0 n (fun i hi => h i (by omega)), h n (by omega)]
set_option maxRecDepth 16384 in
theorem sumTo_one {f : Nat → Nat} {d : Nat} : ∀ n, d < n → (∀ i, i < n → i ≠ d → f i = 0) → sumTo n f = f d
  | 0, h, _ => by omega
  | n + 1, h, h2 => by
    unfold sumTo
    by_cases e : d = n
    · subst e
      rw [sumTo_0 d (fun i hi => h2 i (by omega) (by omega)), Nat.zero_add]
    · rw [sumTo_one n (by omega) (fun i hi => h2 i (by omega)), h2 n (by omega) (fun q => e q.symm), Nat.add_zero]
set_option maxRecDepth 16384 in
theorem pc_or2 {a n : Nat} (hn : n < 12) (ha : a < 2 ^ n) : pc (a ||| 2 ^ n) = pc a + 1 := by
  have h12 : 2 ^ n ≤ 2 ^ 12 := Nat.pow_le_pow_right (by decide) (by omega)
  have e : 2 ^ 12 = 4096 := rfl
  exact pw_4096 (P := fun a => ∀ n, n < 12 → a < 2 ^ n → pc (a ||| 2 ^ n) = pc a + 1) (by decide +kernel) (by omega) n hn ha
set_option maxRecDepth 16384 in
theorem pc_orTo {w : Nat} {f : Nat → Bool} : ∀ n, n ≤ 12 → pc (w &&& orTo n f) = sumTo n (fun c => if w.testBit c = true ∧ f c = true then 1 else 0)
  | 0, _ => by
    have : w &&& orTo 0 f = 0 := Nat.and_zero w
    rw [this]
    rfl
  | n + 1, hn => by
    have ih := pc_orTo (w := w) (f := f) n (by omega)
    have hl := orTo_lt f n
    have hlw : w &&& orTo n f < 2 ^ n := Nat.lt_of_le_of_lt Nat.and_le_right hl
    have e : w &&& orTo (n + 1) f = (w &&& orTo n f) ||| (if w.testBit n = true ∧ f n = true then 2 ^ n else 0) := by
      apply Nat.eq_of_testBit_eq
      intro i
      rw [orTo, Nat.testBit_and, Nat.testBit_or, Nat.testBit_or, Nat.testBit_and]
      by_cases hi : n = i
      · subst hi
        cases h1 : w.testBit n <;> cases h2 : f n <;> simp
      · cases h1 : w.testBit n <;> cases h2 : f n <;> simp [Nat.testBit_two_pow, hi]
    rw [e]
    show _ = sumTo n _ + (if w.testBit n = true ∧ f n = true then 1 else 0)
    by_cases hc : w.testBit n = true ∧ f n = true
    · rw [if_pos hc, if_pos hc, pc_or2 (by omega) hlw, ih]
    · rw [if_neg hc, if_neg hc, Nat.or_zero, ih]
      rfl
def dayM (K : Nat → Int32) (d : Nat) : Nat := orTo (gc K) (fun c => decide (c % gv K 2 = d))
def parM (K : Nat → Int32) (p : Nat) : Nat := orTo (gc K) (fun c => decide (c / gv K 2 = p))
def plD (K : Nat → Int32) (w d : Nat) : Nat := sumTo (gv K 1) (fun p => if w.testBit (gv K 2 * p + d) = true then 1 else 0)
def plP (K : Nat → Int32) (w p : Nat) : Nat := sumTo (gv K 2) (fun d => if w.testBit (gv K 2 * p + d) = true then 1 else 0)
set_option maxRecDepth 16384 in
theorem pc_dayM {K : Nat → Int32} (H : RK K) {w d : Nat} (hd : d < gv K 2) : pc (w &&& dayM K d) = plD K w d := by
  have hb := rk_b H
  unfold dayM plD
  rw [pc_orTo _ hb.2.2.2.1]
  unfold gc
  rw [sumTo_mul]
  refine sumTo_congr _ (fun p hp => ?_)
  rw [sumTo_one (d := d) _ hd (fun i hi hid => ?_)]
  · have e : (gv K 2 * p + d) % gv K 2 = d := by rw [Nat.mul_add_mod, Nat.mod_eq_of_lt hd]
    simp only [e, decide_true, and_true]
  · have e : (gv K 2 * p + i) % gv K 2 = i := by rw [Nat.mul_add_mod, Nat.mod_eq_of_lt hi]
    simp only [e, decide_eq_true_eq]
    exact if_neg (fun q => hid q.2)
set_option maxRecDepth 16384 in
theorem pc_parM {K : Nat → Int32} (H : RK K) {w p : Nat} (hp : p < gv K 1) : pc (w &&& parM K p) = plP K w p := by
  have hb := rk_b H
  unfold parM plP
  rw [pc_orTo _ hb.2.2.2.1]
  unfold gc
  rw [sumTo_mul, sumTo_one (d := p) _ hp (fun i hi hid => ?_)]
  · refine sumTo_congr _ (fun d hd => ?_)
    have e : (gv K 2 * p + d) / gv K 2 = p := by rw [Nat.mul_add_div (by omega), Nat.div_eq_of_lt hd, Nat.add_zero]
    simp only [e, decide_true, and_true]
  · refine sumTo_0 _ (fun d hd => ?_)
    have e : (gv K 2 * i + d) / gv K 2 = i := by rw [Nat.mul_add_div (by omega), Nat.div_eq_of_lt hd, Nat.add_zero]
    simp only [e, decide_eq_true_eq]
    exact if_neg (fun q => hid q.2)
def pl (K : Nat → Int32) (w s : Nat) : Nat := if 1000 ≤ s then s - 1000 else if s = 400 then pc w else if 300 ≤ s then plD K w (s - 300) else if 200 ≤ s then plP K w (s - 200) else if w.testBit (s - 100) then 1 else 0
def okA (K : Nat → Int32) (s : Nat) : Prop := (100 ≤ s ∧ s < 100 + gc K) ∨ (200 ≤ s ∧ s < 200 + gv K 1) ∨ (300 ≤ s ∧ s < 300 + gv K 2) ∨ s = 400 ∨ (1000 ≤ s ∧ s < 2000)
set_option maxRecDepth 16384 in
theorem sumTo_b {f : Nat → Nat} (hf : ∀ i, f i ≤ 1) : ∀ n, sumTo n f ≤ n
  | 0 => Nat.le_refl _
  | n + 1 => by
    have := sumTo_b hf n
    have := hf n
    unfold sumTo
    omega
set_option maxRecDepth 16384 in
theorem plD_le {K : Nat → Int32} (w d : Nat) : plD K w d ≤ gv K 1 := sumTo_b (fun i => by split <;> omega) _
set_option maxRecDepth 16384 in
theorem plP_le {K : Nat → Int32} (w p : Nat) : plP K w p ≤ gv K 2 := sumTo_b (fun i => by split <;> omega) _
set_option maxRecDepth 16384 in
theorem pl_le {K : Nat → Int32} (H : RK K) {w s : Nat} (hw : w < 4096) (hs : okA K s) : pl K w s < 1000 := by
  have hb := rk_b H
  have h1 := plD_le (K := K) w (s - 300)
  have h2 := plP_le (K := K) w (s - 200)
  have h3 := pc_le hw
  unfold okA at hs
  unfold pl
  split
  · omega
  · split
    · omega
    · split
      · omega
      · split
        · omega
        · split <;> omega
set_option maxRecDepth 16384 in
theorem e_plain {K : Nat → Int32} {h : PH} {w s : Nat} (H : RK K) (r1 : h.1 153 = K) (hw : w < 4096) (hs : okA K s) : f_X12_plain 152 (nI s) (nI w) h = some (nI (pl K w s), h) := by
  obtain ⟨k0, k1, k2, k3, k4, k5, k6, k7⟩ := rk_e H
  obtain ⟨b0, b1, b2, b3, b4, b5, b6, b7, b8, b9, b10⟩ := rk_b H
  have hgc : gc K = gv K 1 * gv K 2 := rfl
  unfold okA at hs
  unfold f_X12_plain pl
  by_cases c1 : 1000 ≤ s
  · rw [if_pos c1]
    simp (disch := omega) only [pw_lt, pw_cb, pw_cbx, pw_cbxr, pw_lit, pw_litL, pw_oi, pw_oim, pw_oi8, pw_m, pw_ldI, pw_ldL, pw_ldR, pw_stI, pw_stL, pw_nz, pw_ltI, pw_leI, pw_eqI, pw_eqm, pw_eqm2, pw_ltm, pw_mlt, pw_lem, pw_mle, pw_mm, pw_dec, pw_nar0, pw_nar1, nI_add, pw_sub, pw_mul, pw_and, pw_or, pw_andn, pw_shl1, pw_shl, pw_shr, pw_dv, nI_l, lN_i, Bool.false_eq_true, reduceCtorEq, if_false, if_true, ↓reduceIte, if_pos, if_neg]
  · rw [if_neg c1]
    by_cases c2 : s = 400
    · subst c2
      simp (disch := omega) only [pw_lt, pw_cb, pw_cbx, pw_cbxr, pw_lit, pw_litL, pw_oi, pw_oim, pw_oi8, pw_m, pw_ldI, pw_ldL, pw_ldR, pw_stI, pw_stL, pw_nz, pw_ltI, pw_leI, pw_eqI, pw_eqm, pw_eqm2, pw_ltm, pw_mlt, pw_lem, pw_mle, pw_mm, pw_dec, pw_nar0, pw_nar1, nI_add, pw_sub, pw_mul, pw_and, pw_or, pw_andn, pw_shl1, pw_shl, pw_shr, pw_dv, nI_l, lN_i, Bool.false_eq_true, reduceCtorEq, if_false, if_true, ↓reduceIte, if_pos, if_neg, e_size]
    · rw [if_neg c2]
      by_cases c3 : 300 ≤ s
      · rw [if_pos c3]
        simp (disch := omega) only [pw_lt, pw_cb, pw_cbx, pw_cbxr, pw_lit, pw_litL, pw_oi, pw_oim, pw_oi8, pw_m, pw_ldI, pw_ldL, pw_ldR, pw_stI, pw_stL, pw_nz, pw_ltI, pw_leI, pw_eqI, pw_eqm, pw_eqm2, pw_ltm, pw_mlt, pw_lem, pw_mle, pw_mm, pw_dec, pw_nar0, pw_nar1, nI_add, pw_sub, pw_mul, pw_and, pw_or, pw_andn, pw_shl1, pw_shl, pw_shr, pw_dv, nI_l, lN_i, Bool.false_eq_true, reduceCtorEq, if_false, if_true, ↓reduceIte, if_pos, if_neg, r_152_0, r1, k2]
        unfold plD
        refine lp_run (fun n => (nI (sumTo n (fun p => if w.testBit (gv K 2 * p + (s - 300)) = true then 1 else 0)), nI n)) (fun _ => h) (gv K 1) _ ?_ ?_ FU (fu_lt (by omega))
        · intro i hi rec
          have hm : gv K 2 * i + gv K 2 ≤ gc K := by
            have : gv K 2 * (i + 1) ≤ gv K 2 * gv K 1 := Nat.mul_le_mul_left _ hi
            rw [Nat.mul_add, Nat.mul_one, Nat.mul_comm (gv K 2) (gv K 1)] at this
            rw [hgc]
            exact this
          have e1 : gv K 2 * i + s - 300 = gv K 2 * i + (s - 300) := by omega
          unfold b_X12_plain_98
          rcases tf (w.testBit (gv K 2 * i + (s - 300))) with hb | hb
          · simp (disch := omega) only [pw_lt, pw_cb, pw_cbx, pw_cbxr, pw_lit, pw_litL, pw_oi, pw_oim, pw_oi8, pw_m, pw_ldI, pw_ldL, pw_ldR, pw_stI, pw_stL, pw_nz, pw_ltI, pw_leI, pw_eqI, pw_eqm, pw_eqm2, pw_ltm, pw_mlt, pw_lem, pw_mle, pw_mm, pw_dec, pw_nar0, pw_nar1, nI_add, pw_sub, pw_mul, pw_and, pw_or, pw_andn, pw_shl1, pw_shl, pw_shr, pw_dv, nI_l, lN_i, Bool.false_eq_true, reduceCtorEq, if_false, if_true, ↓reduceIte, if_pos, if_neg, r_152_0, r1, k1, e1, pw_tb, hb, sumTo, Nat.add_zero]
          · simp (disch := omega) only [pw_lt, pw_cb, pw_cbx, pw_cbxr, pw_lit, pw_litL, pw_oi, pw_oim, pw_oi8, pw_m, pw_ldI, pw_ldL, pw_ldR, pw_stI, pw_stL, pw_nz, pw_ltI, pw_leI, pw_eqI, pw_eqm, pw_eqm2, pw_ltm, pw_mlt, pw_lem, pw_mle, pw_mm, pw_dec, pw_nar0, pw_nar1, nI_add, pw_sub, pw_mul, pw_and, pw_or, pw_andn, pw_shl1, pw_shl, pw_shr, pw_dv, nI_l, lN_i, Bool.false_eq_true, reduceCtorEq, if_false, if_true, ↓reduceIte, if_pos, if_neg, r_152_0, r1, k1, e1, pw_tb, hb, sumTo]
        · intro rec
          unfold b_X12_plain_98
          simp (disch := omega) only [pw_lt, pw_cb, pw_cbx, pw_cbxr, pw_lit, pw_litL, pw_oi, pw_oim, pw_oi8, pw_m, pw_ldI, pw_ldL, pw_ldR, pw_stI, pw_stL, pw_nz, pw_ltI, pw_leI, pw_eqI, pw_eqm, pw_eqm2, pw_ltm, pw_mlt, pw_lem, pw_mle, pw_mm, pw_dec, pw_nar0, pw_nar1, nI_add, pw_sub, pw_mul, pw_and, pw_or, pw_andn, pw_shl1, pw_shl, pw_shr, pw_dv, nI_l, lN_i, Bool.false_eq_true, reduceCtorEq, if_false, if_true, ↓reduceIte, if_pos, if_neg, r_152_0, r1, k1]
      · rw [if_neg c3]
        by_cases c4 : 200 ≤ s
        · rw [if_pos c4]
          simp (disch := omega) only [pw_lt, pw_cb, pw_cbx, pw_cbxr, pw_lit, pw_litL, pw_oi, pw_oim, pw_oi8, pw_m, pw_ldI, pw_ldL, pw_ldR, pw_stI, pw_stL, pw_nz, pw_ltI, pw_leI, pw_eqI, pw_eqm, pw_eqm2, pw_ltm, pw_mlt, pw_lem, pw_mle, pw_mm, pw_dec, pw_nar0, pw_nar1, nI_add, pw_sub, pw_mul, pw_and, pw_or, pw_andn, pw_shl1, pw_shl, pw_shr, pw_dv, nI_l, lN_i, Bool.false_eq_true, reduceCtorEq, if_false, if_true, ↓reduceIte, if_pos, if_neg, r_152_0, r1, k2]
          unfold plP
          refine lp_run (fun n => (nI (sumTo n (fun d => if w.testBit (gv K 2 * (s - 200) + d) = true then 1 else 0)), nI n)) (fun _ => h) (gv K 2) _ ?_ ?_ FU (fu_lt (by omega))
          · intro i hi rec
            have hm : gv K 2 * (s - 200) + gv K 2 ≤ gc K := by
              have : gv K 2 * (s - 200 + 1) ≤ gv K 2 * gv K 1 := Nat.mul_le_mul_left _ (by omega)
              rw [Nat.mul_add, Nat.mul_one, Nat.mul_comm (gv K 2) (gv K 1)] at this
              rw [hgc]
              exact this
            unfold b_X12_plain_61
            rcases tf (w.testBit (gv K 2 * (s - 200) + i)) with hb | hb
            · simp (disch := omega) only [pw_lt, pw_cb, pw_cbx, pw_cbxr, pw_lit, pw_litL, pw_oi, pw_oim, pw_oi8, pw_m, pw_ldI, pw_ldL, pw_ldR, pw_stI, pw_stL, pw_nz, pw_ltI, pw_leI, pw_eqI, pw_eqm, pw_eqm2, pw_ltm, pw_mlt, pw_lem, pw_mle, pw_mm, pw_dec, pw_nar0, pw_nar1, nI_add, pw_sub, pw_mul, pw_and, pw_or, pw_andn, pw_shl1, pw_shl, pw_shr, pw_dv, nI_l, lN_i, Bool.false_eq_true, reduceCtorEq, if_false, if_true, ↓reduceIte, if_pos, if_neg, pw_tb, hb, sumTo, Nat.add_zero]
            · simp (disch := omega) only [pw_lt, pw_cb, pw_cbx, pw_cbxr, pw_lit, pw_litL, pw_oi, pw_oim, pw_oi8, pw_m, pw_ldI, pw_ldL, pw_ldR, pw_stI, pw_stL, pw_nz, pw_ltI, pw_leI, pw_eqI, pw_eqm, pw_eqm2, pw_ltm, pw_mlt, pw_lem, pw_mle, pw_mm, pw_dec, pw_nar0, pw_nar1, nI_add, pw_sub, pw_mul, pw_and, pw_or, pw_andn, pw_shl1, pw_shl, pw_shr, pw_dv, nI_l, lN_i, Bool.false_eq_true, reduceCtorEq, if_false, if_true, ↓reduceIte, if_pos, if_neg, pw_tb, hb, sumTo]
          · intro rec
            unfold b_X12_plain_61
            simp (disch := omega) only [pw_lt, pw_cb, pw_cbx, pw_cbxr, pw_lit, pw_litL, pw_oi, pw_oim, pw_oi8, pw_m, pw_ldI, pw_ldL, pw_ldR, pw_stI, pw_stL, pw_nz, pw_ltI, pw_leI, pw_eqI, pw_eqm, pw_eqm2, pw_ltm, pw_mlt, pw_lem, pw_mle, pw_mm, pw_dec, pw_nar0, pw_nar1, nI_add, pw_sub, pw_mul, pw_and, pw_or, pw_andn, pw_shl1, pw_shl, pw_shr, pw_dv, nI_l, lN_i, Bool.false_eq_true, reduceCtorEq, if_false, if_true, ↓reduceIte, if_pos, if_neg]
        · rw [if_neg c4]
          rcases tf (w.testBit (s - 100)) with hb | hb
          · simp (disch := omega) only [pw_lt, pw_cb, pw_cbx, pw_cbxr, pw_lit, pw_litL, pw_oi, pw_oim, pw_oi8, pw_m, pw_ldI, pw_ldL, pw_ldR, pw_stI, pw_stL, pw_nz, pw_ltI, pw_leI, pw_eqI, pw_eqm, pw_eqm2, pw_ltm, pw_mlt, pw_lem, pw_mle, pw_mm, pw_dec, pw_nar0, pw_nar1, nI_add, pw_sub, pw_mul, pw_and, pw_or, pw_andn, pw_shl1, pw_shl, pw_shr, pw_dv, nI_l, lN_i, Bool.false_eq_true, reduceCtorEq, if_false, if_true, ↓reduceIte, if_pos, if_neg, r_152_0, r1, k2, pw_tb, hb]
          · simp (disch := omega) only [pw_lt, pw_cb, pw_cbx, pw_cbxr, pw_lit, pw_litL, pw_oi, pw_oim, pw_oi8, pw_m, pw_ldI, pw_ldL, pw_ldR, pw_stI, pw_stL, pw_nz, pw_ltI, pw_leI, pw_eqI, pw_eqm, pw_eqm2, pw_ltm, pw_mlt, pw_lem, pw_mle, pw_mm, pw_dec, pw_nar0, pw_nar1, nI_add, pw_sub, pw_mul, pw_and, pw_or, pw_andn, pw_shl1, pw_shl, pw_shr, pw_dv, nI_l, lN_i, Bool.false_eq_true, reduceCtorEq, if_false, if_true, ↓reduceIte, if_pos, if_neg, r_152_0, r1, k2, pw_tb, hb]
/-! ===== steps one behind the other ===== -/
def okS (K : Nat → Int32) (s : Nat) : Prop := (10 ≤ s ∧ s ≤ 18) ∨ okA K s
def ty1 (s : Nat) (st : List Bool) : Option (List Bool) :=
  if 100 ≤ s then (if st.length < 64 then some (false :: st) else none)
  else if s = 18 then (match st with | true :: r => some (true :: r) | _ => none)
  else if s ≤ 12 then (match st with | false :: false :: r => some (false :: r) | _ => none)
  else if s ≤ 15 then (match st with | false :: false :: r => some (true :: r) | _ => none)
  else (match st with | true :: true :: r => some (true :: r) | _ => none)
def tyr : List Nat → List Bool → Option (List Bool)
  | [], st => some st
  | s :: l, st => match ty1 s st with
    | none => none
    | some st' => tyr l st'
def ev1 (K : Nat → Int32) (w s : Nat) (st : List Int) : List Int :=
  if 100 ≤ s then (pl K w s : Int) :: st
  else if s = 18 then (match st with | x :: r => (1 - x) :: r | _ => [])
  else (match st with | y :: x :: r => bop s x y :: r | _ => [])
def evr (K : Nat → Int32) (w : Nat) : List Nat → List Int → List Int
  | [], st => st
  | s :: l, st => evr K w l (ev1 K w s st)
def tyV (t : Bool) (v : Int) : Prop := if t then V01 v else VB v
set_option maxRecDepth 16384 in
theorem tyV_b {t : Bool} {v : Int} (h : tyV t v) : VB v := by
  cases t
  · exact h
  · rcases (show V01 v from h) with rfl | rfl <;> exact ⟨by omega, by omega⟩
def tyS : List Bool → List Int → Prop
  | [], [] => True
  | t :: a, v :: b => tyV t v ∧ tyS a b
  | _, _ => False
set_option maxRecDepth 16384 in
theorem tyS_len : ∀ {a b}, tyS a b → a.length = b.length
  | [], [], _ => rfl
  | _ :: a, _ :: b, h => by
    have := tyS_len h.2
    simp [this]
  | [], _ :: _, h => absurd h (by intro q; exact q)
  | _ :: _, [], h => absurd h (by intro q; exact q)
set_option maxRecDepth 16384 in
theorem bop_V {s : Nat} {a b : Int} : VB (bop s a b) := by
  have b1 := bd_b (a + b)
  have b2 := bd_b (a - b)
  have b3 := bd_b (a * b)
  unfold bop VB
  split
  · exact b1
  · split
    · exact b2
    · split
      · exact b3
      · split
        · split <;> omega
        · split
          · split <;> omega
          · split
            · split <;> omega
            · split
              · split <;> omega
              · split <;> omega
set_option maxRecDepth 16384 in
theorem bop_01 {s : Nat} {a b : Int} (hs : 13 ≤ s) : V01 (bop s a b) := by
  unfold bop V01
  rw [if_neg (by omega), if_neg (by omega), if_neg (by omega)]
  split
  · split <;> simp
  · split
    · split <;> simp
    · split
      · split <;> simp
      · split
        · split <;> simp
        · split <;> simp
/- a typed step: what it does to the stack, as cases -/
set_option maxRecDepth 16384 in
theorem ty1_cases {K : Nat → Int32} {w s : Nat} {ts ts' : List Bool} {vs : List Int} (H : RK K) (hw : w < 4096) (hs : okS K s) (ht : ty1 s ts = some ts') (hv : tyS ts vs) :
    tyS ts' (ev1 K w s vs) ∧ ((100 ≤ s ∧ okA K s ∧ vs.length < 64 ∧ ev1 K w s vs = (pl K w s : Int) :: vs) ∨ (s = 18 ∧ ∃ x r, vs = x :: r ∧ V01 x ∧ ev1 K w s vs = (1 - x) :: r) ∨ (10 ≤ s ∧ s ≤ 17 ∧ ∃ y x r, vs = y :: x :: r ∧ VB x ∧ VB y ∧ (16 ≤ s → V01 x ∧ V01 y) ∧ ev1 K w s vs = bop s x y :: r)) := by
  have hl := tyS_len hv
  unfold ty1 at ht
  unfold ev1
  by_cases c1 : 100 ≤ s
  · rw [if_pos c1] at ht ⊢
    have hA : okA K s := by
      rcases hs with q | q
      · omega
      · exact q
    have hp := pl_le H hw hA
    by_cases c2 : ts.length < 64
    · rw [if_pos c2] at ht
      cases ht
      exact ⟨⟨⟨by omega, by omega⟩, hv⟩, Or.inl ⟨c1, hA, by omega, rfl⟩⟩
    · rw [if_neg c2] at ht
      cases ht
  · have hs2 : 10 ≤ s ∧ s ≤ 18 := by
      rcases hs with q | q
      · exact q
      · unfold okA at q; omega
    rw [if_neg c1] at ht ⊢
    by_cases c2 : s = 18
    · rw [if_pos c2] at ht ⊢
      match ts, vs, ht, hv with
      | true :: r, x :: b, ht, hv =>
        cases ht
        have hx : V01 x := hv.1
        refine ⟨⟨?_, hv.2⟩, Or.inr (Or.inl ⟨c2, x, b, rfl, hx, rfl⟩)⟩
        rcases hx with rfl | rfl
        · exact Or.inr rfl
        · exact Or.inl rfl
    · rw [if_neg c2] at ht ⊢
      by_cases c3 : s ≤ 12
      · rw [if_pos c3] at ht
        match ts, vs, ht, hv with
        | false :: false :: r, y :: x :: b, ht, hv =>
          cases ht
          exact ⟨⟨bop_V, hv.2.2⟩, Or.inr (Or.inr ⟨hs2.1, by omega, y, x, b, rfl, hv.2.1, hv.1, fun q => by omega, rfl⟩)⟩
      · rw [if_neg c3] at ht
        by_cases c4 : s ≤ 15
        · rw [if_pos c4] at ht
          match ts, vs, ht, hv with
          | false :: false :: r, y :: x :: b, ht, hv =>
            cases ht
            exact ⟨⟨bop_01 (by omega), hv.2.2⟩, Or.inr (Or.inr ⟨hs2.1, by omega, y, x, b, rfl, hv.2.1, hv.1, fun q => by omega, rfl⟩)⟩
        · rw [if_neg c4] at ht
          match ts, vs, ht, hv with
          | true :: true :: r, y :: x :: b, ht, hv =>
            cases ht
            exact ⟨⟨bop_01 (by omega), hv.2.2⟩, Or.inr (Or.inr ⟨hs2.1, by omega, y, x, b, rfl, tyV_b hv.2.1, tyV_b hv.1, fun _ => ⟨hv.2.1, hv.1⟩, rfl⟩)⟩
/- the stack in a row of cells -/
def SA (vs : List Int) (a : Nat) (h : PH) : Prop := ∀ j, j < vs.length → h.1 a j = iI (vs.getD (vs.length - 1 - j) 0)
set_option maxRecDepth 16384 in
theorem SA_push {vs : List Int} {a : Nat} {h : PH} {v : Int} (S : SA vs a h) : SA (v :: vs) a (pI h a vs.length (iI v)) := by
  intro j hj
  simp only [List.length_cons] at hj ⊢
  by_cases e : j = vs.length
  · subst e
    rw [pw_pIs, show vs.length + 1 - 1 - vs.length = 0 by omega]
    rfl
  · rw [pw_pIo (by omega), S j (by omega), show vs.length + 1 - 1 - j = (vs.length - 1 - j) + 1 by omega]
    rfl
set_option maxRecDepth 16384 in
theorem SA_tail {vs : List Int} {a : Nat} {h : PH} {v : Int} (S : SA (v :: vs) a h) : SA vs a h := by
  intro j hj
  have := S j (by simp only [List.length_cons]; omega)
  simp only [List.length_cons] at this
  rw [show vs.length + 1 - 1 - j = (vs.length - 1 - j) + 1 by omega] at this
  exact this
set_option maxRecDepth 16384 in
theorem SA_top {vs : List Int} {a : Nat} {h : PH} {v : Int} (S : SA (v :: vs) a h) : h.1 a vs.length = iI v := by
  have := S vs.length (by simp)
  simp only [List.length_cons] at this
  rw [show vs.length + 1 - 1 - vs.length = 0 by omega] at this
  exact this

/-! ===== calls: the class's answer is the reference's ===== -/
def agr {β : Type} (hs : List (Nat × Int32)) (x : β ⊕ Nat) (t : Int32) (b : β) : Prop := match x with
  | .inl r => t = nI 0 ∧ b = r
  | .inr k => ∃ q, hs.find? (fun q => q.1 == k) = some q ∧ q.2 ≠ nI 0 ∧ t = q.2
def PC {β : Type} (hs : List (Nat × Int32)) (F : PH → Option ((β ⊕ Nat) × PH)) (G : PH → Option (β × PH)) (h : PH) : Prop := ok (F h) (fun x h1 => ∀ h2, eqx [177] h1 h2 → ok (G h2) (fun b h3 => h3.2 177 0 = h2.2 177 0 ∧ agr hs x (h3.1 152 5) b ∧ INV h3))
def PN (F G : PH → Option (Int32 × PH)) (h : PH) : Prop := ok (F h) (fun x h1 => ok (G h1) (fun b h3 => b = x ∧ INV h3))
def rfL : List Nat := [152, 154, 156, 161, 162, 163, 164, 165, 166, 167, 168, 169, 170, 171, 172, 173]
def clL : List Nat := [31, 32, 33, 34, 35, 36, 37, 38, 39, 40, 41, 42, 43, 44, 45, 46, 47, 48, 49, 50, 51, 52, 53, 54, 55, 56, 57, 58, 59, 60, 61, 62, 63, 64, 65, 66, 67, 68, 69, 70, 71, 72, 73, 74, 83]
set_option maxRecDepth 16384 in
theorem rfL_sc : ∀ c, c ∈ rfL → c ∈ scL := by decide
set_option maxRecDepth 16384 in
theorem clL_sc : ∀ c, c ∈ clL → c ∈ scL := by decide
set_option maxRecDepth 16384 in
theorem CHc_to {K T : Nat → Int32} {h h' : PH} {S : List Nat} (e : eqx S h h') (a : 33 ∉ S) (b : 34 ∉ S) (c : 35 ∉ S) (d : CHc K T h) : CHc K T h' := by
  unfold CHc CT2 at *
  rw [(e 33 a).1, (e 34 b).1, (e 35 c).1]
  exact d
set_option maxRecDepth 16384 in
theorem INV.r {h h' : PH} (I : INV h) (e : eqx rfL h h') (f : f152 h h') : INV h' := by
  refine I.q (eqx_mono e rfL_sc) f ?_ (CHc_to e (by decide) (by decide) (by decide) I.2.2.2.2.2.2.1)
  rw [(e 31 (by decide)).1]
  exact I.2.2.2.2.2.1
set_option maxRecDepth 16384 in
theorem INV.o {h h' : PH} (I : INV h) (e : eqx [177] h h') : INV h' := by
  refine I.q (eqx_mono e (fun c hc => by simp at hc; subst hc; decide)) (f152_eq e (by decide)) ?_ (CHc_to e (by decide) (by decide) (by decide) I.2.2.2.2.2.2.1)
  rw [(e 31 (by decide)).1]
  exact I.2.2.2.2.2.1
set_option maxRecDepth 16384 in
theorem INV.c {h h' : PH} (I : INV h) (e : eqx clL h h') (hd : HD (h.1 153) (h.1 159) (h'.1 31)) (cc : CHc (h.1 153) (h.1 159) h') : INV h' :=
  I.q (eqx_mono e clL_sc) (f152_eq e (by decide)) hd cc
/- the class looked, and nothing that is known changed -/
def CQ (h h' : PH) : Prop := eqx clL h h' ∧ INV h'
set_option maxRecDepth 16384 in
theorem CQ.k {h h' : PH} (c : CQ h h') : h'.1 153 = h.1 153 := (c.1 153 (by decide)).1
set_option maxRecDepth 16384 in
theorem CQ.t {h h' : PH} (c : CQ h h') : h'.1 159 = h.1 159 := (c.1 159 (by decide)).1
set_option maxRecDepth 16384 in
theorem CQ_rfl {h : PH} (I : INV h) : CQ h h := ⟨eqx_rfl _ _, I⟩
set_option maxRecDepth 16384 in
theorem CQ_fc {h h' : PH} (I : INV h) (e : eqx [31, 32] h h') (F : FC (h.1 153) (h.1 159) h') : CQ h h' := ⟨eqx_mono e (by decide), I.c (eqx_mono e (by decide)) F.2.2.2 (CHc_to e (by decide) (by decide) (by decide) I.2.2.2.2.2.2.1)⟩
set_option maxRecDepth 16384 in
theorem CQ_sc {h h' : PH} {S : List Nat} (I : INV h) (e : eqx S h h') (hs : ∀ c, c ∈ S → c ∈ clL) (a : 31 ∉ S) (b : 33 ∉ S) (c : 34 ∉ S) (d : 35 ∉ S) : CQ h h' := ⟨eqx_mono e hs, I.c (eqx_mono e hs) (by rw [(e 31 a).1]; exact I.2.2.2.2.2.1) (CHc_to e b c d I.2.2.2.2.2.2.1)⟩
set_option maxRecDepth 16384 in
theorem CQ_trans {a b c : PH} (x : CQ a b) (y : CQ b c) : CQ a c := ⟨eqx_trans x.1 y.1, y.2⟩
set_option maxRecDepth 16384 in
theorem INV.rc {h : PH} (I : INV h) (c : CT2 (h.1 153) (h.1 159) (gv (h.1 153) 7) h) (o : h.1 33 7 = nI (gv (h.1 153) 7)) : RC (h.1 153) (h.1 159) h := ⟨I.fc, c, o, I.op, I.2.2.2.1.2.2.2.1, I.2.2.2.1.2.2.1⟩
set_option maxRecDepth 16384 in
theorem c_set {h : PH} (I : INV h) : ok (f_X2_settled 33 h) (fun _ h' => CQ h h' ∧ RC (h.1 153) (h.1 159) h') := by
  refine ok_mono (c_settled I.fc I.2.2.2.2.2.2.1 I.op) ?_
  rintro r h' ⟨e, F, cc, ct, o⟩
  have q : CQ h h' := ⟨eqx_mono e (by decide), I.c (eqx_mono e (by decide)) F.2.2.2 cc⟩
  refine ⟨q, ?_⟩
  have := q.2.rc (by rw [q.k, q.t]; exact ct) (by rw [q.k]; exact o)
  rw [q.k, q.t] at this
  exact this
set_option maxRecDepth 16384 in
theorem RX.to {K T : Nat → Int32} {h h' : PH} {S : List Nat} (R : RX K T h) (e : eqx S h h') (a : 153 ∉ S) (b : 159 ∉ S) (c : 160 ∉ S) : RX K T h' := ⟨R.1, by rw [(e 153 a).1]; exact R.2.1, by rw [(e 159 b).1]; exact R.2.2.1, R.2.2.2.1, by rw [(e 160 c).1]; exact R.2.2.2.2⟩
set_option maxRecDepth 16384 in
theorem RX_pI {K T : Nat → Int32} {h : PH} {j : Nat} {v : Int32} (R : RX K T h) : RX K T (pI h 152 j v) := R.to (eqx_pI (S := [152]) (by decide)) (by decide) (by decide) (by decide)
/- the reference looked -/
def RQ (h h' : PH) : Prop := eqx rfL h h' ∧ f152 h h'
set_option maxRecDepth 16384 in
theorem RQ_rfl (h : PH) : RQ h h := ⟨eqx_rfl _ _, f152_rfl h⟩
set_option maxRecDepth 16384 in
theorem RQ_pI {h : PH} {j : Nat} {v : Int32} (a : j ≠ 7) (b : j ≠ 15) (c : j ≠ 16) : RQ h (pI h 152 j v) := ⟨eqx_pI (by decide), f152_pI a b c⟩
set_option maxRecDepth 16384 in
theorem RQ_th {h : PH} {v : Int32} : RQ h (pI h 152 5 v) := RQ_pI (by decide) (by decide) (by decide)
set_option maxRecDepth 16384 in
theorem RQ_eq {h h' : PH} {S : List Nat} (e : eqx S h h') (hs : ∀ c, c ∈ S → c ∈ rfL) (a : 152 ∉ S) : RQ h h' := ⟨eqx_mono e hs, f152_eq e a⟩
set_option maxRecDepth 16384 in
theorem RQ_trans {a b c : PH} (x : RQ a b) (y : RQ b c) : RQ a c := ⟨eqx_trans x.1 y.1, f152_trans x.2 y.2⟩
set_option maxRecDepth 16384 in
theorem RQ.out {h h' : PH} (x : RQ h h') : h'.2 177 0 = h.2 177 0 := by rw [(x.1 177 (by decide)).2]
set_option maxRecDepth 16384 in
theorem RQ.rx {K T : Nat → Int32} {h h' : PH} (x : RQ h h') (R : RX K T h) : RX K T h' := R.to x.1 (by decide) (by decide) (by decide)
/- a call that only looks -/
set_option maxRecDepth 16384 in
theorem PC_q {β : Type} {hs : List (Nat × Int32)} {F : PH → Option ((β ⊕ Nat) × PH)} {G : PH → Option (β × PH)} {h : PH} (x : β ⊕ Nat) (c : ok (F h) (fun y h1 => y = x ∧ CQ h h1)) (r : ∀ h2, RX (h.1 153) (h.1 159) h2 → INV h2 → h2.1 153 = h.1 153 → ok (G h2) (fun b h3 => agr hs x (h3.1 152 5) b ∧ RQ h2 h3)) : PC hs F G h := by
  refine ok_mono c ?_
  rintro y h1 ⟨rfl, cq⟩ h2 e2
  have I2 := cq.2.o e2
  have k2 : h2.1 153 = h.1 153 := by rw [(e2 153 (by decide)).1, cq.k]
  have t2 : h2.1 159 = h.1 159 := by rw [(e2 159 (by decide)).1, cq.t]
  have R2 := I2.rx
  rw [k2, t2] at R2
  refine ok_mono (r h2 R2 I2 k2) ?_
  rintro b h3 ⟨a, rq⟩
  exact ⟨rq.out, a, I2.r rq.1 rq.2⟩
set_option maxRecDepth 16384 in
theorem PN_q {F G : PH → Option (Int32 × PH)} {h : PH} (x : Int32) (c : ok (F h) (fun y h1 => y = x ∧ CQ h h1)) (r : ∀ h2, RX (h.1 153) (h.1 159) h2 → INV h2 → h2.1 153 = h.1 153 → ok (G h2) (fun b h3 => b = x ∧ RQ h2 h3)) : PN F G h := by
  refine ok_mono c ?_
  rintro y h1 ⟨rfl, cq⟩
  have I2 := cq.2
  have R2 := I2.rx
  rw [cq.k, cq.t] at R2
  refine ok_mono (r h1 R2 I2 cq.k) ?_
  rintro b h3 ⟨a, rq⟩
  exact ⟨a, I2.r rq.1 rq.2⟩
/-! arguments within bounds -/
set_option maxRecDepth 16384 in
theorem nI_rng {a : Int32} {n : Nat} (hn : n < 2147483648) : (¬ a < nI 0 ∧ a < nI n) ↔ ∃ k, k < n ∧ a = nI k := by
  constructor
  · rintro ⟨h1, h2⟩
    rw [Int32.lt_iff_toInt_lt, pw_toInt (by decide)] at h1
    rw [Int32.lt_iff_toInt_lt, pw_toInt hn] at h2
    refine ⟨a.toInt.toNat, by omega, Int32.toInt_inj.mp ?_⟩
    rw [pw_toInt (by omega)]
    omega
  · rintro ⟨k, h1, rfl⟩
    rw [pw_ltI (by omega) (by decide), pw_ltI (by omega) hn]
    omega
set_option maxRecDepth 16384 in
theorem nI_rngle {a : Int32} {n : Nat} (hn : n < 2147483647) : (¬ a < nI 0 ∧ a ≤ nI n) ↔ ∃ k, k ≤ n ∧ a = nI k := by
  have := nI_rng (a := a) (n := n + 1) (by omega)
  have e : (a ≤ nI n) = (a < nI (n + 1)) := by
    rw [Int32.le_iff_toInt_le, Int32.lt_iff_toInt_lt, pw_toInt (by omega), pw_toInt (by omega)]
    apply propext
    omega
  rw [e, this]
  constructor
  · rintro ⟨k, h1, h2⟩; exact ⟨k, by omega, h2⟩
  · rintro ⟨k, h1, h2⟩; exact ⟨k, by omega, h2⟩
def inN (n : Nat) (a : Int32) : Prop := ∃ k, k < n ∧ a = nI k
set_option maxRecDepth 16384 in
theorem inN_le {n : Nat} {a : Int32} : inN (n + 1) a ↔ ∃ k, k ≤ n ∧ a = nI k := by
  constructor
  · rintro ⟨k, h1, h2⟩; exact ⟨k, by omega, h2⟩
  · rintro ⟨k, h1, h2⟩; exact ⟨k, by omega, h2⟩
set_option maxRecDepth 16384 in
theorem e_withinI {a : Int32} {n : Nat} {h : PH} (hn : n < 2147483648) (q : inN (n + 1) a) : f_X12_within a.toInt64 (lN 0) (lN n) h = some (bI true, h) := by
  rw [e_within]
  have hb : (decide ((0 : Int64) ≤ a.toInt64) && decide (a.toInt64 ≤ lN n)) = true := (in_nI hn).mpr (inN_le.mp q)
  have hb : (decide (lN 0 ≤ a.toInt64) && decide (a.toInt64 ≤ lN n)) = true := hb
  rw [hb]
set_option maxRecDepth 16384 in
theorem e_withinI1 {a : Int32} {n : Nat} {h : PH} (hn : n < 2147483648) (q : ¬ inN (n + 1) a) : f_X12_within a.toInt64 (lN 0) (lN n) h = some (bI false, h) := by
  rw [e_within]
  have hb : (decide (lN 0 ≤ a.toInt64) && decide (a.toInt64 ≤ lN n)) = false := by
    cases hb : (decide (lN 0 ≤ a.toInt64) && decide (a.toInt64 ≤ lN n))
    · rfl
    · have hb : (decide ((0 : Int64) ≤ a.toInt64) && decide (a.toInt64 ≤ lN n)) = true := hb
      exact absurd (inN_le.mpr ((in_nI hn).mp hb)) q
  rw [hb]
set_option maxRecDepth 16384 in
theorem c_rng {α : Type} {a : Int32} {n : Nat} {x y : α} (hn : n < 2147483648) (h : ¬ ∃ k, k < n ∧ a = nI k) : (if a < nI 0 then x else if a < nI n then y else x) = x := by
  by_cases h1 : a < nI 0
  · rw [if_pos h1]
  · rw [if_neg h1]
    by_cases h2 : a < nI n
    · exact absurd ((nI_rng hn).mp ⟨h1, h2⟩) h
    · rw [if_neg h2]
set_option maxRecDepth 16384 in
theorem c_rngle {α : Type} {a : Int32} {n : Nat} {x y : α} (hn : n < 2147483647) (h : ¬ ∃ k, k ≤ n ∧ a = nI k) : (if a < nI 0 then x else if a ≤ nI n then y else x) = x := by
  by_cases h1 : a < nI 0
  · rw [if_pos h1]
  · rw [if_neg h1]
    by_cases h2 : a ≤ nI n
    · exact absurd ((nI_rngle hn).mp ⟨h1, h2⟩) h
    · rw [if_neg h2]
set_option maxRecDepth 16384 in
theorem INV.s5 {h : PH} (I : INV h) : h.1 3 5 = nI (gv (h.1 153) 5) := by rw [I.2.2.2.1.1.2.2.2.2.2.1]; exact (rk_e I.1.1).2.2.2.2.2.1
set_option maxRecDepth 16384 in
theorem INV.s8 {h : PH} (I : INV h) : h.1 3 8 = nI (ga (h.1 153)) := I.2.2.2.1.1.2.2.2.2.2.2.2.2.1
set_option maxRecDepth 16384 in
theorem c_checkWish {h : PH} {a : Int32} (I : INV h) (q : inN (gv (h.1 153) 5) a) : f_X11_checkWish 0 a h = some (.inl (), h) := by
  obtain ⟨k, hk, rfl⟩ := q
  have hb := rk_b I.1.1
  unfold f_X11_checkWish
  simp (disch := omega) only [pw_lt, pw_cb, pw_cbx, pw_cbxr, pw_lit, pw_litL, pw_oi, pw_oim, pw_oi8, pw_m, pw_ldI, pw_ldL, pw_ldR, pw_stI, pw_stL, pw_nz, pw_ltI, pw_leI, pw_eqI, pw_eqm, pw_eqm2, pw_ltm, pw_mlt, pw_lem, pw_mle, pw_mm, pw_dec, pw_nar0, pw_nar1, nI_add, pw_sub, pw_mul, pw_and, pw_or, pw_andn, pw_shl1, pw_shl, pw_shr, pw_dv, nI_l, lN_i, Bool.false_eq_true, reduceCtorEq, if_false, if_true, ↓reduceIte, if_pos, if_neg, r_0_2, I.s5]
set_option maxRecDepth 16384 in
theorem c_checkWish1 {h : PH} {a : Int32} (I : INV h) (q : ¬ inN (gv (h.1 153) 5) a) : f_X11_checkWish 0 a h = some (.inr 1, h) := by
  have hb := rk_b I.1.1
  unfold f_X11_checkWish
  simp only [pw_lt, pw_lit, r_0_2, I.s5]
  exact c_rng (by omega) (fun z => q (z))
set_option maxRecDepth 16384 in
theorem c_checkCells {h : PH} {a : Int32} (I : INV h) (q : inN (ga (h.1 153) + 1) a) : f_X11_checkCells 0 a h = some (.inl (), h) := by
  obtain ⟨k, hk, rfl⟩ := q
  have hb := rk_b I.1.1
  unfold f_X11_checkCells
  simp (disch := omega) only [pw_lt, pw_cb, pw_cbx, pw_cbxr, pw_lit, pw_litL, pw_oi, pw_oim, pw_oi8, pw_m, pw_ldI, pw_ldL, pw_ldR, pw_stI, pw_stL, pw_nz, pw_ltI, pw_leI, pw_eqI, pw_eqm, pw_eqm2, pw_ltm, pw_mlt, pw_lem, pw_mle, pw_mm, pw_dec, pw_nar0, pw_nar1, nI_add, pw_sub, pw_mul, pw_and, pw_or, pw_andn, pw_shl1, pw_shl, pw_shr, pw_dv, nI_l, lN_i, Bool.false_eq_true, reduceCtorEq, if_false, if_true, ↓reduceIte, if_pos, if_neg, r_0_2, I.s8]
set_option maxRecDepth 16384 in
theorem c_checkCells1 {h : PH} {a : Int32} (I : INV h) (q : ¬ inN (ga (h.1 153) + 1) a) : f_X11_checkCells 0 a h = some (.inr 0, h) := by
  have hb := rk_b I.1.1
  unfold f_X11_checkCells
  simp only [pw_lt, pw_lit, r_0_2, I.s8]
  exact c_rngle (by omega) (fun z => q (inN_le.mpr z))
set_option maxRecDepth 16384 in
theorem c_checkWhat {h : PH} {a : Int32} {n : Nat} (hn : n < 2147483647) (q : inN (n + 1) a) : f_X11_checkWhat 0 a (nI n) h = some (.inl (), h) := by
  obtain ⟨k, hk, rfl⟩ := q
  unfold f_X11_checkWhat
  simp (disch := omega) only [pw_lt, pw_cb, pw_cbx, pw_cbxr, pw_lit, pw_litL, pw_oi, pw_oim, pw_oi8, pw_m, pw_ldI, pw_ldL, pw_ldR, pw_stI, pw_stL, pw_nz, pw_ltI, pw_leI, pw_eqI, pw_eqm, pw_eqm2, pw_ltm, pw_mlt, pw_lem, pw_mle, pw_mm, pw_dec, pw_nar0, pw_nar1, nI_add, pw_sub, pw_mul, pw_and, pw_or, pw_andn, pw_shl1, pw_shl, pw_shr, pw_dv, nI_l, lN_i, Bool.false_eq_true, reduceCtorEq, if_false, if_true, ↓reduceIte, if_pos, if_neg]
set_option maxRecDepth 16384 in
theorem c_checkWhat1 {h : PH} {a : Int32} {n : Nat} (hn : n < 2147483647) (q : ¬ inN (n + 1) a) : f_X11_checkWhat 0 a (nI n) h = some (.inr 0, h) := by
  unfold f_X11_checkWhat
  simp only [pw_lt, pw_lit]
  exact c_rngle (by omega) (fun z => q (inN_le.mpr z))
set_option maxRecDepth 16384 in
theorem c_checkHundredths {h : PH} {a : Int32} (q : inN (100 + 1) a) : f_X11_checkHundredths 0 a h = some (.inl (), h) := by
  obtain ⟨k, hk, rfl⟩ := q
  unfold f_X11_checkHundredths
  simp (disch := omega) only [pw_lt, pw_cb, pw_cbx, pw_cbxr, pw_lit, pw_litL, pw_oi, pw_oim, pw_oi8, pw_m, pw_ldI, pw_ldL, pw_ldR, pw_stI, pw_stL, pw_nz, pw_ltI, pw_leI, pw_eqI, pw_eqm, pw_eqm2, pw_ltm, pw_mlt, pw_lem, pw_mle, pw_mm, pw_dec, pw_nar0, pw_nar1, nI_add, pw_sub, pw_mul, pw_and, pw_or, pw_andn, pw_shl1, pw_shl, pw_shr, pw_dv, nI_l, lN_i, Bool.false_eq_true, reduceCtorEq, if_false, if_true, ↓reduceIte, if_pos, if_neg]
set_option maxRecDepth 16384 in
theorem c_checkHundredths1 {h : PH} {a : Int32} (q : ¬ inN (100 + 1) a) : f_X11_checkHundredths 0 a h = some (.inr 0, h) := by
  unfold f_X11_checkHundredths
  simp only [pw_lt, pw_lit]
  exact c_rngle (by omega) (fun z => q (inN_le.mpr z))
set_option maxRecDepth 16384 in
theorem c_checkRule {h : PH} {a : Int32} (q : inN (4) a) : f_X11_checkRule 0 a h = some (.inl (), h) := by
  obtain ⟨k, hk, rfl⟩ := q
  unfold f_X11_checkRule
  simp (disch := omega) only [pw_lt, pw_cb, pw_cbx, pw_cbxr, pw_lit, pw_litL, pw_oi, pw_oim, pw_oi8, pw_m, pw_ldI, pw_ldL, pw_ldR, pw_stI, pw_stL, pw_nz, pw_ltI, pw_leI, pw_eqI, pw_eqm, pw_eqm2, pw_ltm, pw_mlt, pw_lem, pw_mle, pw_mm, pw_dec, pw_nar0, pw_nar1, nI_add, pw_sub, pw_mul, pw_and, pw_or, pw_andn, pw_shl1, pw_shl, pw_shr, pw_dv, nI_l, lN_i, Bool.false_eq_true, reduceCtorEq, if_false, if_true, ↓reduceIte, if_pos, if_neg]
set_option maxRecDepth 16384 in
theorem c_checkRule1 {h : PH} {a : Int32} (q : ¬ inN (4) a) : f_X11_checkRule 0 a h = some (.inr 0, h) := by
  unfold f_X11_checkRule
  simp only [pw_lt, pw_lit]
  exact c_rng (by omega) (fun z => q (z))
set_option maxRecDepth 16384 in
theorem c_checkPerson {h : PH} {a : Int32} (q : inN (6) a) : f_X11_checkPerson 0 a h = some (.inl (), h) := by
  obtain ⟨k, hk, rfl⟩ := q
  unfold f_X11_checkPerson
  simp (disch := omega) only [pw_lt, pw_cb, pw_cbx, pw_cbxr, pw_lit, pw_litL, pw_oi, pw_oim, pw_oi8, pw_m, pw_ldI, pw_ldL, pw_ldR, pw_stI, pw_stL, pw_nz, pw_ltI, pw_leI, pw_eqI, pw_eqm, pw_eqm2, pw_ltm, pw_mlt, pw_lem, pw_mle, pw_mm, pw_dec, pw_nar0, pw_nar1, nI_add, pw_sub, pw_mul, pw_and, pw_or, pw_andn, pw_shl1, pw_shl, pw_shr, pw_dv, nI_l, lN_i, Bool.false_eq_true, reduceCtorEq, if_false, if_true, ↓reduceIte, if_pos, if_neg]
set_option maxRecDepth 16384 in
theorem c_checkPerson1 {h : PH} {a : Int32} (q : ¬ inN (6) a) : f_X11_checkPerson 0 a h = some (.inr 0, h) := by
  unfold f_X11_checkPerson
  simp only [pw_lt, pw_lit]
  exact c_rng (by omega) (fun z => q (z))
/- a set of open wishes -/
def isSet (K : Nat → Int32) (a : Int32) : Prop := ∃ s, a = nI s ∧ sdf s (gv K 7) = 0 ∧ s < 1024
set_option maxRecDepth 16384 in
theorem set_iff {K : Nat → Int32} (H : RK K) {a : Int32} : (a &&& (nI (gv K 7) ^^^ mI)) = nI 0 ↔ isSet K a := by
  have hb := rk_b H
  rw [pw_dn (by omega)]
  constructor
  · rintro ⟨s, h1, h2, h3⟩
    exact ⟨s, h1, sdf_0.mpr h2, by omega⟩
  · rintro ⟨s, h1, h2, h3⟩
    exact ⟨s, h1, sdf_0.mp h2, sub_le h2⟩
set_option maxRecDepth 16384 in
theorem c_checkSet {h : PH} {a : Int32} (I : INV h) (q : isSet (h.1 153) a) : f_X11_checkSet 0 a h = some (.inl (), h) := by
  unfold f_X11_checkSet
  simp only [pw_lt, pw_lit, r_0_5, I.op, pw_m]
  exact if_pos ((set_iff I.1.1).mpr q)
set_option maxRecDepth 16384 in
theorem c_checkSet1 {h : PH} {a : Int32} (I : INV h) (q : ¬ isSet (h.1 153) a) : f_X11_checkSet 0 a h = some (.inr 0, h) := by
  unfold f_X11_checkSet
  simp only [pw_lt, pw_lit, r_0_5, I.op, pw_m]
  exact if_neg (fun z => q ((set_iff I.1.1).mp z))
set_option maxRecDepth 16384 in
theorem e_asked {K T : Nat → Int32} {h : PH} {a : Int32} (R : RX K T h) (q : isSet K a) : f_X12_isAsked 152 a h = some (bI true, h) := by
  have hk := (rk_e R.1).2.2.2.2.2.2.2
  unfold f_X12_isAsked
  simp (disch := omega) only [pw_lt, pw_lit, r_152_0, pw_ldI, R.2.1, hk, pw_m]
  rw [if_pos ((set_iff R.1).mpr q)]
  rfl
set_option maxRecDepth 16384 in
theorem e_asked1 {K T : Nat → Int32} {h : PH} {a : Int32} (R : RX K T h) (q : ¬ isSet K a) : f_X12_isAsked 152 a h = some (bI false, h) := by
  have hk := (rk_e R.1).2.2.2.2.2.2.2
  unfold f_X12_isAsked
  simp (disch := omega) only [pw_lt, pw_lit, r_152_0, pw_ldI, R.2.1, hk, pw_m]
  rw [if_neg (fun z => q ((set_iff R.1).mp z))]
  rfl
/- the reference refuses -/
set_option maxRecDepth 16384 in
theorem r_fails {h : PH} {v : Int32} : RQ h (pI (pI h 152 5 v) 152 5 (nI 1)) := RQ_trans RQ_th RQ_th
set_option maxRecDepth 16384 in
theorem th_pI {h : PH} {v : Int32} : (pI h 152 5 v).1 152 5 = v := pw_pIs
set_option maxRecDepth 16384 in
theorem RQ_lays {h1 h2 h3 : PH} (a : RQ h1 h2) (e : eqx [162, 163] h2 h3) : RQ h1 h3 := RQ_trans a (RQ_eq e (by decide) (by decide))
set_option maxRecDepth 16384 in
theorem lays_th {h2 h3 : PH} {S : List Nat} (e : eqx S h2 h3) (a : 152 ∉ S) : h3.1 152 5 = h2.1 152 5 := by rw [(e 152 a).1]
set_option maxRecDepth 16384 in
theorem call_together {h : PH} {a : Int32} (I : INV h) : PC hs_L_together (f_X11_together 0 a) (f_X12_together 152 a) h := by
  by_cases q : isSet (h.1 153) a
  · obtain ⟨s, rfl, q1, q2⟩ := id q
    have hsl : s < 2 ^ gv (h.1 153) 5 := Nat.lt_of_le_of_lt (sub_le q1) (open_lt I.1.1)
    refine PC_q (.inl (oI (pF (h.1 153) (h.1 159) s))) ?_ (fun h2 R2 I2 k2 => ?_)
    · unfold f_X11_together
      rw [c_checkSet I q]
      simp (disch := omega) only [pw_lt, pw_cb, pw_cbx, pw_cbxr, pw_lit, pw_litL, pw_oi, pw_oim, pw_oi8, pw_m, pw_ldI, pw_ldL, pw_ldR, pw_stI, pw_stL, pw_nz, pw_ltI, pw_leI, pw_eqI, pw_eqm, pw_eqm2, pw_ltm, pw_mlt, pw_lem, pw_mle, pw_mm, pw_dec, pw_nar0, pw_nar1, nI_add, pw_sub, pw_mul, pw_and, pw_or, pw_andn, pw_shl1, pw_shl, pw_shr, pw_dv, nI_l, lN_i, Bool.false_eq_true, reduceCtorEq, if_false, if_true, ↓reduceIte, if_pos, if_neg, r_0_7]
      refine ok_cb (c_set I) ?_
      rintro r h1 ⟨cq, R⟩
      have v := R.2.1.2.2 s hsl
      rw [pFo_pF R.1.1] at v
      unfold f_X2_leastPlan
      simp (disch := omega) only [pw_lt, pw_cb, pw_cbx, pw_cbxr, pw_lit, pw_litL, pw_oi, pw_oim, pw_oi8, pw_m, pw_ldI, pw_ldL, pw_ldR, pw_stI, pw_stL, pw_nz, pw_ltI, pw_leI, pw_eqI, pw_eqm, pw_eqm2, pw_ltm, pw_mlt, pw_lem, pw_mle, pw_mm, pw_dec, pw_nar0, pw_nar1, nI_add, pw_sub, pw_mul, pw_and, pw_or, pw_andn, pw_shl1, pw_shl, pw_shr, pw_dv, nI_l, lN_i, Bool.false_eq_true, reduceCtorEq, if_false, if_true, ↓reduceIte, if_pos, if_neg, r_33_5, v]
      exact ok_some ⟨rfl, cq⟩
    · unfold f_X12_together
      simp only [pw_lt, pw_lit]
      have R3 := RX_pI (j := 5) (v := nI 0) R2
      rw [e_asked R3 q]
      simp (disch := omega) only [pw_lt, pw_cb, pw_cbx, pw_cbxr, pw_lit, pw_litL, pw_oi, pw_oim, pw_oi8, pw_m, pw_ldI, pw_ldL, pw_ldR, pw_stI, pw_stL, pw_nz, pw_ltI, pw_leI, pw_eqI, pw_eqm, pw_eqm2, pw_ltm, pw_mlt, pw_lem, pw_mle, pw_mm, pw_dec, pw_nar0, pw_nar1, nI_add, pw_sub, pw_mul, pw_and, pw_or, pw_andn, pw_shl1, pw_shl, pw_shr, pw_dv, nI_l, lN_i, Bool.false_eq_true, reduceCtorEq, if_false, if_true, ↓reduceIte, if_pos, if_neg, bI_0']
      refine ok_cb (e_lays R3) ?_
      rintro r h3 ⟨e3, G⟩
      have hp := e_planFor (h := h3) (s := s) (T := h.1 159) (by rw [G.1.2.1]; exact G.1.1) (by rw [G.1.2.1]; exact G.2.1) (by omega)
      rw [G.1.2.1] at hp
      simp (disch := omega) only [pw_lt, pw_cb, pw_cbx, pw_cbxr, pw_lit, pw_litL, pw_oi, pw_oim, pw_oi8, pw_m, pw_ldI, pw_ldL, pw_ldR, pw_stI, pw_stL, pw_nz, pw_ltI, pw_leI, pw_eqI, pw_eqm, pw_eqm2, pw_ltm, pw_mlt, pw_lem, pw_mle, pw_mm, pw_dec, pw_nar0, pw_nar1, nI_add, pw_sub, pw_mul, pw_and, pw_or, pw_andn, pw_shl1, pw_shl, pw_shr, pw_dv, nI_l, lN_i, Bool.false_eq_true, reduceCtorEq, if_false, if_true, ↓reduceIte, if_pos, if_neg, hp]
      exact ok_some ⟨⟨by rw [lays_th e3 (by decide), th_pI], rfl⟩, RQ_lays RQ_th e3⟩
  · refine PC_q (.inr 0) ?_ (fun h2 R2 I2 k2 => ?_)
    · unfold f_X11_together
      rw [c_checkSet1 I q]
      simp (disch := omega) only [pw_lt, pw_cb, pw_cbx, pw_cbxr, pw_lit, pw_litL, pw_oi, pw_oim, pw_oi8, pw_m, pw_ldI, pw_ldL, pw_ldR, pw_stI, pw_stL, pw_nz, pw_ltI, pw_leI, pw_eqI, pw_eqm, pw_eqm2, pw_ltm, pw_mlt, pw_lem, pw_mle, pw_mm, pw_dec, pw_nar0, pw_nar1, nI_add, pw_sub, pw_mul, pw_and, pw_or, pw_andn, pw_shl1, pw_shl, pw_shr, pw_dv, nI_l, lN_i, Bool.false_eq_true, reduceCtorEq, if_false, if_true, ↓reduceIte, if_pos, if_neg]
      exact ok_some ⟨rfl, CQ_rfl I⟩
    · unfold f_X12_together
      simp only [pw_lt, pw_lit]
      rw [e_asked1 (RX_pI R2) q]
      simp (disch := omega) only [pw_lt, pw_cb, pw_cbx, pw_cbxr, pw_lit, pw_litL, pw_oi, pw_oim, pw_oi8, pw_m, pw_ldI, pw_ldL, pw_ldR, pw_stI, pw_stL, pw_nz, pw_ltI, pw_leI, pw_eqI, pw_eqm, pw_eqm2, pw_ltm, pw_mlt, pw_lem, pw_mle, pw_mm, pw_dec, pw_nar0, pw_nar1, nI_add, pw_sub, pw_mul, pw_and, pw_or, pw_andn, pw_shl1, pw_shl, pw_shr, pw_dv, nI_l, lN_i, Bool.false_eq_true, reduceCtorEq, if_false, if_true, ↓reduceIte, if_pos, if_neg, bI_0', e_fails]
      exact ok_some ⟨⟨(0, 1), rfl, by decide, th_pI⟩, r_fails⟩

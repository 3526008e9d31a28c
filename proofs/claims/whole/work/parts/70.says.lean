/-! ===== readings: what can have been said ===== -/
def lfM (i : Nat) : Nat := orTo 32 (fun a => a.testBit i)
set_option maxRecDepth 16384 in
theorem lfM_tb {i a : Nat} (h : a < 32) : (lfM i).testBit a = a.testBit i := by
  unfold lfM
  rw [orTo_tb, decide_eq_true h, Bool.true_and]
def op1 (j : Bool) (a b : Nat) : Nat := if j then a ||| b else a &&& b
def cmb (j : Bool) (A B : List Nat) : List Nat := A.flatMap (fun a => B.map (fun b => op1 j a b))
def cat (g : Nat → List Nat) : Nat → List Nat
  | 0 => []
  | n + 1 => cat g n ++ g n
def L0 (f : Nat) : List Nat := [lfM f]
def L1 (J : Nat → Bool) (f : Nat) : List Nat := cmb (J f) (L0 f) (L0 (f + 1))
def L2 (J : Nat → Bool) (f : Nat) : List Nat := cmb (J f) (L0 f) (L1 J (f + 1)) ++ cmb (J (f + 1)) (L1 J f) (L0 (f + 2))
def L3 (J : Nat → Bool) (f : Nat) : List Nat := cmb (J f) (L0 f) (L2 J (f + 1)) ++ cmb (J (f + 1)) (L1 J f) (L1 J (f + 2)) ++ cmb (J (f + 2)) (L2 J f) (L0 (f + 3))
def L4 (J : Nat → Bool) (f : Nat) : List Nat := cmb (J f) (L0 f) (L3 J (f + 1)) ++ cmb (J (f + 1)) (L1 J f) (L2 J (f + 2)) ++ cmb (J (f + 2)) (L2 J f) (L1 J (f + 3)) ++ cmb (J (f + 3)) (L3 J f) (L0 (f + 4))
def LL (J : Nat → Bool) (d f : Nat) : List Nat := if d = 0 then L0 f else if d = 1 then L1 J f else if d = 2 then L2 J f else if d = 3 then L3 J f else L4 J f
set_option maxRecDepth 16384 in
theorem LL_cat (J : Nat → Bool) (d f : Nat) (h1 : 1 ≤ d) (h4 : d ≤ 4) : LL J d f = cat (fun k => cmb (J (f + k)) (LL J k f) (LL J (d - 1 - k) (f + k + 1))) d := by
  rcases (by omega : d = 1 ∨ d = 2 ∨ d = 3 ∨ d = 4) with rfl | rfl | rfl | rfl <;> rfl
set_option maxRecDepth 16384 in
theorem cmb_len (j : Bool) (B : List Nat) : ∀ (A : List Nat), (cmb j A B).length = A.length * B.length
  | [] => by simp [cmb]
  | a :: A => by
    have ih := cmb_len j B A
    unfold cmb at ih ⊢
    rw [List.flatMap_cons, List.length_append, ih, List.length_map, List.length_cons, Nat.succ_mul, Nat.add_comm]
def cn (d : Nat) : Nat := [1, 1, 2, 5, 14].getD d 0
set_option maxRecDepth 16384 in
theorem LL_len (J : Nat → Bool) (d f : Nat) (h : d ≤ 4) : (LL J d f).length = cn d := by
  have e0 : ∀ f, (L0 f).length = 1 := fun _ => rfl
  have e1 : ∀ f, (L1 J f).length = 1 := fun f => by unfold L1; rw [cmb_len, e0, e0]
  have e2 : ∀ f, (L2 J f).length = 2 := fun f => by unfold L2; rw [List.length_append, cmb_len, cmb_len, e0, e1, e1, e0]
  have e3 : ∀ f, (L3 J f).length = 5 := fun f => by unfold L3; rw [List.length_append, List.length_append, cmb_len, cmb_len, cmb_len, e0, e2, e1, e1, e2, e0]
  have e4 : ∀ f, (L4 J f).length = 14 := fun f => by unfold L4; rw [List.length_append, List.length_append, List.length_append, cmb_len, cmb_len, cmb_len, cmb_len, e0, e3, e1, e2, e2, e1, e3, e0]
  rcases (by omega : d = 0 ∨ d = 1 ∨ d = 2 ∨ d = 3 ∨ d = 4) with rfl | rfl | rfl | rfl | rfl
  · exact e0 f
  · exact e1 f
  · exact e2 f
  · exact e3 f
  · exact e4 f
set_option maxRecDepth 16384 in
theorem take_snoc {γ : Type} (B : List Nat) (g : Nat → γ) {b : Nat} (h : b < B.length) : (B.take (b + 1)).map g = (B.take b).map g ++ [g (B.getD b 0)] := by
  rw [List.take_add_one, List.getElem?_eq_getElem h, List.map_append, List.getD_eq_getElem?_getD, List.getElem?_eq_getElem h]
  rfl
set_option maxRecDepth 16384 in
theorem take_flat (A : List Nat) (g : Nat → List Nat) {a : Nat} (h : a < A.length) : (A.take (a + 1)).flatMap g = (A.take a).flatMap g ++ g (A.getD a 0) := by
  rw [List.take_add_one, List.getElem?_eq_getElem h, List.flatMap_append, List.getD_eq_getElem?_getD, List.getElem?_eq_getElem h]
  simp
set_option maxRecDepth 16384 in
theorem op1_tb (j : Bool) (a b i : Nat) : (op1 j a b).testBit i = if j then (a.testBit i || b.testBit i) else (a.testBit i && b.testBit i) := by
  unfold op1
  cases j
  · simp [Nat.testBit_and]
  · simp [Nat.testBit_or]
/-! ===== the class's brackets ===== -/
set_option maxRecDepth 16384 in
theorem r_46 {i : Nat} (h : i < 25) : rt 46 i = 47 + i := (by decide : ∀ i, i < 25 → rt 46 i = 47 + i) i h
/- the readings of one stretch -/
def RW (A : Nat → Nat) (i : Nat) (L : List Nat) (h : PH) : Prop := h.1 72 i = nI L.length ∧ ∀ k, k < L.length → ∀ c, c < 32 → bt (h.1 (47 + i) k) c = (L.getD k 0).testBit (A c)
set_option maxRecDepth 16384 in
theorem RW.of {A : Nat → Nat} {i : Nat} {L : List Nat} {h h' : PH} (r : RW A i L h) (a : h'.1 72 i = h.1 72 i) (b : h'.1 (47 + i) = h.1 (47 + i)) : RW A i L h' := ⟨by rw [a]; exact r.1, fun k hk c hc => by rw [b]; exact r.2 k hk c hc⟩
set_option maxRecDepth 16384 in
theorem RW.push {A : Nat → Nat} {i x : Nat} {L : List Nat} {h : PH} {v : Int32} (r : RW A i L h) (hi : i < 25) (hv : ∀ c, c < 32 → bt v c = x.testBit (A c)) : RW A i (L ++ [x]) (pI (pI h (47 + i) L.length v) 72 i (nI (L.length + 1))) := by
  refine ⟨by rw [pw_pIs, List.length_append, List.length_singleton], fun k hk c hc => ?_⟩
  rw [List.length_append, List.length_singleton] at hk
  rw [pw_pIo (by omega), getD_snoc hk]
  by_cases e : k = L.length
  · rw [if_pos e, e, pw_pIs]
    exact hv c hc
  · rw [if_neg e, pw_pIo (by omega)]
    exact r.2 k (by omega) c hc
/- only one stretch changed -/
def fW (i : Nat) (h h' : PH) : Prop := eqx [72, 47 + i] h h' ∧ ∀ k, k ≠ i → h'.1 72 k = h.1 72 k
set_option maxRecDepth 16384 in
theorem fW_rfl (i : Nat) (h : PH) : fW i h h := ⟨eqx_rfl _ _, fun _ _ => rfl⟩
set_option maxRecDepth 16384 in
theorem fW_trans {i : Nat} {a b c : PH} (x : fW i a b) (y : fW i b c) : fW i a c := ⟨eqx_trans x.1 y.1, fun k hk => by rw [y.2 k hk]; exact x.2 k hk⟩
set_option maxRecDepth 16384 in
theorem fW_RW {A : Nat → Nat} {i k : Nat} {L : List Nat} {h h' : PH} (f : fW i h h') (hk : k ≠ i) (hk2 : k < 25) (r : RW A k L h) : RW A k L h' := r.of (f.2 k hk) (f.1 (47 + k) (by simp; omega)).1
set_option maxRecDepth 16384 in
theorem c_joinAt {A : Nat → Nat} {J : Nat → Bool} {f c l : Nat} {LA LB W : List Nat} {h : PH} (hf : f ≤ c) (hc : c < l) (hl : l < 5) (ra : RW A (5 * f + c) LA h) (rb : RW A (5 * (c + 1) + l) LB h) (rw' : RW A (5 * f + l) W h) (hj : h.1 43 c = bI (J c)) (hA : LA.length ≤ 14) (hB : LB.length ≤ 14) (hlen : W.length + LA.length * LB.length ≤ 14) : ok (f_X1_joinAt 42 (nI f) (nI c) (nI l) h) (fun _ h' => fW (5 * f + l) h h' ∧ RW A (5 * f + l) (W ++ cmb (J c) LA LB) h') := by
  have i1 : 5 * f + c < 25 := by omega
  have i2 : 5 * (c + 1) + l < 25 := by omega
  have i3 : 5 * f + l < 25 := by omega
  have n1 : 5 * f + c ≠ 5 * f + l := by omega
  have n2 : 5 * (c + 1) + l ≠ 5 * f + l := by omega
  have e1 : nI f * (5 : Int32) + nI c = nI (5 * f + c) := by rw [pw_lit, pw_mul, nI_add, Nat.mul_comm]
  have e2 : (nI c + (1 : Int32)) * (5 : Int32) + nI l = nI (5 * (c + 1) + l) := by rw [pw_lit, pw_lit, nI_add, pw_mul, nI_add, Nat.mul_comm]
  have e3 : nI f * (5 : Int32) + nI l = nI (5 * f + l) := by rw [pw_lit, pw_mul, nI_add, Nat.mul_comm]
  unfold f_X1_joinAt
  refine ok_lt (ok_lt (ok_lt (ok_lt ?_)))
  rw [e1, e2, e3]
  refine lp_ok (fun m s h1 => m ≤ LA.length ∧ s = nI (LA.length - m) ∧ fW (5 * f + l) h h1 ∧ RW A (5 * f + l) (W ++ cmb (J c) (LA.take (LA.length - m)) LB) h1) ?_ FU LA.length _ h ⟨Nat.le_refl _, by rw [Nat.sub_self]; rfl, fW_rfl _ h, by rw [Nat.sub_self, List.take_zero]; show RW A (5 * f + l) (W ++ []) h; rw [List.append_nil]; exact rw'⟩ (fu_lt (by omega))
  rintro m rec s h1 ⟨hm, rfl, f1, r1⟩ hrec
  have ra1 := fW_RW f1 n1 i1 ra
  have rb1 := fW_RW f1 n2 i2 rb
  unfold b_X1_joinAt_26
  simp only [r_42_6]
  rw [pw_ldI i1 (by omega), ra1.1]
  by_cases h0 : m = 0
  · subst h0
    rw [Nat.sub_zero, if_pos ((nI_leI (by omega) (by omega)).mpr (Nat.le_refl _))]
    rw [Nat.sub_zero, List.take_length] at r1
    exact ok_some ⟨f1, r1⟩
  · generalize ha : LA.length - m = a at *
    have hal : a < LA.length := by omega
    have e9 : LA.length - (m - 1) = a + 1 := by omega
    rw [if_neg (fun z => by have := (nI_leI (by omega) (by omega)).mp z; omega)]
    have hW1 : (W ++ cmb (J c) (LA.take a) LB).length = W.length + a * LB.length := by
      rw [List.length_append, cmb_len, List.length_take, Nat.min_eq_left (by omega)]
    have hmul : (a + 1) * LB.length ≤ LA.length * LB.length := Nat.mul_le_mul_right _ hal
    rw [Nat.succ_mul] at hmul
    have hnext : W ++ cmb (J c) (LA.take (a + 1)) LB = (W ++ cmb (J c) (LA.take a) LB) ++ LB.map (fun b => op1 (J c) (LA.getD a 0) b) := by
      unfold cmb
      rw [take_flat _ _ hal, List.append_assoc]
    refine ok_lt ?_
    refine ok_join (fun h7 => fW (5 * f + l) h1 h7 ∧ RW A (5 * f + l) (W ++ cmb (J c) (LA.take (a + 1)) LB) h7) ?_ (fun j144 hj144 => ?_)
    · rintro h7 ⟨f7, r7⟩
      refine ok_lt ?_
      rw [pw_oi, nI_add]
      exact hrec (m - 1) _ h7 (by omega) ⟨by omega, by rw [e9], fW_trans f1 f7, by rw [e9]; exact r7⟩
    · rw [hnext] at hj144
      generalize W ++ cmb (J c) (LA.take a) LB = W1 at *
      refine lp_ok (fun n s h2 => n ≤ LB.length ∧ s = nI (LB.length - n) ∧ fW (5 * f + l) h1 h2 ∧ RW A (5 * f + l) (W1 ++ (LB.take (LB.length - n)).map (fun b => op1 (J c) (LA.getD a 0) b)) h2) ?_ FU LB.length _ h1 ⟨Nat.le_refl _, by rw [Nat.sub_self]; rfl, fW_rfl _ h1, by rw [Nat.sub_self, List.take_zero, List.map_nil, List.append_nil]; exact r1⟩ (fu_lt (by omega))
      rintro n rec2 s h2 ⟨hn, rfl, f2, r2⟩ hrec2
      have ra2 := fW_RW f2 n1 i1 ra1
      have rb2 := fW_RW f2 n2 i2 rb1
      unfold b_X1_joinAt_41
      simp only [r_42_6, r_42_5, r_42_2]
      rw [pw_ldI i2 (by omega), rb2.1]
      by_cases h0' : n = 0
      · subst h0'
        rw [Nat.sub_zero, if_pos ((nI_leI (by omega) (by omega)).mpr (Nat.le_refl _))]
        rw [Nat.sub_zero, List.take_length] at r2
        exact hj144 h2 ⟨f2, r2⟩
      · generalize hb : LB.length - n = b at *
        have hbl : b < LB.length := by omega
        have e9' : LB.length - (n - 1) = b + 1 := by omega
        rw [if_neg (fun z => by have := (nI_leI (by omega) (by omega)).mp z; omega)]
        have hW2 : (W1 ++ (LB.take b).map (fun b => op1 (J c) (LA.getD a 0) b)).length = W1.length + b := by
          rw [List.length_append, List.length_map, List.length_take, Nat.min_eq_left (by omega)]
        have hnext2 : W1 ++ (LB.take (b + 1)).map (fun b => op1 (J c) (LA.getD a 0) b) = (W1 ++ (LB.take b).map (fun b => op1 (J c) (LA.getD a 0) b)) ++ [op1 (J c) (LA.getD a 0) (LB.getD b 0)] := by
          rw [take_snoc _ _ hbl, List.append_assoc]
        have hw72 : h2.1 72 (5 * f + l) = nI (W1.length + b) := by rw [r2.1, hW2]
        have hlt : W1.length + b < 14 := by omega
        rw [pw_ldI i3 (by omega), hw72, if_neg (show ¬ (14 : Int32) ≤ nI (W1.length + b) by rw [pw_lit, pw_leI (by omega) (by omega)]; omega)]
        have j2 : h2.1 43 c = bI (J c) := by rw [(f2.1 43 (by simp; omega)).1, (f1.1 43 (by simp; omega)).1]; exact hj
        rw [pw_ldR i1 (by omega), r_46 i1, pw_ldI (show a < 14 by omega) (by omega)]
        refine ok_lt ?_
        rw [pw_ldR i2 (by omega), r_46 i2, pw_ldI (show b < 14 by omega) (by omega)]
        refine ok_lt ?_
        rw [pw_ldR i3 (by omega), r_46 i3, pw_ldI i3 (by omega), hw72, pw_ldI (show c < 5 by omega) (by omega), j2]
        have va := ra2.2 a hal
        have vb := rb2.2 b hbl
        generalize h2.1 (47 + (5 * f + c)) a = xa at *
        generalize h2.1 (47 + (5 * (c + 1) + l)) b = xb at *
        refine ok_joinT (fun t h21 => h21 = h2 ∧ ∀ q, q < 32 → bt t q = (op1 (J c) (LA.getD a 0) (LB.getD b 0)).testBit (A q)) ?_ (fun j126 hj126 => ?_)
        · rintro t h21 ⟨rfl, ht⟩
          rw [pw_stI (show W1.length + b < 14 by omega) (by omega), pw_ldI i3 (by omega)]
          have x72 : (pI h21 (47 + (5 * f + l)) (W1.length + b) t).1 72 (5 * f + l) = nI (W1.length + b) := by rw [pw_pIo (by omega)]; exact hw72
          rw [x72, pw_stI i3 (by omega)]
          refine ok_lt ?_
          rw [pw_oi, nI_add]
          have hp := r2.push i3 ht
          rw [hW2] at hp
          have k1 : nI (W1.length + b) + (1 : Int32) = nI (W1.length + b + 1) := nI_add _ 1
          rw [k1]
          refine hrec2 (n - 1) _ _ (by omega) ⟨by omega, by rw [e9'], fW_trans f2 ⟨eqx_trans (eqx_pI (by simp)) (eqx_pI (by simp)), fun k hk => by rw [pw_pIo (by omega), pw_pIo (by omega)]⟩, ?_⟩
          rw [e9', hnext2]
          exact hp
        · rcases tf (J c) with hJ | hJ
          · rw [if_neg (show ¬ bI (J c) = (1 : Int32) by rw [hJ]; decide)]
            refine hj126 _ _ ⟨rfl, fun q hq => ?_⟩
            rw [b_and, va q hq, vb q hq, op1_tb, hJ]
            rfl
          · rw [if_pos (show bI (J c) = (1 : Int32) by rw [hJ]; rfl)]
            refine hj126 _ _ ⟨rfl, fun q hq => ?_⟩
            rw [b_or, va q hq, vb q hq, op1_tb, hJ]
            rfl
/- what is laid: all stretches shorter than d, and those of d before f -/
def SP (A : Nat → Nat) (J : Nat → Bool) (P d f : Nat) (h : PH) : Prop := ∀ e g, g + e < P → (e < d ∨ e = d ∧ g < f) → RW A (5 * g + (g + e)) (LL J e g) h
set_option maxRecDepth 16384 in
theorem cat_len (g : Nat → List Nat) (n : Nat) : ∀ k, k ≤ n → (cat g k).length ≤ (cat g n).length := by
  induction n with
  | zero => intro k hk; rw [show k = 0 by omega]; exact Nat.le_refl _
  | succ n ih =>
    intro k hk
    by_cases e : k = n + 1
    · rw [e]; exact Nat.le_refl _
    · have := ih k (by omega)
      rw [cat, List.length_append]
      omega
set_option maxRecDepth 16384 in
theorem c_bracket {A : Nat → Nat} {J : Nat → Bool} {P : Nat} {h : PH} (h1 : 1 ≤ P) (h5 : P ≤ 5) (v7 : h.1 42 7 = nI P) (hj : ∀ k, k + 1 < P → h.1 43 k = bI (J k)) (s : SP A J P 1 0 h) : ok (f_X1_bracket 42 h) (fun _ h' => eqx (72 :: rgL 47 25) h h' ∧ SP A J P P 0 h') := by
  have e0 : ∀ i, i < 25 → ∀ {h h' : PH}, fW i h h' → eqx (72 :: rgL 47 25) h h' := fun i hi h h' f => eqx_mono f.1 (fun c hc => by
    simp only [List.mem_cons, List.not_mem_nil, or_false] at hc
    rcases hc with rfl | rfl
    · exact List.mem_cons_self
    · exact List.mem_cons_of_mem _ (rg_m.mpr (by omega)))
  have n43 : ∀ c, c ∉ (72 :: rgL 47 25) → c ∉ (72 :: rgL 47 25) := fun c h => h
  have k43 : 43 ∉ (72 :: rgL 47 25) := by decide
  have k42 : 42 ∉ (72 :: rgL 47 25) := by decide
  unfold f_X1_bracket
  refine ok_lt ?_
  refine lp_ok (fun m s h1 => ∃ d, d + m = P ∧ 1 ≤ d ∧ s = nI d ∧ eqx (72 :: rgL 47 25) h h1 ∧ SP A J P d 0 h1) ?_ FU (P - 1) _ h ⟨1, by omega, Nat.le_refl _, rfl, eqx_rfl _ _, s⟩ (fu_lt (by omega))
  rintro m rec s1 h1 ⟨d, hd, hd1, rfl, e1, s1⟩ hrec
  have w7 : h1.1 42 7 = nI P := by rw [(e1 42 k42).1]; exact v7
  unfold b_X1_bracket_2
  rw [w7]
  by_cases h0 : m = 0
  · rw [if_pos ((nI_leI (by omega) (by omega)).mpr (by omega))]
    rw [show d = P by omega] at s1
    exact ok_some ⟨e1, s1⟩
  · rw [if_neg (fun z => by have := (nI_leI (by omega) (by omega)).mp z; omega)]
    refine ok_lt ?_
    refine ok_join (fun h3 => eqx (72 :: rgL 47 25) h h3 ∧ SP A J P (d + 1) 0 h3) ?_ (fun j66 hj66 => ?_)
    · rintro h3 ⟨e3, s3⟩
      refine ok_lt ?_
      rw [pw_oi, nI_add]
      exact hrec (m - 1) _ h3 (by omega) ⟨d + 1, by omega, by omega, rfl, e3, s3⟩
    · refine lp_ok (fun n s h2 => ∃ f, f + n + d = P ∧ s = nI f ∧ eqx (72 :: rgL 47 25) h h2 ∧ SP A J P d f h2) ?_ FU (P - d) _ h1 ⟨0, by omega, rfl, e1, s1⟩ (fu_lt (by omega))
      rintro n rec2 s2 h2 ⟨f, hf, rfl, e2, s2⟩ hrec2
      have w72 : h2.1 42 7 = nI P := by rw [(e2 42 k42).1]; exact v7
      unfold b_X1_bracket_12
      rw [w72, nI_add]
      by_cases h0' : n = 0
      · rw [if_pos ((nI_leI (by omega) (by omega)).mpr (by omega))]
        refine hj66 h2 ⟨e2, fun e g hg hh => s2 e g hg ?_⟩
        omega
      · rw [if_neg (fun z => by have := (nI_leI (by omega) (by omega)).mp z; omega)]
        have hi : 5 * f + (f + d) < 25 := by omega
        have ei : nI f * (5 : Int32) + nI (f + d) = nI (5 * f + (f + d)) := by rw [pw_lit, pw_mul, nI_add, Nat.mul_comm]
        refine ok_lt ?_
        rw [ei]
        simp only [r_42_6]
        rw [pw_stI hi (by omega)]
        have f3 : fW (5 * f + (f + d)) h2 (pI h2 72 (5 * f + (f + d)) (0 : Int32)) := ⟨eqx_pI (by simp), fun k hk => pw_pIo (by omega)⟩
        have r3 : RW A (5 * f + (f + d)) [] (pI h2 72 (5 * f + (f + d)) (0 : Int32)) := ⟨pw_pIs, fun k hk => absurd hk (Nat.not_lt_zero k)⟩
        generalize pI h2 72 (5 * f + (f + d)) (0 : Int32) = h3 at *
        refine ok_lt ?_
        refine ok_join (fun h8 => fW (5 * f + (f + d)) h2 h8 ∧ RW A (5 * f + (f + d)) (LL J d f) h8) ?_ (fun j60 hj60 => ?_)
        · rintro h8 ⟨f8, r8⟩
          refine ok_lt ?_
          rw [pw_oi, nI_add]
          refine hrec2 (n - 1) _ h8 (by omega) ⟨f + 1, by omega, rfl, eqx_trans e2 (e0 _ hi f8), fun e g hg hh => ?_⟩
          by_cases hc : e = d ∧ g = f
          · rw [hc.1, hc.2]
            exact r8
          · exact fW_RW f8 (by omega) (by omega) (s2 e g hg (by omega))
        · have hcat := LL_cat J d f hd1 (by omega)
          have hlen14 : (LL J d f).length ≤ 14 := by
            rw [LL_len J d f (by omega)]
            exact (by decide : ∀ d, d < 5 → cn d ≤ 14) d (by omega)
          rw [hcat] at hlen14
          refine lp_ok (fun q s h4 => ∃ k, k + q = d ∧ s = nI (f + k) ∧ fW (5 * f + (f + d)) h2 h4 ∧ RW A (5 * f + (f + d)) (cat (fun k => cmb (J (f + k)) (LL J k f) (LL J (d - 1 - k) (f + k + 1))) k) h4) ?_ FU d _ h3 ⟨0, by omega, rfl, f3, r3⟩ (fu_lt (by omega))
          rintro q rec3 s3 h4 ⟨k, hk, rfl, f4, r4⟩ hrec3
          unfold b_X1_bracket_40
          by_cases h0'' : q = 0
          · rw [if_pos ((nI_leI (by omega) (by omega)).mpr (by omega))]
            rw [show k = d by omega, ← hcat] at r4
            exact hj60 h4 ⟨f4, r4⟩
          · rw [if_neg (fun z => by have := (nI_leI (by omega) (by omega)).mp z; omega)]
            have ra : RW A (5 * f + (f + k)) (LL J k f) h4 := fW_RW f4 (by omega) (by omega) (s2 k f (by omega) (by omega))
            have rb : RW A (5 * (f + k + 1) + (f + d)) (LL J (d - 1 - k) (f + k + 1)) h4 := by
              have := s2 (d - 1 - k) (f + k + 1) (by omega) (by omega)
              rw [show f + k + 1 + (d - 1 - k) = f + d by omega] at this
              exact fW_RW f4 (by omega) (by omega) this
            have hl1 := LL_len J k f (by omega)
            have hl2 := LL_len J (d - 1 - k) (f + k + 1) (by omega)
            have hb14 : ∀ d, d < 5 → cn d ≤ 14 := by decide
            have hnx := cat_len (fun k => cmb (J (f + k)) (LL J k f) (LL J (d - 1 - k) (f + k + 1))) d (k + 1) (by omega)
            rw [cat, List.length_append, cmb_len] at hnx
            have j4 : h4.1 43 (f + k) = bI (J (f + k)) := by
              rw [(f4.1 43 (by simp; omega)).1, (e2 43 k43).1]
              exact hj (f + k) (by omega)
            refine ok_cb (c_joinAt (J := J) (f := f) (c := f + k) (l := f + d) (by omega) (by omega) (by omega) ra rb r4 j4 (by rw [hl1]; exact hb14 k (by omega)) (by rw [hl2]; exact hb14 _ (by omega)) (by omega)) ?_
            rintro r5 h5 ⟨f5, r5⟩
            refine ok_lt ?_
            rw [pw_oi, nI_add]
            exact hrec3 (q - 1) _ h5 (by omega) ⟨k + 1, by omega, rfl, fW_trans f4 f5, r5⟩

/-! ===== readings: the reference's stretches ===== -/
/- what is laid for a stretch so far, from R on -/
def RP (K : Nat → Int32) (B : Nat → Nat) (R : Nat) (W : List Nat) (h : PH) : Prop := h.1 152 33 = nI (R + W.length) ∧ ∀ k, k < W.length → ∀ w, w < 4096 → rb h (R + k) w = (decide (w ≤ ga K) && (W.getD k 0).testBit (B w))
/- only the stretch i changed, and what lies from R on -/
def fS (i R : Nat) (h h' : PH) : Prop := eqx [152, 170, 171, 172] h h' ∧ (∀ j, j ≠ 33 → h'.1 152 j = h.1 152 j) ∧ (∀ x, x < 64 * R → h'.2 170 x = h.2 170 x) ∧ ∀ k, k ≠ i → h'.1 171 k = h.1 171 k ∧ h'.1 172 k = h.1 172 k
set_option maxRecDepth 16384 in
theorem fS_rfl (i R : Nat) (h : PH) : fS i R h h := ⟨eqx_rfl _ _, fun _ _ => rfl, fun _ _ => rfl, fun _ _ => ⟨rfl, rfl⟩⟩
set_option maxRecDepth 16384 in
theorem fS_trans {i R : Nat} {a b c : PH} (x : fS i R a b) (y : fS i R b c) : fS i R a c := ⟨eqx_trans x.1 y.1, fun j hj => by rw [y.2.1 j hj]; exact x.2.1 j hj, fun k hk => by rw [y.2.2.1 k hk]; exact x.2.2.1 k hk, fun k hk => by rw [(y.2.2.2 k hk).1, (y.2.2.2 k hk).2]; exact x.2.2.2 k hk⟩
set_option maxRecDepth 16384 in
theorem fS_fL {i R R' : Nat} {h h' : PH} (f : fL R' h h') (hR : R ≤ R') : fS i R h h' := ⟨eqx_mono f.1 (by decide), f.2.1, fun x hx => f.2.2.1 x (by omega), fun k _ => ⟨by rw [(f.1 171 (by decide)).1], by rw [(f.1 172 (by decide)).1]⟩⟩
set_option maxRecDepth 16384 in
theorem RR.of {K : Nat → Int32} {B : Nat → Nat} {i k F R : Nat} {L : List Nat} {h h' : PH} (r : RR K B k L F h) (f : fS i R h h') (hk : k ≠ i) (hF : F + L.length ≤ R) : RR K B k L F h' := by
  obtain ⟨r1, r2, r3⟩ := r
  refine ⟨by rw [(f.2.2.2 k hk).1]; exact r1, by rw [(f.2.2.2 k hk).2]; exact r2, fun q hq w hw => ?_⟩
  rw [← r3 q hq w hw]
  unfold rb
  rw [f.2.2.1 _ (by omega)]
set_option maxRecDepth 16384 in
theorem RP.push {K : Nat → Int32} {B : Nat → Nat} {R x : Nat} {W : List Nat} {h h' : PH} (r : RP K B R W h) (f : fL (R + W.length) h h') (hx : ∀ w, w < 4096 → rb h' (R + W.length) w = (decide (w ≤ ga K) && x.testBit (B w))) : RP K B R (W ++ [x]) h' := by
  refine ⟨by rw [f.2.2.2, List.length_append, List.length_singleton, Nat.add_assoc], fun k hk w hw => ?_⟩
  rw [List.length_append, List.length_singleton] at hk
  rw [getD_snoc hk]
  by_cases e : k = W.length
  · rw [if_pos e, e]
    exact hx w hw
  · rw [if_neg e, fL_rb f (by omega) hw]
    exact r.2 k (by omega) w hw
/- nothing but what lies from R on changed -/
def fN (R : Nat) (h h' : PH) : Prop := eqx [152, 170] h h' ∧ (∀ j, j ≠ 33 → h'.1 152 j = h.1 152 j) ∧ ∀ x, x < 64 * R → h'.2 170 x = h.2 170 x
set_option maxRecDepth 16384 in
theorem fN_rfl (R : Nat) (h : PH) : fN R h h := ⟨eqx_rfl _ _, fun _ _ => rfl, fun _ _ => rfl⟩
set_option maxRecDepth 16384 in
theorem fN_trans {R : Nat} {a b c : PH} (x : fN R a b) (y : fN R b c) : fN R a c := ⟨eqx_trans x.1 y.1, fun j hj => by rw [y.2.1 j hj]; exact x.2.1 j hj, fun k hk => by rw [y.2.2 k hk]; exact x.2.2 k hk⟩
set_option maxRecDepth 16384 in
theorem fN_fL {R R' : Nat} {h h' : PH} (f : fL R' h h') (hR : R ≤ R') : fN R h h' := ⟨f.1, f.2.1, fun x hx => f.2.2.1 x (by omega)⟩
set_option maxRecDepth 16384 in
theorem fS_fN {i R : Nat} {h h' : PH} (f : fN R h h') : fS i R h h' := ⟨eqx_mono f.1 (by decide), f.2.1, f.2.2, fun k _ => ⟨by rw [(f.1 171 (by decide)).1], by rw [(f.1 172 (by decide)).1]⟩⟩
set_option maxRecDepth 16384 in
theorem RR.ofN {K : Nat → Int32} {B : Nat → Nat} {k F R : Nat} {L : List Nat} {h h' : PH} (r : RR K B k L F h) (f : fN R h h') (hF : F + L.length ≤ R) : RR K B k L F h' := r.of (fS_fN (i := k + 1) f) (by omega) hF
set_option maxRecDepth 16384 in
theorem e_pairs {K : Nat → Int32} {B : Nat → Nat} {R lf rg FA FB : Nat} {j : Bool} {LA LB W : List Nat} {h : PH} {α : Type} {Q : α → PH → Prop} {j164 : PH → Option (α × PH)} {b99 : (Int32 → PH → Option (α × PH)) → Int32 → PH → Option (α × PH)} {b114 : Int32 → (PH → Option (α × PH)) → (Int32 → PH → Option (α × PH)) → Int32 → PH → Option (α × PH)}
    (hb99 : ∀ rec s hh, b99 rec s hh = ldI hh 172 25 (nI lf) (fun (x17 : Int32) => if x17 ≤ s then (j164 hh) else (lt (0 : Int32) (fun (x18 : Int32) => lt (fun (h19 : PH) => lt (s + Int32.ofInt 1) (fun (x20 : Int32) => rec x20 h19)) (fun (j158 : PH → Option (α × PH)) => lp (b114 s j158) FU x18 hh)))))
    (hb114 : ∀ s99 j158 rec s hh, b114 s99 j158 rec s hh = ldI hh 172 25 (nI rg) (fun (x21 : Int32) => if x21 ≤ s then (j158 hh) else (ldI hh 171 25 (nI lf) (fun (x22 : Int32) => ldI hh 171 25 (nI rg) (fun (x23 : Int32) => cb (f_X12_laysPair 152 (x22 + s99) (x23 + s) (bI j) hh) (fun (_ : Unit) (h25 : PH) => lt (s + Int32.ofInt 1) (fun (x26 : Int32) => rec x26 h25)))))))
    (hl : lf < 25) (hr : rg < 25) (ra : RR K B lf LA FA h) (rb' : RR K B rg LB FB h) (hFA : FA + LA.length ≤ R) (hFB : FB + LB.length ≤ R) (rp : RP K B R W h) (hA : LA.length ≤ 14) (hB : LB.length ≤ 14) (h39 : R + W.length + LA.length * LB.length ≤ 39)
    (hj : ∀ h', fN R h h' → RP K B R (W ++ cmb j LA LB) h' → ok (j164 h') Q) : ok (lp b99 FU (0 : Int32) h) Q := by
  refine lp_ok (fun m s h1 => m ≤ LA.length ∧ s = nI (LA.length - m) ∧ fN R h h1 ∧ RP K B R (W ++ cmb j (LA.take (LA.length - m)) LB) h1) ?_ FU LA.length _ h ⟨Nat.le_refl _, by rw [Nat.sub_self]; rfl, fN_rfl R h, by rw [Nat.sub_self, List.take_zero]; show RP K B R (W ++ []) h; rw [List.append_nil]; exact rp⟩ (fu_lt (by omega))
  rintro m rec s h1 ⟨hm, rfl, f1, r1⟩ hrec
  have ra1 := ra.ofN f1 hFA
  have rb1 := rb'.ofN f1 hFB
  rw [hb99, pw_ldI hl (by omega), ra1.2.1]
  by_cases h0 : m = 0
  · subst h0
    rw [Nat.sub_zero, if_pos ((nI_leI (by omega) (by omega)).mpr (Nat.le_refl _))]
    rw [Nat.sub_zero, List.take_length] at r1
    exact hj h1 f1 r1
  · generalize ha : LA.length - m = a at *
    have hal : a < LA.length := by omega
    have e9 : LA.length - (m - 1) = a + 1 := by omega
    rw [if_neg (fun z => by have := (nI_leI (by omega) (by omega)).mp z; omega)]
    have hW1 : (W ++ cmb j (LA.take a) LB).length = W.length + a * LB.length := by
      rw [List.length_append, cmb_len, List.length_take, Nat.min_eq_left (by omega)]
    have hmul : (a + 1) * LB.length ≤ LA.length * LB.length := Nat.mul_le_mul_right _ hal
    rw [Nat.succ_mul] at hmul
    have hnext : W ++ cmb j (LA.take (a + 1)) LB = (W ++ cmb j (LA.take a) LB) ++ LB.map (fun b => op1 j (LA.getD a 0) b) := by
      unfold cmb
      rw [take_flat _ _ hal, List.append_assoc]
    refine ok_lt ?_
    refine ok_join (fun h7 => fN R h1 h7 ∧ RP K B R (W ++ cmb j (LA.take (a + 1)) LB) h7) ?_ (fun j158 hj158 => ?_)
    · rintro h7 ⟨f7, r7⟩
      refine ok_lt ?_
      rw [pw_oi, nI_add]
      exact hrec (m - 1) _ h7 (by omega) ⟨by omega, by rw [e9], fN_trans f1 f7, by rw [e9]; exact r7⟩
    · rw [hnext] at hj158
      generalize W ++ cmb j (LA.take a) LB = W1 at *
      refine lp_ok (fun n s h2 => n ≤ LB.length ∧ s = nI (LB.length - n) ∧ fN R h1 h2 ∧ RP K B R (W1 ++ (LB.take (LB.length - n)).map (fun b => op1 j (LA.getD a 0) b)) h2) ?_ FU LB.length _ h1 ⟨Nat.le_refl _, by rw [Nat.sub_self]; rfl, fN_rfl R h1, by rw [Nat.sub_self, List.take_zero, List.map_nil, List.append_nil]; exact r1⟩ (fu_lt (by omega))
      rintro n rec2 s h2 ⟨hn, rfl, f2, r2⟩ hrec2
      have ra2 := ra1.ofN f2 hFA
      have rb2 := rb1.ofN f2 hFB
      rw [hb114, pw_ldI hr (by omega), rb2.2.1]
      by_cases h0' : n = 0
      · subst h0'
        rw [Nat.sub_zero, if_pos ((nI_leI (by omega) (by omega)).mpr (Nat.le_refl _))]
        rw [Nat.sub_zero, List.take_length] at r2
        exact hj158 h2 ⟨f2, r2⟩
      · generalize hb : LB.length - n = b at *
        have hbl : b < LB.length := by omega
        have e9' : LB.length - (n - 1) = b + 1 := by omega
        rw [if_neg (fun z => by have := (nI_leI (by omega) (by omega)).mp z; omega)]
        have hW2 : (W1 ++ (LB.take b).map (fun b => op1 j (LA.getD a 0) b)).length = W1.length + b := by
          rw [List.length_append, List.length_map, List.length_take, Nat.min_eq_left (by omega)]
        have hnext2 : W1 ++ (LB.take (b + 1)).map (fun b => op1 j (LA.getD a 0) b) = (W1 ++ (LB.take b).map (fun b => op1 j (LA.getD a 0) b)) ++ [op1 j (LA.getD a 0) (LB.getD b 0)] := by
          rw [take_snoc _ _ hbl, List.append_assoc]
        rw [pw_ldI hl (by omega), ra2.1, pw_ldI hr (by omega), rb2.1, nI_add, nI_add]
        have hv33 := r2.1
        refine ok_cb (e_laysPair (R := R + (W1 ++ (LB.take b).map (fun b => op1 j (LA.getD a 0) b)).length) (by omega) (by omega) (by omega) hv33) ?_
        rintro r25 h25 ⟨f25, y25⟩
        refine ok_lt ?_
        rw [pw_oi, nI_add]
        refine hrec2 (n - 1) _ h25 (by omega) ⟨by omega, by rw [e9'], fN_trans f2 (fN_fL f25 (by omega)), ?_⟩
        rw [e9', hnext2]
        refine r2.push f25 (fun w hw => ?_)
        rw [y25 w hw, ra2.2.2 a hal w hw, rb2.2.2 b hbl w hw, op1_tb]
        cases j
        · cases decide (w ≤ ga K) <;> simp
        · cases decide (w ≤ ga K) <;> simp
set_option maxRecDepth 16384 in
theorem RP.to {K : Nat → Int32} {B : Nat → Nat} {R : Nat} {W : List Nat} {h h' : PH} (r : RP K B R W h) (a : h'.1 152 33 = h.1 152 33) (b : h'.2 170 = h.2 170) : RP K B R W h' := ⟨by rw [a]; exact r.1, fun k hk w hw => by
  rw [← r.2 k hk w hw]
  unfold rb
  rw [b]⟩
/- one stretch -/
set_option maxRecDepth 16384 in
theorem e_reads {K : Nat → Int32} {N : Nat → Int64} {P t d f R : Nat} {h : PH} (H : RK K) (k153 : h.1 153 = K) (ht : t < 4) (hP : P ≤ 5) (hf : f + d < P) (hnum : ∀ k, k < 30 → h.2 176 (30 * t + k) = N k) (hv : ∀ i, i < P → (N (2 * i)).toInt32 = nI (VN N i) ∧ VN N i < 64) (hR : R = tot P d f) (v33 : h.1 152 33 = nI R)
    (hs : ∀ e g, g + e < P → (e < d ∨ e = d ∧ g < f) → RR K (AW (VN N) P) (5 * g + (g + e)) (LL (UN N) e g) (tot P e g) h) : ok (f_X12_reads 152 (nI t) (nI f) (nI (f + d)) h) (fun _ h' => fS (5 * f + (f + d)) R h h' ∧ h'.1 152 33 = nI (R + cn d) ∧ RR K (AW (VN N) P) (5 * f + (f + d)) (LL (UN N) d f) R h') := by
  have htb := tot_b (d := d) (f := f) hP hf
  have hb14 : ∀ d, d < 5 → cn d ≤ 14 := by decide
  have hi : 5 * f + (f + d) < 25 := by omega
  have ei : (5 : Int32) * nI f + nI (f + d) = nI (5 * f + (f + d)) := by rw [pw_lit, pw_mul, nI_add]
  have hll := LL_len (UN N) d f (by omega)
  unfold f_X12_reads
  simp only [r_152_31, r_152_32, r_152_38]
  refine ok_lt ?_
  rw [ei, v33, pw_stI hi (by omega)]
  have f2 : fS (5 * f + (f + d)) R h (pI h 171 (5 * f + (f + d)) (nI R)) := ⟨eqx_pI (by decide), fun j _ => pw_pIo (by omega), fun x _ => rfl, fun k hk => ⟨pw_pIo (by omega), pw_pIo (by omega)⟩⟩
  have x171 : (pI h 171 (5 * f + (f + d)) (nI R)).1 171 (5 * f + (f + d)) = nI R := pw_pIs
  have o33 : (pI h 171 (5 * f + (f + d)) (nI R)).1 152 33 = h.1 152 33 := pw_pIo (by omega)
  generalize pI h 171 (5 * f + (f + d)) (nI R) = h2 at *
  have f2o : h2.1 152 33 = nI R := by rw [← v33]; exact o33
  have hs2 : ∀ e g, g + e < P → (e < d ∨ e = d ∧ g < f) → RR K (AW (VN N) P) (5 * g + (g + e)) (LL (UN N) e g) (tot P e g) h2 := fun e g hg hh => (hs e g hg hh).of f2 (by omega) (by rw [LL_len _ _ _ (by omega), hR]; exact tot_le hP hg hf hh)
  have k2 : h2.1 153 = K := by rw [(f2.1 153 (by decide)).1]; exact k153
  have n2 : ∀ k, k < 30 → h2.2 176 (30 * t + k) = N k := fun k hk => by rw [(f2.1 176 (by decide)).2]; exact hnum k hk
  refine ok_join (fun h3 => fS (5 * f + (f + d)) R h2 h3 ∧ h3.1 171 (5 * f + (f + d)) = nI R ∧ RP K (AW (VN N) P) R (if d = 0 then [lfM f] else []) h3) ?_ (fun j41 hj41 => ?_)
  · rintro h3 ⟨f3, x3, r3⟩
    refine ok_lt ?_
    have k3 : h3.1 153 = K := by rw [(f3.1 153 (by decide)).1]; exact k2
    refine ok_join (fun h5 => fS (5 * f + (f + d)) R h2 h5 ∧ h5.1 171 (5 * f + (f + d)) = nI R ∧ RP K (AW (VN N) P) R (LL (UN N) d f) h5) ?_ (fun j170 hj170 => ?_)
    · rintro h5 ⟨f5, x5, r5⟩
      have y5 := r5.1
      rw [hll] at y5
      rw [pw_ldI hi (by omega), x5, y5, pw_sub (by omega), Nat.add_sub_cancel_left, pw_stI hi (by omega)]
      have f7 : fS (5 * f + (f + d)) R h5 (pI h5 172 (5 * f + (f + d)) (nI (cn d))) := ⟨eqx_pI (by decide), fun j _ => pw_pIo (by omega), fun x _ => rfl, fun k hk => ⟨pw_pIo (by omega), pw_pIo (by omega)⟩⟩
      refine ok_some ⟨fS_trans f2 (fS_trans f5 f7), by rw [pw_pIo (by omega)]; exact y5, by rw [pw_pIo (by omega)]; exact x5, by rw [pw_pIs, hll], fun k hk w hw => ?_⟩
      exact r5.2 k hk w hw
    · by_cases d0 : d = 0
      · subst d0
        rw [if_pos rfl] at r3
        have hFU : 1000 < FU := fu_lt (by omega)
        obtain ⟨F, hF⟩ : ∃ F, FU = F + 1 := ⟨FU - 1, by omega⟩
        rw [hF, lp_s]
        unfold b_X12_reads_44
        rw [if_pos ((nI_leI (by omega) (by omega)).mpr (by omega))]
        exact hj170 h3 ⟨f3, x3, r3⟩
      · rw [if_neg d0] at r3
        have hcat := LL_cat (UN N) d f (by omega) (by omega)
        have hlc : (cat (fun k => cmb (UN N (f + k)) (LL (UN N) k f) (LL (UN N) (d - 1 - k) (f + k + 1))) d).length = cn d := by rw [← hcat]; exact hll
        refine lp_ok (fun m s h4 => ∃ k, k + m = d ∧ s = nI (f + k) ∧ fS (5 * f + (f + d)) R h2 h4 ∧ h4.1 171 (5 * f + (f + d)) = nI R ∧ RP K (AW (VN N) P) R (cat (fun k => cmb (UN N (f + k)) (LL (UN N) k f) (LL (UN N) (d - 1 - k) (f + k + 1))) k) h4) ?_ FU d _ h3 ⟨0, by omega, rfl, f3, x3, r3⟩ (fu_lt (by omega))
        rintro m rec s h4 ⟨k, hk, rfl, f4, x4, r4⟩ hrec
        unfold b_X12_reads_44
        simp only [r_152_31, r_152_32, r_152_38]
        by_cases h0 : m = 0
        · rw [if_pos ((nI_leI (by omega) (by omega)).mpr (by omega))]
          rw [show k = d by omega, ← hcat] at r4
          exact hj170 h4 ⟨f4, x4, r4⟩
        · rw [if_neg (fun z => by have := (nI_leI (by omega) (by omega)).mp z; omega)]
          have a1 : (5 : Int32) * nI f + nI (f + k) = nI (5 * f + (f + k)) := by rw [pw_lit, pw_mul, nI_add]
          have a2 : (5 : Int32) * (nI (f + k) + (1 : Int32)) + nI (f + d) = nI (5 * (f + k + 1) + (f + d)) := by rw [pw_lit, pw_lit, nI_add, pw_mul, nI_add]
          have a3 : (30 : Int32) * nI t + (2 : Int32) * nI (f + k) + (1 : Int32) = nI (30 * t + (2 * (f + k) + 1)) := by rw [pw_lit, pw_lit, pw_lit, pw_mul, pw_mul, nI_add, nI_add, Nat.add_assoc]
          refine ok_lt (ok_lt ?_)
          have n4 : h4.2 176 (30 * t + (2 * (f + k) + 1)) = N (2 * (f + k) + 1) := by rw [(f4.1 176 (by decide)).2]; exact n2 _ (by omega)
          rw [a1, a2, a3, pw_ldL (by omega) (by omega), n4]
          have ra : RR K (AW (VN N) P) (5 * f + (f + k)) (LL (UN N) k f) (tot P k f) h4 := (hs2 k f (by omega) (by omega)).of f4 (by omega) (by rw [LL_len _ _ _ (by omega), hR]; exact tot_le hP (by omega) hf (by omega))
          have rb1 : RR K (AW (VN N) P) (5 * (f + k + 1) + (f + d)) (LL (UN N) (d - 1 - k) (f + k + 1)) (tot P (d - 1 - k) (f + k + 1)) h4 := by
            have := (hs2 (d - 1 - k) (f + k + 1) (by omega) (by omega)).of f4 (by omega) (by rw [LL_len _ _ _ (by omega), hR]; exact tot_le hP (by omega) hf (by omega))
            rw [show f + k + 1 + (d - 1 - k) = f + d by omega] at this
            exact this
          have hl1 := LL_len (UN N) k f (by omega)
          have hl2 := LL_len (UN N) (d - 1 - k) (f + k + 1) (by omega)
          have hnx := cat_len (fun k => cmb (UN N (f + k)) (LL (UN N) k f) (LL (UN N) (d - 1 - k) (f + k + 1))) d (k + 1) (by omega)
          rw [hlc, cat, List.length_append, cmb_len] at hnx
          have hrest : ∀ (h12 : PH), h12 = h4 → ok (lt (0 : Int32) (fun (x14 : Int32) => lt (fun (h15 : PH) => lt (nI (f + k) + Int32.ofInt 1) (fun (x16 : Int32) => rec x16 h15)) (fun (j164 : PH → Option (Unit × PH)) => lp (b_X12_reads_99 152 (nI (5 * f + (f + k))) (nI (5 * (f + k + 1) + (f + d))) (bI (UN N (f + k))) j164) FU x14 h12))) (fun _ h' => fS (5 * f + (f + d)) R h h' ∧ h'.1 152 33 = nI (R + cn d) ∧ RR K (AW (VN N) P) (5 * f + (f + d)) (LL (UN N) d f) R h') := by
            rintro h12 rfl
            refine ok_lt ?_
            refine ok_join (fun h15 => fS (5 * f + (f + d)) R h12 h15 ∧ RP K (AW (VN N) P) R (cat (fun k => cmb (UN N (f + k)) (LL (UN N) k f) (LL (UN N) (d - 1 - k) (f + k + 1))) (k + 1)) h15 ∧ h15.1 171 (5 * f + (f + d)) = nI R) ?_ (fun j164 hj164 => ?_)
            · rintro h15 ⟨f15, r15, x15⟩
              refine ok_lt ?_
              rw [pw_oi, nI_add]
              exact hrec (m - 1) _ h15 (by omega) ⟨k + 1, by omega, rfl, fS_trans f4 f15, x15, r15⟩
            · refine e_pairs (j164 := j164) (j := UN N (f + k)) (R := R) (b114 := fun s99 j158 => b_X12_reads_114 152 (nI (5 * f + (f + k))) (nI (5 * (f + k + 1) + (f + d))) (bI (UN N (f + k))) s99 j158) (fun rec s hh => ?_) (fun s99 j158 rec s hh => ?_) (by omega) (by omega) ra rb1 (by rw [hl1, hR]; exact tot_le hP (by omega) hf (by omega)) (by rw [hl2, hR]; exact tot_le hP (by omega) hf (by omega)) r4 (by rw [hl1]; exact hb14 _ (by omega)) (by rw [hl2]; exact hb14 _ (by omega)) (by omega) (fun h' f' r' => ?_)
              · unfold b_X12_reads_99
                simp only [r_152_32]
              · unfold b_X12_reads_114
                simp only [r_152_31, r_152_32]
              · exact hj164 h' ⟨fS_fN f', r', by rw [(f'.1 171 (by decide)).1]; exact x4⟩
          refine ok_joinT (fun t11 h12 => h12 = h4 ∧ t11 = bI (UN N (f + k))) ?_ (fun j94 hj94 => ?_)
          · rintro t11 h12 ⟨rfl, rfl⟩
            refine ok_lt ?_
            exact hrest h12 rfl
          · unfold UN at hj94
            have hce : (lg_cmp (N (2 * (f + k) + 1)) (1 : Int64) = (0 : Int32)) = (N (2 * (f + k) + 1) = lN 1) := pw_ce _ _
            simp only [hce]
            by_cases q : N (2 * (f + k) + 1) = lN 1
            · rw [if_pos q]
              exact hj94 _ _ ⟨rfl, by rw [decide_eq_true q]; rfl⟩
            · rw [if_neg q]
              exact hj94 _ _ ⟨rfl, by rw [decide_eq_false q]; rfl⟩
  · have e0 : (nI f = nI (f + d)) = (f = f + d) := pw_eqI (by omega) (by omega)
    simp only [e0]
    by_cases d0 : d = 0
    · subst d0
      rw [if_pos (by omega)]
      have a3 : (30 : Int32) * nI t + (2 : Int32) * nI f = nI (30 * t + 2 * f) := by rw [pw_lit, pw_lit, pw_mul, pw_mul, nI_add]
      obtain ⟨v1, v2⟩ := hv f (by omega)
      rw [a3, pw_ldL (by omega) (by omega), n2 _ (by omega), v1]
      have htb39 : R < 39 := by
        have : cn 0 = 1 := rfl
        omega
      refine ok_cb (e_laysReading H k2 htb39 v2 f2o) ?_
      rintro r28 h29 ⟨f29, y29⟩
      refine hj41 h29 ⟨fS_fL f29 (Nat.le_refl _), by rw [(f29.1 171 (by decide)).1]; exact x171, ?_⟩
      rw [if_pos rfl]
      refine ⟨f29.2.2.2, fun k hk w hw => ?_⟩
      have hk : k < 1 := hk
      rw [show k = 0 by omega, Nat.add_zero, y29 w hw]
      show _ = (decide (w ≤ ga K) && (lfM f).testBit (AW (VN N) P w))
      rw [lfM_tb (AW_lt _ _ _), AW_tb (by omega) hP]
    · rw [if_neg (by omega)]
      refine hj41 h2 ⟨fS_rfl _ _ _, x171, ?_⟩
      rw [if_neg d0]
      exact ⟨f2o, fun k hk => absurd hk (Nat.not_lt_zero k)⟩

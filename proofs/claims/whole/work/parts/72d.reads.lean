/-! ===== readings: plans in which they hold; the loops ===== -/
set_option maxRecDepth 16384 in
theorem bit1 {x : Int64} {i : Nat} (hi : i < 64) : ((x >>> lN i) &&& (1 : Int64) = (1 : Int64)) = (b6 x i = true) := by
  have hb : ∀ q, q < 64 → b6 ((x >>> lN i) &&& (1 : Int64)) q = (decide (q = 0) && b6 x i) := fun q hq => by
    rw [b6_and, b6_1 hq]
    have h1 := b64_sshr hi x hq
    by_cases z : q = 0
    · subst z
      rw [Nat.add_zero, if_pos hi] at h1
      unfold b6
      rw [h1, decide_eq_true rfl, Bool.and_true, Bool.true_and]
    · rw [decide_eq_false z, Bool.and_false, Bool.false_and]
  refine propext ⟨fun e => ?_, fun e => b6_ext (fun q hq => ?_)⟩
  · have := hb 0 (by decide)
    rw [e, b6_1 (by decide), decide_eq_true rfl, Bool.true_and] at this
    exact this.symm
  · rw [hb q hq, b6_1 hq, e, Bool.and_true]
set_option maxRecDepth 16384 in
theorem cnt_s {K T : Nat → Int32} (H : RK K) (f : Nat → Bool) (n : Nat) : (aL K T (gv K 7) (n + 1)).countP f = (aL K T (gv K 7) n).countP f + (if wy K T n = 0 ∧ f n = true then 1 else 0) := by
  rw [aL_s, List.countP_append]
  have ha : ablo K T (gv K 7) n = abl K T n := by
    have h1 := aL_abl (T := T) H (n + 1)
    have h0 := aL_abl (T := T) H n
    rw [aL_s, h0, List.range_succ, List.filter_append] at h1
    have h2 := List.append_cancel_left h1
    cases q1 : ablo K T (gv K 7) n <;> cases q2 : abl K T n <;> simp [q1, q2] at h2 ⊢
  rw [ha]
  unfold abl
  by_cases q : wy K T n = 0
  · rw [decide_eq_true q, if_pos rfl]
    by_cases q2 : f n = true
    · rw [List.countP_cons_of_pos q2, if_pos ⟨q, q2⟩, List.countP_nil]
    · rw [List.countP_cons_of_neg q2, if_neg (fun z => q2 z.2), List.countP_nil]
  · rw [decide_eq_false q, if_neg (by decide), if_neg (fun z => q z.1), List.countP_nil]
set_option maxRecDepth 16384 in
theorem e_holdsIn {K T : Nat → Int32} {B : Nat → Nat} {i F k : Nat} {L : List Nat} {h : PH} (R : RX K T h) (r : RR K B i L F h) (hF : F + L.length ≤ 39) (hk : k < L.length) : f_X12_holdsIn 152 (nI (F + k)) h = some (nI ((aL K T (gv K 7) (ga K + 1)).countP (fun p => (L.getD k 0).testBit (B (wx K p)))), h) := by
  have H := R.1
  have hb := rk_b H
  have hga : ga K < 4096 := hb.2.2.2.2.2.2.2.2.2.1
  have hcl : ∀ n, n ≤ ga K + 1 → (aL K T (gv K 7) n).countP (fun p => (L.getD k 0).testBit (B (wx K p))) ≤ n := fun n _ => by
    have h1 := List.countP_le_length (p := fun p => (L.getD k 0).testBit (B (wx K p))) (l := aL K T (gv K 7) n)
    have h2 := aL_len K T (gv K 7) n
    omega
  have nz6 : ∀ o : Option (Int32 × PH), nz (64 : Int32) o = o := fun o => pw_nz (k := 64) (by omega) (by omega)
  have hev := e_everywhere (h := h) (by rw [R.2.1]; exact H)
  rw [R.2.1] at hev
  unfold f_X12_holdsIn
  simp only [pw_lt]
  refine lp_run (fun p => (nI ((aL K T (gv K 7) p).countP (fun p => (L.getD k 0).testBit (B (wx K p)))), nI p)) (fun _ => h) (ga K + 1) _ ?_ ?_ FU (fu_lt (by omega))
  · intro p hp rec
    have hs := cnt_s (T := T) H (fun p => (L.getD k 0).testBit (B (wx K p))) p
    have hw := wx_le K p
    unfold b_X12_holdsIn_4
    rw [hev]
    simp only [pw_cb, pw_lt, r_152_19, r_152_30]
    rw [if_neg (show ¬ nI (ga K) < nI p by rw [pw_ltI (by omega) (by omega)]; omega), nI_l (by omega), e_wy R (by omega)]
    simp only [pw_cb]
    have hw160 : h.1 160 p = nI (wx K p) := R.2.2.2.2 p (by omega)
    by_cases q : wy K T p = 0
    · have a1 : nI (wx K p) / (64 : Int32) = nI (wx K p / 64) := by rw [pw_lit, pw_dv (by omega) (by omega) (by omega)]
      have a2 : (64 : Int32) * nI (F + k) + nI (wx K p / 64) = nI (64 * (F + k) + wx K p / 64) := by rw [pw_lit, pw_mul, nI_add]
      have a3 : nI (wx K p) - nI (wx K p / 64) * (64 : Int32) = nI (wx K p % 64) := by rw [pw_lit, pw_mul, pw_sub (by omega), show wx K p - wx K p / 64 * 64 = wx K p % 64 by omega]
      have e63 : ((nI (wx K p % 64)).toInt64 &&& 63) = lN (wx K p % 64) := by
        rw [nI_l (by omega)]
        exact (by decide +kernel : ∀ x, x < 64 → lN x &&& 63 = lN x) _ (by omega)
      rw [if_pos (show nI (wy K T p) = (0 : Int32) by rw [q]; rfl), pw_ldI (by omega) (by omega), hw160, nz6, a1, a2, pw_ldL (by omega) (by omega), pw_ldI (by omega) (by omega), hw160, nz6, a1, a3, e63]
      have hce : (lg_cmp ((h.2 170 (64 * (F + k) + wx K p / 64) >>> lN (wx K p % 64)) &&& (1 : Int64)) (1 : Int64) = (0 : Int32)) = ((L.getD k 0).testBit (B (wx K p)) = true) := by
        have h1 : (lg_cmp ((h.2 170 (64 * (F + k) + wx K p / 64) >>> lN (wx K p % 64)) &&& (1 : Int64)) (1 : Int64) = (0 : Int32)) = (((h.2 170 (64 * (F + k) + wx K p / 64) >>> lN (wx K p % 64)) &&& (1 : Int64)) = (1 : Int64)) := pw_ce _ _
        rw [h1, bit1 (by omega)]
        have hr := r.2.2 k hk (wx K p) (by omega)
        unfold rb at hr
        rw [hr, decide_eq_true hw, Bool.true_and]
      simp only [hce]
      by_cases q2 : (L.getD k 0).testBit (B (wx K p)) = true
      · rw [if_pos ⟨q, q2⟩] at hs
        rw [if_pos q2, hs, pw_oi, nI_add]
        exact congrArg (fun z => rec (z, nI (p + 1)) h) (nI_add _ 1)
      · rw [if_neg (fun z => q2 z.2), Nat.add_zero] at hs
        rw [if_neg q2, hs, pw_oi, nI_add]
        exact congrArg (fun z => rec (z, nI (p + 1)) h) (nI_add _ 0)
    · rw [if_neg (fun z => q z.1), Nat.add_zero] at hs
      have hy : wy K T p < 2147483648 := by
        have := wy_le K T p
        omega
      rw [if_neg (nI_ne0 (by omega) hy), hs, pw_oi, nI_add]
      exact congrArg (fun z => rec (z, nI (p + 1)) h) (nI_add _ 0)
  · intro rec
    unfold b_X12_holdsIn_4
    rw [hev]
    simp only [pw_cb]
    rw [if_pos (show nI (ga K) < nI (ga K + 1) by rw [pw_ltI (by omega) (by omega)]; omega)]
set_option maxRecDepth 16384 in
theorem e_spans {K : Nat → Int32} {N : Nat → Int64} {P t : Nat} {h : PH} {α : Type} {Q : α → PH → Prop} {j80 : PH → Option (α × PH)} {b38 : (Int32 → PH → Option (α × PH)) → Int32 → PH → Option (α × PH)} {b47 : Int32 → (PH → Option (α × PH)) → (Int32 → PH → Option (α × PH)) → Int32 → PH → Option (α × PH)}
    (hb38 : ∀ rec s hh, b38 rec s hh = if (nI P) ≤ s then (j80 hh) else (lt (0 : Int32) (fun (x26 : Int32) => lt (fun (h27 : PH) => lt (s + Int32.ofInt 1) (fun (x28 : Int32) => rec x28 h27)) (fun (j74 : PH → Option (α × PH)) => lp (b47 s j74) FU x26 hh))))
    (hb47 : ∀ s38 j74 rec s hh, b47 s38 j74 rec s hh = if (nI P) ≤ (s + s38) then (j74 hh) else (cb (f_X12_reads 152 (nI t) s (s + s38) hh) (fun (_ : Unit) (h30 : PH) => lt (s + Int32.ofInt 1) (fun (x31 : Int32) => rec x31 h30))))
    (H : RK K) (k153 : h.1 153 = K) (ht : t < 4) (h1 : 1 ≤ P) (hP : P ≤ 5) (hnum : ∀ k, k < 30 → h.2 176 (30 * t + k) = N k) (hv : ∀ i, i < P → (N (2 * i)).toInt32 = nI (VN N i) ∧ VN N i < 64) (v33 : h.1 152 33 = nI 0)
    (hj : ∀ h', eqx [152, 170, 171, 172] h h' → (∀ j, j ≠ 33 → h'.1 152 j = h.1 152 j) → RR K (AW (VN N) P) (P - 1) (LL (UN N) (P - 1) 0) (tot P (P - 1) 0) h' → ok (j80 h') Q) : ok (lp b38 FU (0 : Int32) h) Q := by
  refine lp_ok (fun m s h1 => ∃ d, d + m = P ∧ s = nI d ∧ eqx [152, 170, 171, 172] h h1 ∧ (∀ j, j ≠ 33 → h1.1 152 j = h.1 152 j) ∧ h1.1 152 33 = nI (tot P d 0) ∧ ∀ e g, g + e < P → e < d → RR K (AW (VN N) P) (5 * g + (g + e)) (LL (UN N) e g) (tot P e g) h1) ?_ FU P _ h ⟨0, by omega, rfl, eqx_rfl _ _, fun _ _ => rfl, v33, fun e g _ he => absurd he (Nat.not_lt_zero e)⟩ (fu_lt (by omega))
  rintro m rec s h1' ⟨d, hd, rfl, e1, o1, v1, s1⟩ hrec
  rw [hb38]
  by_cases h0 : m = 0
  · rw [if_pos ((nI_leI (by omega) (by omega)).mpr (by omega))]
    have := s1 (P - 1) 0 (by omega) (by omega)
    rw [show 5 * 0 + (0 + (P - 1)) = P - 1 by omega] at this
    exact hj h1' e1 o1 this
  · rw [if_neg (fun z => by have := (nI_leI (by omega) (by omega)).mp z; omega)]
    refine ok_lt ?_
    refine ok_join (fun h3 => eqx [152, 170, 171, 172] h h3 ∧ (∀ j, j ≠ 33 → h3.1 152 j = h.1 152 j) ∧ h3.1 152 33 = nI (tot P (d + 1) 0) ∧ ∀ e g, g + e < P → e < d + 1 → RR K (AW (VN N) P) (5 * g + (g + e)) (LL (UN N) e g) (tot P e g) h3) ?_ (fun j74 hj74 => ?_)
    · rintro h3 ⟨e3, o3, v3, s3⟩
      refine ok_lt ?_
      rw [pw_oi, nI_add]
      exact hrec (m - 1) _ h3 (by omega) ⟨d + 1, by omega, rfl, e3, o3, v3, s3⟩
    · refine lp_ok (fun n s h2 => ∃ f, f + n + d = P ∧ s = nI f ∧ eqx [152, 170, 171, 172] h h2 ∧ (∀ j, j ≠ 33 → h2.1 152 j = h.1 152 j) ∧ h2.1 152 33 = nI (tot P d f) ∧ ∀ e g, g + e < P → (e < d ∨ e = d ∧ g < f) → RR K (AW (VN N) P) (5 * g + (g + e)) (LL (UN N) e g) (tot P e g) h2) ?_ FU (P - d) _ h1' ⟨0, by omega, rfl, e1, o1, v1, fun e g hg hh => s1 e g hg (by omega)⟩ (fu_lt (by omega))
      rintro n rec2 s2 h2 ⟨f, hf, rfl, e2, o2, v2, s2'⟩ hrec2
      rw [hb47, nI_add]
      by_cases h0' : n = 0
      · rw [if_pos ((nI_leI (by omega) (by omega)).mpr (by omega))]
        refine hj74 h2 ⟨e2, o2, ?_, fun e g hg he => s2' e g hg (by omega)⟩
        rw [tot_d (by omega), show P - d = f by omega]
        exact v2
      · rw [if_neg (fun z => by have := (nI_leI (by omega) (by omega)).mp z; omega)]
        refine ok_cb (e_reads H (by rw [(e2 153 (by decide)).1]; exact k153) ht hP (by omega) (fun k hk => by rw [(e2 176 (by decide)).2]; exact hnum k hk) hv rfl v2 s2') ?_
        rintro r h5 ⟨f5, v5, r5⟩
        refine ok_lt ?_
        rw [pw_oi, nI_add]
        refine hrec2 (n - 1) _ h5 (by omega) ⟨f + 1, by omega, rfl, eqx_trans e2 f5.1, fun j hj2 => by rw [f5.2.1 j hj2]; exact o2 j hj2, by rw [tot_s]; exact v5, fun e g hg hh => ?_⟩
        by_cases hc : e = d ∧ g = f
        · rw [hc.1, hc.2]
          exact r5
        · exact (s2' e g hg (by omega)).of f5 (by omega) (by rw [LL_len _ _ _ (by omega)]; exact tot_le hP hg (by omega) (by omega))
/-! the two ways to tell them apart -/
set_option maxRecDepth 16384 in
theorem AC_cs {V : Nat → Nat} {P w : Nat} : AC V P (csW (kn V P) w) = AW V P w := by
  unfold AC AW
  refine orTo_congr _ (fun i hi => ?_)
  by_cases h : i < P
  · rw [decide_eq_true h, Bool.true_and, Bool.true_and]
    have hm := ps_mem (kn_in V h)
    unfold csW
    rw [orTo_tb, decide_eq_true hm.1, Bool.true_and, hm.2]
  · rw [decide_eq_false h, Bool.false_and, Bool.false_and]
set_option maxRecDepth 16384 in
theorem AW_of {V : Nat → Nat} {P c g : Nat} (hv : ∀ i, i < P → V i / 2 < g) : ∃ w, w < 2 ^ g ∧ AW V P w = AC V P c := by
  refine ⟨orTo g (fun q => decide (q ∈ kn V P) && c.testBit (ps (kn V P) q)), orTo_lt _ _, ?_⟩
  unfold AC AW
  refine orTo_congr _ (fun i hi => ?_)
  by_cases h : i < P
  · rw [decide_eq_true h, Bool.true_and, Bool.true_and, orTo_tb, decide_eq_true (hv i h), Bool.true_and, decide_eq_true (kn_in V h), Bool.true_and]
  · rw [decide_eq_false h, Bool.false_and, Bool.false_and]
set_option maxRecDepth 16384 in
theorem eqCW {K : Nat → Int32} {V : Nat → Nat} {P : Nat} (H : RK K) (hP : P ≤ 5) (hv : ∀ i, i < P → V i / 2 < gc K) (a b : Nat) : eqC (AC V P) a b = eqW K (AW V P) a b := by
  have hb := rk_b H
  have hg1 : ga K + 1 = 2 ^ gc K := hb.2.2.2.2.2.2.2.2.2.2
  have hkl : (kn V P).length ≤ 5 := by have := kn_len V P; omega
  have key : eqC (AC V P) a b = true ↔ eqW K (AW V P) a b = true := by
    unfold eqC eqW
    rw [allN_iff, allN_iff]
    constructor
    · intro h w hw
      have := h (csW (kn V P) w) (csW_lt hkl w)
      rw [AC_cs] at this
      exact this
    · intro h c hc
      obtain ⟨w, hw, he⟩ := AW_of (c := c) hv
      have := h w (by omega)
      rw [he] at this
      exact this
  cases q1 : eqC (AC V P) a b <;> cases q2 : eqW K (AW V P) a b
  · rfl
  · rw [key.mpr q2] at q1; cases q1
  · rw [key.mp q1] at q2; cases q2
  · rfl

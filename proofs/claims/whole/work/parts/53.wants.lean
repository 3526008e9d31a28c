/-! ===== what somebody wants: cells told wet or dry ===== -/
def so (t x : Nat) : Bool := x.testBit (t / 2) == decide (t % 2 = 1)
def pm (pre : List Nat) (x : Nat) : Bool := pre.all (fun t => so t x)
def fwt (m : Nat) (v : Nat → Nat) (pre : List Nat) : Bool := !anyTo m (fun k => pm pre (v k / 2) != decide (v k % 2 = 1))
def keepW (m : Nat) (v : Nat → Nat) (st : List Nat × Nat) (pre : List Nat) : List Nat × Nat := if fwt m v pre then (if st.2 = 0 then pre else st.1, st.2 + 1) else st
def itr {σ : Type} (f : Nat → σ → σ) : Nat → Nat → σ → σ
  | 0, _, s => s
  | n + 1, t, s => itr f n (t + 1) (f t s)
def Ws (m : Nat) (v : Nat → Nat) (g : Nat) : Nat → List Nat → Nat → List Nat × Nat → List Nat × Nat
  | 0, pre, _, st => keepW m v st pre
  | l + 1, pre, fr, st => itr (fun t s => Ws m v g l (t :: pre) (2 * (t / 2 + 1)) s) (2 * g - fr) fr st
set_option maxRecDepth 16384 in
theorem fwt_iff {m : Nat} {v : Nat → Nat} {pre : List Nat} : fwt m v pre = true ↔ ∀ k, k < m → pm pre (v k / 2) = decide (v k % 2 = 1) := by
  unfold fwt
  rw [Bool.not_eq_true', ← Bool.not_eq_true, anyTo_iff]
  constructor
  · intro h k hk
    cases hq : (pm pre (v k / 2) == decide (v k % 2 = 1))
    · exact absurd ⟨k, hk, by simp only [bne, hq, Bool.not_false]⟩ h
    · exact beq_iff_eq.mp hq
  · rintro h ⟨k, hk, h2⟩
    rw [h k hk] at h2
    simp at h2
set_option maxRecDepth 16384 in
theorem itr_le {f : Nat → List Nat × Nat → List Nat × Nat} {b : Nat} (hf : ∀ t s, (f t s).2 ≤ s.2 + b) : ∀ n t s, (itr f n t s).2 ≤ s.2 + n * b
  | 0, _, _ => by rw [itr]; omega
  | n + 1, t, s => by
    rw [itr, Nat.succ_mul]
    have h1 := itr_le hf n (t + 1) (f t s)
    have h2 := hf t s
    omega
set_option maxRecDepth 16384 in
theorem Ws_le {m : Nat} {v : Nat → Nat} {g : Nat} (hg : g ≤ 12) : ∀ l pre fr st, (Ws m v g l pre fr st).2 ≤ st.2 + 24 ^ l
  | 0, pre, fr, st => by
    rw [Ws, keepW]
    split
    · simp
    · omega
  | l + 1, pre, fr, st => by
    rw [Ws]
    have h1 := itr_le (f := fun t s => Ws m v g l (t :: pre) (2 * (t / 2 + 1)) s) (b := 24 ^ l) (fun t s => Ws_le (m := m) (v := v) hg l (t :: pre) (2 * (t / 2 + 1)) s) (2 * g - fr) fr st
    have h2 : (2 * g - fr) * 24 ^ l ≤ 24 * 24 ^ l := Nat.mul_le_mul_right _ (by omega)
    rw [Nat.pow_succ, Nat.mul_comm (24 ^ l) 24]
    omega
/- cells told of, cells told wet -/
def caL : List Nat → Nat
  | [] => 0
  | t :: l => caL l ||| 2 ^ (t / 2)
def weL : List Nat → Nat
  | [] => 0
  | t :: l => if t % 2 = 1 then weL l ||| 2 ^ (t / 2) else weL l
set_option maxRecDepth 16384 in
theorem caL_tb (i : Nat) : ∀ l : List Nat, (caL l).testBit i = true ↔ ∃ t, t ∈ l ∧ t / 2 = i
  | [] => by simp [caL]
  | t :: l => by
    rw [caL, Nat.testBit_or, Bool.or_eq_true, caL_tb i l, Nat.testBit_two_pow, decide_eq_true_eq]
    constructor
    · rintro (⟨u, h1, h2⟩ | h)
      · exact ⟨u, List.mem_cons_of_mem _ h1, h2⟩
      · exact ⟨t, List.mem_cons_self, h⟩
    · rintro ⟨u, h1, h2⟩
      rcases List.mem_cons.mp h1 with rfl | h1
      · exact Or.inr h2
      · exact Or.inl ⟨u, h1, h2⟩
set_option maxRecDepth 16384 in
theorem weL_tb (i : Nat) : ∀ l : List Nat, (weL l).testBit i = true ↔ ∃ t, t ∈ l ∧ t / 2 = i ∧ t % 2 = 1
  | [] => by simp [weL]
  | t :: l => by
    rw [weL]
    by_cases ht : t % 2 = 1
    · rw [if_pos ht, Nat.testBit_or, Bool.or_eq_true, weL_tb i l, Nat.testBit_two_pow, decide_eq_true_eq]
      constructor
      · rintro (⟨u, h1, h2⟩ | h)
        · exact ⟨u, List.mem_cons_of_mem _ h1, h2⟩
        · exact ⟨t, List.mem_cons_self, h, ht⟩
      · rintro ⟨u, h1, h2, h3⟩
        rcases List.mem_cons.mp h1 with rfl | h1
        · exact Or.inr h2
        · exact Or.inl ⟨u, h1, h2, h3⟩
    · rw [if_neg ht, weL_tb i l]
      constructor
      · rintro ⟨u, h1, h2⟩
        exact ⟨u, List.mem_cons_of_mem _ h1, h2⟩
      · rintro ⟨u, h1, h2, h3⟩
        rcases List.mem_cons.mp h1 with rfl | h1
        · exact absurd h3 ht
        · exact ⟨u, h1, h2, h3⟩
set_option maxRecDepth 16384 in
theorem caL_lt {g : Nat} {l : List Nat} (h : ∀ t, t ∈ l → t / 2 < g) : caL l < 2 ^ g := Nat.lt_pow_two_of_testBit _ (fun i hi => by
  cases hb : (caL l).testBit i
  · rfl
  · obtain ⟨t, h1, h2⟩ := (caL_tb i l).mp hb
    have := h t h1
    omega)
set_option maxRecDepth 16384 in
theorem weL_lt {g : Nat} {l : List Nat} (h : ∀ t, t ∈ l → t / 2 < g) : weL l < 2 ^ g := Nat.lt_pow_two_of_testBit _ (fun i hi => by
  cases hb : (weL l).testBit i
  · rfl
  · obtain ⟨t, h1, h2⟩ := (weL_tb i l).mp hb
    have := h t h1
    omega)
/- each cell is told of once -/
def dis (pre : List Nat) : Prop := ∀ t, t ∈ pre → ∀ u, u ∈ pre → t / 2 = u / 2 → t = u
set_option maxRecDepth 16384 in
theorem pm_iff {pre : List Nat} (hd : dis pre) {x : Nat} : (x &&& caL pre = weL pre) ↔ pm pre x = true := by
  unfold pm
  rw [List.all_eq_true]
  constructor
  · intro h t ht
    have hb := congrArg (fun z => Nat.testBit z (t / 2)) h
    simp only [Nat.testBit_and] at hb
    rw [(caL_tb (t / 2) pre).mpr ⟨t, ht, rfl⟩, Bool.and_true] at hb
    unfold so
    rw [hb, beq_iff_eq]
    by_cases h1 : t % 2 = 1
    · rw [decide_eq_true h1]
      exact (weL_tb _ _).mpr ⟨t, ht, rfl, h1⟩
    · rw [decide_eq_false h1]
      cases hw : (weL pre).testBit (t / 2)
      · rfl
      · obtain ⟨u, h2, h3, h4⟩ := (weL_tb _ _).mp hw
        have := hd u h2 t ht h3
        subst this
        exact absurd h4 h1
  · intro h
    apply Nat.eq_of_testBit_eq
    intro i
    rw [Nat.testBit_and]
    cases hw : (weL pre).testBit i
    · cases hc : (caL pre).testBit i
      · rw [Bool.and_false]
      · obtain ⟨t, h1, h2⟩ := (caL_tb i pre).mp hc
        have h3 := h t h1
        unfold so at h3
        rw [beq_iff_eq, h2] at h3
        have h4 : ¬ t % 2 = 1 := fun z => by
          have := (weL_tb i pre).mpr ⟨t, h1, h2, z⟩
          rw [hw] at this
          cases this
        rw [h3, decide_eq_false h4]
        rfl
    · obtain ⟨t, h1, h2, h4⟩ := (weL_tb i pre).mp hw
      have h3 := h t h1
      unfold so at h3
      rw [beq_iff_eq, h2, decide_eq_true h4] at h3
      rw [h3, (caL_tb i pre).mpr ⟨t, h1, h2⟩]
      rfl
/-! the class -/
def SC (st : List Nat × Nat) (h : PH) : Prop := h.1 40 6 = nI st.2 ∧ (st.2 ≠ 0 → h.1 40 3 = nI (caL st.1) ∧ h.1 40 4 = nI (weL st.1))
def CM (m : Nat) (v : Nat → Nat) (g : Nat) (h : PH) : Prop := h.1 40 2 = nI m ∧ (∀ k, k < m → h.1 41 k = nI (v k)) ∧ h.1 3 7 = nI g
set_option maxRecDepth 16384 in
theorem CM_to {m : Nat} {v : Nat → Nat} {g : Nat} {h h' : PH} (e : eqx [40] h h') (o : ∀ j, j ≠ 3 → j ≠ 4 → j ≠ 6 → h'.1 40 j = h.1 40 j) (c : CM m v g h) : CM m v g h' := ⟨by rw [o 2 (by decide) (by decide) (by decide)]; exact c.1, fun k hk => by rw [(e 41 (by decide)).1]; exact c.2.1 k hk, by rw [(e 3 (by decide)).1]; exact c.2.2⟩
set_option maxRecDepth 16384 in
theorem sh_1 (n : Nat) : n >>> 1 = n / 2 := by rw [Nat.shiftRight_eq_div_pow]
set_option maxRecDepth 16384 in
theorem an_1 (n : Nat) : n &&& 1 = n % 2 := Nat.and_one_is_mod n
set_option maxRecDepth 16384 in
theorem pw_shr1 {a : Nat} (ha : a < 2147483648) : nI a >>> ((1 : Int32) &&& 31) = nI (a / 2) := by
  have := pw_shr (a := a) (i := 1) ha (by decide)
  rw [sh_1] at this
  exact this
set_option maxRecDepth 16384 in
theorem pw_and1 (a : Nat) : nI a &&& (1 : Int32) = nI (a % 2) := by
  rw [← an_1]
  exact pw_and a 1
set_option maxRecDepth 16384 in
theorem c_fits {m : Nat} {v : Nat → Nat} {g : Nat} {h : PH} {pre : List Nat} (hm : m ≤ 12) (hv : ∀ k, k < m → v k < 8192) (C : CM m v g h) (hd : dis pre) (hl : caL pre < 4096) (hl2 : weL pre < 4096) : f_X5_fits 40 (nI (caL pre)) (nI (weL pre)) h = some (bI (fwt m v pre), h) := by
  obtain ⟨c1, c2, c3⟩ := C
  unfold f_X5_fits
  obtain ⟨r, x, hx, y1, y2⟩ : ok (lp (b_X5_fits_2 40 (nI (caL pre)) (nI (weL pre))) FU (nI 0) h) (fun r h' => r = bI (fwt m v pre) ∧ h' = h) := by
    refine lp_ok (fun n s h1 => n ≤ m ∧ s = nI (m - n) ∧ h1 = h ∧ ∀ k, k < m - n → pm pre (v k / 2) = decide (v k % 2 = 1)) ?_ FU m _ _ ⟨Nat.le_refl _, by rw [Nat.sub_self], rfl, fun k hk => absurd hk (by omega)⟩ (fu_lt (by omega))
    rintro n rec s h1 ⟨hn, rfl, rfl, y⟩ hrec
    unfold b_X5_fits_2
    by_cases h0 : n = 0
    · subst h0
      have hf : fwt m v pre = true := fwt_iff.mpr (fun k hk => y k (by omega))
      simp (disch := omega) only [pw_lt, pw_cb, pw_cbx, pw_cbxr, pw_lit, pw_litL, pw_oi, pw_oim, pw_oi8, pw_m, pw_ldI, pw_ldL, pw_ldR, pw_stI, pw_stL, pw_nz, pw_ltI, pw_leI, pw_eqI, pw_eqm, pw_eqm2, pw_ltm, pw_mlt, pw_lem, pw_mle, pw_mm, pw_dec, pw_nar0, pw_nar1, nI_add, pw_sub, pw_mul, pw_and, pw_or, pw_andn, pw_shl1, pw_shl, pw_shr, pw_dv, nI_l, lN_i, Bool.false_eq_true, reduceCtorEq, if_false, if_true, ↓reduceIte, if_pos, if_neg, c1, Nat.sub_zero, Nat.le_refl]
      exact ok_some ⟨by rw [hf]; rfl, rfl⟩
    · generalize hk : m - n = k at *
      have e9 : m - (n - 1) = k + 1 := by omega
      have v1 := c2 k (by omega)
      have v2 := hv k (by omega)
      have hp := pm_iff (x := v k / 2) hd
      have hle : v k / 2 &&& caL pre ≤ v k / 2 := Nat.and_le_left
      have hmod : v k % 2 < 2 := Nat.mod_lt _ (by decide)
      have key : pm pre (v k / 2) = decide (v k % 2 = 1) ∨ ¬ pm pre (v k / 2) = decide (v k % 2 = 1) := Classical.em _
      have hnot : ¬ pm pre (v k / 2) = decide (v k % 2 = 1) → fwt m v pre = false := fun z => by
        cases hf : fwt m v pre
        · rfl
        · exact absurd (fwt_iff.mp hf k (by omega)) z
      simp (disch := omega) only [c1, pw_leI, if_neg, r_40_1, pw_ldI, v1, pw_shr1, pw_and1, pw_and, pw_lt]
      have l1 : (1 : Int32) = nI 1 := rfl
      simp (disch := omega) only [l1, pw_lit, pw_eqI]
      by_cases d1 : v k % 2 = 1
      · rw [if_pos d1]
        by_cases d2 : v k / 2 &&& caL pre = weL pre
        · rw [if_pos d2, if_pos trivial]
          have hpm := hp.mp d2
          simp only [pw_oi, nI_add]
          refine hrec (n - 1) _ _ (by omega) ⟨by omega, by rw [e9], rfl, fun x hx => ?_⟩
          rw [e9] at hx
          by_cases ex : x = k
          · subst ex
            rw [hpm, decide_eq_true d1]
          · exact y x (by omega)
        · rw [if_neg d2]
          have hpm : pm pre (v k / 2) = false := by
            cases hq : pm pre (v k / 2)
            · rfl
            · exact absurd (hp.mpr hq) d2
          have hf := hnot (by rw [hpm, decide_eq_true d1]; decide)
          rw [if_neg (by decide)]
          exact ok_some ⟨by rw [hf]; rfl, rfl⟩
      · rw [if_neg d1]
        by_cases d2 : v k / 2 &&& caL pre = weL pre
        · rw [if_pos d2]
          have hpm := hp.mp d2
          have hf := hnot (by rw [hpm, decide_eq_false d1]; decide)
          rw [if_neg (by decide)]
          exact ok_some ⟨by rw [hf]; rfl, rfl⟩
        · rw [if_neg d2, if_pos trivial]
          have hpm : pm pre (v k / 2) = false := by
            cases hq : pm pre (v k / 2)
            · rfl
            · exact absurd (hp.mpr hq) d2
          simp only [pw_oi, nI_add]
          refine hrec (n - 1) _ _ (by omega) ⟨by omega, by rw [e9], rfl, fun x hx => ?_⟩
          rw [e9] at hx
          by_cases ex : x = k
          · subst ex
            rw [hpm, decide_eq_false d1]
          · exact y x (by omega)
  have hx : lp (b_X5_fits_2 40 (nI (caL pre)) (nI (weL pre))) FU (nI 0) h = some (r, x) := hx
  simp only [pw_lt, pw_lit]
  rw [hx, y1, y2]
set_option maxRecDepth 16384 in
theorem c_keep {h : PH} {st : List Nat × Nat} {pre : List Nat} (S : SC st h) (hl : st.2 < 1000000) : ok (f_X5_keep 40 (nI (caL pre)) (nI (weL pre)) h) (fun _ h' => eqx [40] h h' ∧ (∀ j, j ≠ 3 → j ≠ 4 → j ≠ 6 → h'.1 40 j = h.1 40 j) ∧ SC (if st.2 = 0 then pre else st.1, st.2 + 1) h') := by
  obtain ⟨s1, s2⟩ := S
  unfold f_X5_keep
  refine ok_join (fun h1 => eqx [40] h h1 ∧ (∀ j, j ≠ 3 → j ≠ 4 → h1.1 40 j = h.1 40 j) ∧ h1.1 40 3 = nI (caL (if st.2 = 0 then pre else st.1)) ∧ h1.1 40 4 = nI (weL (if st.2 = 0 then pre else st.1))) ?_ (fun j hj => ?_)
  · rintro h1 ⟨e1, o1, z3, z4⟩
    have v6 : h1.1 40 6 = nI st.2 := by rw [o1 6 (by decide) (by decide)]; exact s1
    refine ok_lt ?_
    simp only [pw_lit, v6, nI_add, pw_lt]
    refine ok_some ⟨eqx_trans e1 (eqx_pI (by simp)), fun j q1 q2 q3 => by rw [pw_pIo (by omega)]; exact o1 j q1 q2, pw_pIs, fun _ => ⟨?_, ?_⟩⟩
    · rw [pw_pIo (by omega)]; exact z3
    · rw [pw_pIo (by omega)]; exact z4
  · by_cases c : st.2 = 0
    · have hc : h.1 40 6 = 0 := by rw [s1, c]; rfl
      rw [if_pos hc]
      refine ok_lt (ok_lt ?_)
      refine hj _ ⟨eqx_trans (eqx_pI (by simp)) (eqx_pI (by simp)), fun j q1 q2 => by rw [pw_pIo (by omega), pw_pIo (by omega)], ?_, ?_⟩
      · rw [if_pos c, pw_pIo (by omega), pw_pIs]
      · rw [if_pos c, pw_pIs]
    · obtain ⟨t1, t2⟩ := s2 c
      have hc : ¬ h.1 40 6 = 0 := by rw [s1]; exact nI_ne0 (by omega) (by omega)
      rw [if_neg hc]
      refine hj _ ⟨eqx_rfl _ _, fun _ _ _ => rfl, ?_, ?_⟩
      · rw [if_neg c]; exact t1
      · rw [if_neg c]; exact t2
set_option maxRecDepth 16384 in
theorem pow24 {l : Nat} (h : l ≤ 3) : 24 ^ l ≤ 13824 := (by decide : ∀ l, l < 4 → 24 ^ l ≤ 13824) l (by omega)
set_option maxRecDepth 16384 in
theorem dis_cons {pre : List Nat} {t : Nat} (hd : dis pre) (h : ∀ u, u ∈ pre → u / 2 < t / 2) : dis (t :: pre) := by
  intro a ha b hb e
  rcases List.mem_cons.mp ha with q1 | q1
  · rcases List.mem_cons.mp hb with q2 | q2
    · rw [q1, q2]
    · have := h b q2
      rw [q1] at e
      omega
  · rcases List.mem_cons.mp hb with q2 | q2
    · have := h a q1
      rw [q2] at e
      omega
    · exact hd a q1 b q2 e
set_option maxRecDepth 16384 in
theorem c_search {m : Nat} {v : Nat → Nat} {g : Nat} (hm : m ≤ 12) (hv : ∀ k, k < m → v k < 8192) (hg : g ≤ 12) : ∀ l n h pre c st, l < n → l ≤ 3 → CM m v g h → SC st h → st.2 + 24 ^ l ≤ 100000 → dis pre → (∀ t, t ∈ pre → t / 2 < c) → c ≤ g →
    ok (f_X5_search n 40 (nI l) (nI c) (nI (caL pre)) (nI (weL pre)) h) (fun _ h' => eqx [40] h h' ∧ (∀ j, j ≠ 3 → j ≠ 4 → j ≠ 6 → h'.1 40 j = h.1 40 j) ∧ SC (Ws m v g l pre (2 * c) st) h') := by
  intro l
  have h12 : 2 ^ g ≤ 2 ^ 12 := Nat.pow_le_pow_right (by decide) hg
  have e12 : 2 ^ 12 = 4096 := rfl
  induction l with
  | zero =>
    intro n h pre c st hn hl C S hb hd hp hc
    obtain ⟨n, rfl⟩ : ∃ k, n = k + 1 := ⟨n - 1, by omega⟩
    show ok (g_X5_search (f_X5_search n) 40 (nI 0) (nI c) (nI (caL pre)) (nI (weL pre)) h) _
    have k1 := caL_lt (g := g) (fun t ht => by have := hp t ht; omega)
    have k2 := weL_lt (g := g) (fun t ht => by have := hp t ht; omega)
    have hf := c_fits hm hv C hd (show caL pre < 4096 by omega) (show weL pre < 4096 by omega)
    unfold g_X5_search
    rw [hf]
    have z : ¬ ((0 : Int32) < nI 0) := by decide
    rw [if_neg z]
    simp only [pw_cb]
    rw [Ws, keepW]
    refine ok_join (fun h1 => eqx [40] h h1 ∧ (∀ j, j ≠ 3 → j ≠ 4 → j ≠ 6 → h1.1 40 j = h.1 40 j) ∧ SC (if fwt m v pre = true then (if st.2 = 0 then pre else st.1, st.2 + 1) else st) h1) (fun h1 q => ok_some q) (fun j hj => ?_)
    rcases tf (fwt m v pre) with f | f
    · have hb2 : bI (fwt m v pre) = 0 := by rw [f]; rfl
      rw [if_pos hb2]
      refine hj _ ⟨eqx_rfl _ _, fun _ _ _ _ => rfl, ?_⟩
      rw [f]
      exact S
    · have hb2 : ¬ bI (fwt m v pre) = 0 := by rw [f]; decide
      rw [if_neg hb2]
      refine ok_cb (c_keep S (by omega)) ?_
      rintro r h1 ⟨e1, o1, s1⟩
      refine hj _ ⟨e1, o1, ?_⟩
      rw [f]
      exact s1
  | succ l ih =>
    intro n h pre c st hn hl C S hb hd hp hc
    obtain ⟨n, rfl⟩ : ∃ k, n = k + 1 := ⟨n - 1, by omega⟩
    show ok (g_X5_search (f_X5_search n) 40 (nI (l + 1)) (nI c) (nI (caL pre)) (nI (weL pre)) h) _
    unfold g_X5_search
    simp (disch := omega) only [pw_lit, pw_ltI, if_pos]
    refine ok_lt ?_
    rw [Ws]
    have hpw : 24 ^ (l + 1) = 24 * 24 ^ l := by rw [Nat.pow_succ, Nat.mul_comm]
    have h24 := pow24 (l := l) (by omega)
    refine lp_ok (fun k s h1 => ∃ d st1, d + k = g ∧ c ≤ d ∧ s = nI d ∧ eqx [40] h h1 ∧ (∀ j, j ≠ 3 → j ≠ 4 → j ≠ 6 → h1.1 40 j = h.1 40 j) ∧ SC st1 h1 ∧ st1.2 + 2 * k * 24 ^ l ≤ 100000 ∧ itr (fun t s => Ws m v g l (t :: pre) (2 * (t / 2 + 1)) s) (2 * k) (2 * d) st1 = itr (fun t s => Ws m v g l (t :: pre) (2 * (t / 2 + 1)) s) (2 * g - 2 * c) (2 * c) st) ?_ FU (g - c) _ h ⟨c, st, by omega, Nat.le_refl _, rfl, eqx_rfl _ _, fun _ _ _ _ => rfl, S, ?_, by rw [show 2 * (g - c) = 2 * g - 2 * c by omega]⟩ (fu_lt (by omega))
    · rintro k rec s h1 ⟨d, st1, hdk, hcd, rfl, e1, o1, S1, hb1, hit⟩ hrec
      have C1 := CM_to e1 o1 C
      unfold b_X5_search_25
      by_cases h0 : k = 0
      · subst h0
        have hd' : d = g := by omega
        subst hd'
        simp (disch := omega) only [r_40_0, C1.2.2, pw_leI, Nat.le_refl, if_true]
        refine ok_some ⟨e1, o1, ?_⟩
        rw [← hit]
        exact S1
      · have hdg : ¬ g ≤ d := by omega
        have ca0 : nI (caL pre) ||| nI (2 ^ d) = nI (caL (2 * d :: pre)) := by rw [pw_or, caL, show 2 * d / 2 = d by omega]
        have ca1 : nI (caL pre) ||| nI (2 ^ d) = nI (caL ((2 * d + 1) :: pre)) := by rw [pw_or, caL, show (2 * d + 1) / 2 = d by omega]
        have we0 : weL pre = weL (2 * d :: pre) := by rw [weL, if_neg (by omega)]
        have we1 : nI (weL pre) ||| nI (2 ^ d) = nI (weL ((2 * d + 1) :: pre)) := by rw [pw_or, weL, if_pos (by omega), show (2 * d + 1) / 2 = d by omega]
        have hpd : ∀ u, u ∈ pre → u / 2 < d := fun u hu => by have := hp u hu; omega
        have hsp : 2 * k * 24 ^ l = 24 ^ l + (24 ^ l + 2 * (k - 1) * 24 ^ l) := by
          obtain ⟨k', rfl⟩ : ∃ k', k = k' + 1 := ⟨k - 1, by omega⟩
          rw [Nat.add_sub_cancel, show 2 * (k' + 1) = 2 * k' + 1 + 1 by omega, Nat.add_mul, Nat.add_mul, Nat.one_mul]
          omega
        simp (disch := omega) only [pw_lit, r_40_0, C1.2.2, pw_leI, if_neg, pw_and, pw_shl1, pw_sub, Nat.add_sub_cancel, nI_add]
        refine ok_lt ?_
        have i1 := ih n h1 (2 * d :: pre) (d + 1) st1 (by omega) (by omega) C1 S1 (by omega) (dis_cons hd (fun u hu => by have := hpd u hu; omega)) (fun t ht => by
          rcases List.mem_cons.mp ht with rfl | ht
          · omega
          · have := hpd t ht; omega) (by omega)
        rw [← ca0, ← we0] at i1
        refine ok_cb i1 ?_
        rintro r2 h2 ⟨e2, o2, S2⟩
        have hle := Ws_le (m := m) (v := v) hg l (2 * d :: pre) (2 * (d + 1)) st1
        have i2 := ih n h2 ((2 * d + 1) :: pre) (d + 1) (Ws m v g l (2 * d :: pre) (2 * (d + 1)) st1) (by omega) (by omega) (CM_to e2 o2 C1) S2 (by omega) (dis_cons hd (fun u hu => by have := hpd u hu; omega)) (fun t ht => by
          rcases List.mem_cons.mp ht with rfl | ht
          · omega
          · have := hpd t ht; omega) (by omega)
        rw [← ca1, ← we1] at i2
        refine ok_cb i2 ?_
        rintro r3 h3 ⟨e3, o3, S3⟩
        have hle2 := Ws_le (m := m) (v := v) hg l ((2 * d + 1) :: pre) (2 * (d + 1)) (Ws m v g l (2 * d :: pre) (2 * (d + 1)) st1)
        simp only [pw_lt, pw_oi, nI_add]
        refine hrec (k - 1) _ h3 (by omega) ⟨d + 1, _, by omega, by omega, rfl, eqx_trans e1 (eqx_trans e2 e3), fun j q1 q2 q3 => by rw [o3 j q1 q2 q3, o2 j q1 q2 q3]; exact o1 j q1 q2 q3, S3, by omega, ?_⟩
        rw [← hit, show 2 * k = 2 * (k - 1) + 1 + 1 by omega, itr, itr, show 2 * d / 2 + 1 = d + 1 by omega, show (2 * d + 1) / 2 + 1 = d + 1 by omega, show 2 * d + 1 + 1 = 2 * (d + 1) by omega]
    · have : 2 * (g - c) * 24 ^ l ≤ 24 * 24 ^ l := Nat.mul_le_mul_right _ (by omega)
      omega

/-! ===== sets of cells ===== -/
set_option maxRecDepth 16384 in
theorem KN_1 (np nd : Nat) (h : np ≤ 4) : gv (KN np nd) 1 = np := by
  have : KN np nd 1 = nI np := rfl
  unfold gv
  rw [this, pw_clamp (by omega)]
set_option maxRecDepth 16384 in
theorem KN_2 (np nd : Nat) (h : nd ≤ 6) : gv (KN np nd) 2 = nd := by
  have : KN np nd 2 = nI nd := rfl
  unfold gv
  rw [this, pw_clamp (by omega)]
set_option maxRecDepth 16384 in
theorem KN_gc {np nd : Nat} (h : np ≤ 4) (h2 : nd ≤ 6) : gc (KN np nd) = np * nd := by
  unfold gc
  rw [KN_1 np nd h, KN_2 np nd h2]
set_option maxRecDepth 16384 in
theorem KN_ga {np nd : Nat} (h : np ≤ 4) (h2 : nd ≤ 6) : ga (KN np nd) = 2 ^ (np * nd) - 1 := by
  unfold ga
  rw [KN_gc h h2]
def dz (np nd d q : Nat) : Nat := orTo (np * nd) (fun c => decide (c % nd = d ∧ c / nd < q))
set_option maxRecDepth 16384 in
theorem dz_all : allN 5 (fun np => allN 7 (fun nd => allN 6 (fun d => decide (12 < np * nd) || (decide (nd ≤ d) || (decide (dz np nd d 0 = 0) && (decide (dz np nd d np = orTo (np * nd) (fun c => decide (c % nd = d))) && allN np (fun q => decide (dz np nd d (q + 1) = dz np nd d q ||| 2 ^ (nd * q + d))))))))) = true := by decide +kernel
set_option maxRecDepth 16384 in
theorem dz_at {np nd d : Nat} (hp : np ≤ 4) (hd : nd ≤ 6) (hg : np * nd ≤ 12) (h : d < nd) : dz np nd d 0 = 0 ∧ dz np nd d np = orTo (np * nd) (fun c => decide (c % nd = d)) ∧ ∀ q, q < np → dz np nd d (q + 1) = dz np nd d q ||| 2 ^ (nd * q + d) := by
  have h1 := allN_at (allN_at (allN_at dz_all np (by omega)) nd (by omega)) d (by omega)
  rw [decide_eq_false (show ¬ 12 < np * nd by omega), decide_eq_false (show ¬ nd ≤ d by omega), Bool.false_or, Bool.false_or, Bool.and_eq_true, Bool.and_eq_true] at h1
  exact ⟨of_decide_eq_true h1.1, of_decide_eq_true h1.2.1, fun q hq => of_decide_eq_true (allN_at h1.2.2 q hq)⟩
set_option maxRecDepth 16384 in
theorem pz_all : allN 5 (fun np => allN 7 (fun nd => allN 4 (fun p => decide (12 < np * nd) || (decide (np ≤ p) || decide ((2 ^ nd - 1) <<< (nd * p) = orTo (np * nd) (fun c => decide (c / nd = p))))))) = true := by decide +kernel
set_option maxRecDepth 16384 in
theorem pz_at {np nd p : Nat} (hp : np ≤ 4) (hd : nd ≤ 6) (hg : np * nd ≤ 12) (h : p < np) : (2 ^ nd - 1) <<< (nd * p) = orTo (np * nd) (fun c => decide (c / nd = p)) := by
  have h1 := allN_at (allN_at (allN_at pz_all np (by omega)) nd (by omega)) p (by omega)
  rw [decide_eq_false (show ¬ 12 < np * nd by omega), decide_eq_false (show ¬ np ≤ p by omega), Bool.false_or, Bool.false_or] at h1
  exact of_decide_eq_true h1
set_option maxRecDepth 16384 in
theorem wz_all : allN 5 (fun np => allN 7 (fun nd => allN 4 (fun p => allN 6 (fun d => decide (12 < np * nd) || (decide (np ≤ p) || (decide (nd ≤ d) || decide (orTo (np * nd) (fun c => decide (c / nd = p)) &&& orTo (np * nd) (fun c => decide (c % nd = d)) = 2 ^ (nd * p + d)))))))) = true := by decide +kernel
set_option maxRecDepth 16384 in
theorem wz_at {np nd p d : Nat} (hp : np ≤ 4) (hd : nd ≤ 6) (hg : np * nd ≤ 12) (h : p < np) (h2 : d < nd) : orTo (np * nd) (fun c => decide (c / nd = p)) &&& orTo (np * nd) (fun c => decide (c % nd = d)) = 2 ^ (nd * p + d) := by
  have h1 := allN_at (allN_at (allN_at (allN_at wz_all np (by omega)) nd (by omega)) p (by omega)) d (by omega)
  rw [decide_eq_false (show ¬ 12 < np * nd by omega), decide_eq_false (show ¬ np ≤ p by omega), decide_eq_false (show ¬ nd ≤ d by omega), Bool.false_or, Bool.false_or, Bool.false_or] at h1
  exact of_decide_eq_true h1
set_option maxRecDepth 16384 in
theorem KN_day {np nd : Nat} (h : np ≤ 4) (h2 : nd ≤ 6) (d : Nat) : dayM (KN np nd) d = orTo (np * nd) (fun c => decide (c % nd = d)) := by
  unfold dayM
  rw [KN_gc h h2, KN_2 np nd h2]
set_option maxRecDepth 16384 in
theorem KN_par {np nd : Nat} (h : np ≤ 4) (h2 : nd ≤ 6) (p : Nat) : parM (KN np nd) p = orTo (np * nd) (fun c => decide (c / nd = p)) := by
  unfold parM
  rw [KN_gc h h2, KN_2 np nd h2]
set_option maxRecDepth 16384 in
theorem or_lt {m : Nat} {f : Nat → Bool} (h : m ≤ 12) : orTo m f < 4096 := by
  have h1 := orTo_lt f m
  have h2 : 2 ^ m ≤ 2 ^ 12 := Nat.pow_le_pow_right (by decide) h
  exact Nat.lt_of_lt_of_le h1 h2
set_option maxRecDepth 16384 in
theorem cell_lt2 {np nd q d : Nat} (hq : q < np) (hd : d < nd) (hg : np * nd ≤ 12) : nd * q + d < 12 := by
  have := cell_lt hq hd
  omega
set_option maxRecDepth 16384 in
theorem c_cellsOnDay {np nd d : Nat} {h : PH} (hp : np ≤ 4) (hd : nd ≤ 6) (hg : np * nd ≤ 12) (s : SB np nd h) (hdd : d < nd) : f_X8_cellsOnDay 8 (nI d) h = some (nI (dayM (KN np nd) d), h) := by
  obtain ⟨z0, z1, z2⟩ := dz_at hp hd hg hdd
  rw [KN_day hp hd, ← z1]
  unfold f_X8_cellsOnDay
  simp only [pw_lt]
  have hrun := lp_run (body := b_X8_cellsOnDay_4 8 (nI d)) (fun q => (nI (dz np nd d q), nI q)) (fun _ => h) np (some (nI (dz np nd d np), h)) ?_ ?_ FU (fu_lt (by omega))
  · have e0 : ((0 : Int32), (0 : Int32)) = (nI (dz np nd d 0), nI 0) := by rw [z0]; rfl
    rw [e0]
    exact hrun
  · intro q hq rec
    have hc := cell_lt2 hq hdd hg
    unfold b_X8_cellsOnDay_4
    have h1 : ¬ (nI np ≤ nI q) := by
      rw [pw_leI (by omega) (by omega)]
      omega
    have h2 : (1 : Int32) <<< ((nI nd * nI q + nI d) &&& 31) = nI (2 ^ (nd * q + d)) := by
      rw [pw_lit, pw_lit, pw_mul, nI_add, pw_and]
      exact pw_shl1 (by omega)
    rw [s.1, s.2.1]
    dsimp only
    rw [if_neg h1, h2, pw_or, ← z2 q hq]
    simp only [pw_lt, pw_oi, nI_add]
  · intro rec
    unfold b_X8_cellsOnDay_4
    rw [s.1]
    dsimp only
    rw [if_pos ((nI_leI (by omega) (by omega)).mpr (Nat.le_refl _))]
set_option maxRecDepth 16384 in
theorem c_cellsOfParish {np nd p : Nat} {h : PH} (hp : np ≤ 4) (hd : nd ≤ 6) (hg : np * nd ≤ 12) (s : SB np nd h) (hpp : p < np) : f_X8_cellsOfParish 8 (nI p) h = some (nI (parM (KN np nd) p), h) := by
  unfold f_X8_cellsOfParish
  have hm : nd * p < 32 := by
    have : nd * p ≤ nd * np := Nat.mul_le_mul_left _ (by omega)
    rw [Nat.mul_comm nd np] at this
    omega
  have h1 : (1 : Int32) <<< (nI nd &&& 31) = nI (2 ^ nd) := by
    rw [pw_lit, pw_lit, pw_and]
    exact pw_shl1 (by omega)
  have h2 : nI (2 ^ nd) - (1 : Int32) = nI (2 ^ nd - 1) := pw_sub (Nat.one_le_two_pow)
  have h3 : nI (2 ^ nd - 1) <<< (nI (nd * p) &&& 31) = nI ((2 ^ nd - 1) <<< (nd * p)) := by
    rw [pw_lit, pw_and]
    exact pw_shl _ hm
  rw [s.2.1, h1, h2, pw_mul, h3, pz_at hp hd hg hpp, KN_par hp hd]
/- the codes of the atoms -/
set_option maxRecDepth 16384 in
theorem eN_num (np nd v : Nat) : eN np nd (1000 + v) = 11 * 4096 + v := by
  unfold eN enc
  rw [if_pos (by omega), Nat.add_sub_cancel_left]
set_option maxRecDepth 16384 in
theorem eN_all {np nd : Nat} (h : np ≤ 4) (h2 : nd ≤ 6) : eN np nd 400 = 12 * 4096 + (2 ^ (np * nd) - 1) := by
  unfold eN enc
  rw [if_neg (by omega), if_pos rfl, KN_ga h h2]
set_option maxRecDepth 16384 in
theorem eN_on {np nd d : Nat} (h : d < 100) : eN np nd (300 + d) = 12 * 4096 + dayM (KN np nd) d := by
  unfold eN enc
  rw [if_neg (by omega), if_neg (by omega), if_pos (by omega), Nat.add_sub_cancel_left]
set_option maxRecDepth 16384 in
theorem eN_of {np nd p : Nat} (h : p < 100) : eN np nd (200 + p) = 12 * 4096 + parM (KN np nd) p := by
  unfold eN enc
  rw [if_neg (by omega), if_neg (by omega), if_neg (by omega), if_pos (by omega), Nat.add_sub_cancel_left]
set_option maxRecDepth 16384 in
theorem eN_wet {np nd c : Nat} (h : c < 100) : eN np nd (100 + c) = 12 * 4096 + 2 ^ c := by
  unfold eN enc
  rw [if_neg (by omega), if_neg (by omega), if_neg (by omega), if_neg (by omega), if_pos (by omega), Nat.add_sub_cancel_left]
/-! ===== atoms, operands ===== -/
set_option maxRecDepth 16384 in
theorem CF.at {n : Nat} {X : Nat → Nat} {np nd st p : Nat} {W C : List Nat} {cm w : Nat} {h : PH} (c : CF n X np nd st p W C cm h) (h1 : 2 ≤ w) (h2 : w ≤ 27) : f_X9_at 15 w h = some (bI (decide (tc n X p = w)), h) := c_atw c.1 c.2.1 h1 h2
set_option maxRecDepth 16384 in
theorem c_numA {n : Nat} {X : Nat → Nat} {np nd st p lo hi : Nat} {W C : List Nat} {cm : Nat} {h : PH} (c : CF n X np nd st p W C cm h) (hlo : lo < 2147483648) (hhi : hi < 2147483648) : ok (f_X6_takeNumber 13 (nI lo) (nI hi) h) (fun r h' => FrC h h' ∧ match num n X lo hi p with
  | .inl e => r = bI false ∧ CFt e h'
  | .inr q => r = bI true ∧ h'.1 13 9 = nI q.2 ∧ CF n X np nd st q.1 W C cm h') := by
  refine ok_mono (c_takeNumber (lo := lo) (hi := hi) c.1 c.2.1 hlo hhi) ?_
  rintro r h' q
  cases hq : num n X lo hi p with
  | inl e =>
    rw [hq] at q
    exact ⟨q.2.1, q.1, q.2.2⟩
  | inr a =>
    rw [hq] at q
    obtain ⟨q1, q2, q3, q4, q5⟩ := q
    exact ⟨⟨eqx_mono q2 (by decide), fun _ _ => by rw [(q2 8 (by decide)).1]⟩, q1, q4, c.num q2 q3 q5⟩
set_option maxRecDepth 16384 in
theorem c_emitA {n : Nat} {X : Nat → Nat} {np nd st p op a : Nat} {W C : List Nat} {cm : Nat} {h : PH} (c : CF n X np nd st p W C cm h) (hb : C.length < 900) (ha : a < 4096) : ok (f_X8_emit 8 (nI op) (nI a) h) (fun _ h' => FrC h h' ∧ CF n X np nd st p W (C ++ [op * 4096 + a]) cm h') := by
  refine ok_mono (c_emit (op := op) hb c.2.2.2.1 ha) ?_
  rintro r h' ⟨e, f, k⟩
  exact ⟨⟨eqx_mono e (by decide), f⟩, c.emit e f k⟩
set_option maxRecDepth 16384 in
theorem c_advA {n : Nat} {X : Nat → Nat} {np nd st p : Nat} {W C : List Nat} {cm : Nat} {h : PH} (c : CF n X np nd st p W C cm h) : ok (f_X9_advance 15 h) (fun _ h' => FrC h h' ∧ CF n X np nd st (nx n X p) W C cm h') := by
  refine ok_mono (c_adv c.1 c.2.1) ?_
  rintro r h' ⟨e, t⟩
  exact ⟨FrC_15 e, c.adv e t⟩
set_option maxRecDepth 16384 in
theorem c_emitZ {n : Nat} {X : Nat → Nat} {np nd p a s : Nat} {W C : List Nat} {cm : Nat} {h0 h : PH} (f : FrC h0 h) (c : CF n X np nd 3 p W C cm h) (hb : C.length + W.length + 1 ≤ p) (ha : a < 4096) (hs : eN np nd s = 12 * 4096 + a) : ok (cb (f_X8_emit 8 (12 : Int32) (nI a) h) (fun (_ : Unit) (h23 : PH) => zr (1 : Int32) h23)) (PA n X np nd (.inr (3, p, W, C ++ [eN np nd s], cm)) h0) := by
  have hpn := c.2.1.2.2.2.2
  have hn := c.1.1
  refine ok_cb (c_emitA (op := 12) c (by omega) ha) ?_
  rintro r h' ⟨f', c'⟩
  rw [← hs] at c'
  refine ok_some ⟨FrC_trans f f', rfl, c', ?_⟩
  show (C ++ [eN np nd s]).length + W.length ≤ p
  rw [List.length_append, List.length_singleton]
  omega
set_option maxRecDepth 16384 in
theorem c_atom {n : Nat} {X : Nat → Nat} {np nd st p : Nat} {W C : List Nat} {cm : Nat} {h : PH} (hv : VL n X) (h1 : 1 ≤ np) (h2 : 1 ≤ nd) (hnp : np ≤ 4) (hnd : nd ≤ 6) (hg : np * nd ≤ 12) (c : CF n X np nd st p W C cm h) (h7 : h.1 13 7 = nI cm) (hb : C.length + W.length ≤ p) : ok (f_X6_readAtom 13 h) (PA n X np nd (atomA n X np nd p W C cm) h) := by
  have c3 : CF n X np nd 3 p W C cm (pI h 13 8 (nI 3)) := c.sta h7 (by decide) (by decide)
  have F0 : FrC h (pI h 13 8 (nI 3)) := FrC_13
  have hn := c.1.1
  have hpn := c.2.1.2.2.2.2
  have htk := tkd_le n X p
  unfold f_X6_readAtom
  refine ok_lt ?_
  rw [show pI h 13 8 (3 : Int32) = pI h 13 8 (nI 3) from rfl]
  generalize pI h 13 8 (nI 3) = h3 at *
  have k4 : h3.1 15 4 = nI (tkd n X p) := c3.2.1.2.2.2.1
  have hkr : (nI (tkd n X p) = (3 : Int32)) = (tkd n X p = 3) := pw_eqI (a := tkd n X p) (b := 3) (by omega) (by omega)
  simp only [r_13_0, r_13_1, k4, hkr]
  by_cases q40 : tc n X p = 40
  · have hnx := tc_nx (X := X) (b := p) (n := n) (by omega)
    have hvp := hv p q40
    rw [if_pos (tc_40.mp q40)]
    obtain ⟨v1, v2⟩ := c_value c3.1 c3.2.1 (tc_40.mp q40)
    rw [v1]
    simp only [pw_cb]
    refine ok_cb (c_emitA (op := 11) (a := vl n X p) c3 (by omega) (by omega)) ?_
    rintro r1 h4 ⟨f4, c4⟩
    refine ok_cb (c_advA c4) ?_
    rintro r2 h5 ⟨f5, c5⟩
    unfold atomA
    rw [if_pos q40, eN_num]
    refine ok_some ⟨FrC_trans F0 (FrC_trans f4 f5), rfl, c5, ?_⟩
    show (C ++ [11 * 4096 + vl n X p]).length + W.length ≤ nx n X p
    rw [List.length_append, List.length_singleton]
    omega
  · rw [if_neg (fun z => q40 (tc_40.mpr z)), c3.at (w := 14) (by decide) (by decide)]
    simp only [pw_cb]
    unfold atomA
    rw [if_neg q40]
    by_cases q14 : tc n X p = 14
    · have hnx := tc_nx (X := X) (b := p) (n := n) (by omega)
      rw [decide_eq_true q14, if_neg (show ¬ bI true = (0 : Int32) by decide), if_pos q14]
      have hw : 2 ^ (np * nd) ≤ 2 ^ 12 := Nat.pow_le_pow_right (by decide) hg
      have h12 : 2 ^ 12 = 4096 := rfl
      have s8 : h3.1 8 8 = nI (2 ^ (np * nd) - 1) := c3.2.2.2.2.1.2.2
      rw [s8]
      refine ok_cb (c_emitA (op := 12) (a := 2 ^ (np * nd) - 1) c3 (by omega) (by omega)) ?_
      rintro r1 h4 ⟨f4, c4⟩
      refine ok_cb (c_advA c4) ?_
      rintro r2 h5 ⟨f5, c5⟩
      rw [eN_all hnp hnd]
      refine ok_some ⟨FrC_trans F0 (FrC_trans f4 f5), rfl, c5, ?_⟩
      show (C ++ [12 * 4096 + (2 ^ (np * nd) - 1)]).length + W.length ≤ nx n X p
      rw [List.length_append, List.length_singleton]
      omega
    · rw [decide_eq_false q14, if_pos (show bI false = (0 : Int32) from rfl), if_neg q14, c3.at (w := 15) (by decide) (by decide)]
      simp only [pw_cb]
      refine ok_lt ?_
      rw [c3.at (w := 16) (by decide) (by decide)]
      simp only [pw_cb]
      refine ok_lt ?_
      by_cases q15 : tc n X p = 15
      · have hnx := tc_nx (X := X) (b := p) (n := n) (by omega)
        have q16 : tc n X p ≠ 16 := by omega
        rw [if_pos q15, decide_eq_true q15, decide_eq_false q16]
        refine ok_join (fun h10 => h10 = h3) ?_ (fun j hj => ?_)
        · rintro h10 rfl
          refine ok_cb (c_advA c3) ?_
          rintro r1 h12 ⟨f12, c12⟩
          refine ok_joinT (fun t h14 => h14 = h12 ∧ t = nI np) ?_ (fun j hj => ?_)
          · rintro t h14 ⟨rfl, rfl⟩
            have ht : nI np - (1 : Int32) = nI (np - 1) := pw_sub h1
            rw [ht]
            refine ok_cb (c_numA (lo := 0) (hi := np - 1) c12 (by decide) (by omega)) ?_
            rintro r15 h16 ⟨f16, m16⟩
            cases hq : num n X 0 (np - 1) (nx n X p) with
            | inl e =>
              rw [hq] at m16
              obtain ⟨rfl, m16⟩ := m16
              rw [if_pos (show bI false = (0 : Int32) from rfl)]
              exact ok_some ⟨FrC_trans F0 (FrC_trans f12 f16), rfl, m16⟩
            | inr a =>
              rw [hq] at m16
              obtain ⟨rfl, m9, c16⟩ := m16
              obtain ⟨rfl, r2, r3, r4⟩ := num_r hq
              have hnx2 := tc_nx (X := X) (b := nx n X p) (n := n) (by omega)
              rw [if_neg (show ¬ bI true = (0 : Int32) by decide)]
              refine ok_joinT (fun t h18 => h18 = h16 ∧ t = nI (parM (KN np nd) (vl n X (nx n X p)))) ?_ (fun j hj => ?_)
              · rintro t h18 ⟨rfl, rfl⟩
                refine ok_lt ?_
                refine ok_joinT (fun t h21 => FrC h h21 ∧ CF n X np nd 3 (nx n X (nx n X (nx n X p))) W C cm h21 ∧ num n X 0 (nd - 1) (nx n X (nx n X p)) = .inr (nx n X (nx n X (nx n X p)), vl n X (nx n X (nx n X p))) ∧ t = nI (2 ^ (nd * vl n X (nx n X p) + vl n X (nx n X (nx n X p)))) ∧ vl n X (nx n X (nx n X p)) < nd ∧ nx n X (nx n X p) ≤ nx n X (nx n X (nx n X p))) ?_ (fun j hj => ?_)
                · rintro t h21 ⟨f21, c21, hq2, rfl, hd, hle⟩
                  show ok _ (PA n X np nd (bnd (num n X 0 (nd - 1) (nx n X (nx n X p))) (fun d => .inr (3, d.1, W, C ++ [eN np nd (100 + nd * vl n X (nx n X p) + d.2)], cm))) h)
                  rw [hq2]
                  have hcl := cell_lt2 (np := np) (nd := nd) (q := vl n X (nx n X p)) (d := vl n X (nx n X (nx n X p))) (by omega) hd hg
                  have hw : 2 ^ (nd * vl n X (nx n X p) + vl n X (nx n X (nx n X p))) < 2 ^ 12 := Nat.pow_lt_pow_right (by decide) hcl
                  have h12' : 2 ^ 12 = 4096 := rfl
                  exact c_emitZ (s := 100 + nd * vl n X (nx n X p) + vl n X (nx n X (nx n X p))) f21 c21 (by omega) (by omega) (by rw [Nat.add_assoc]; exact eN_wet (by omega))
                · rw [if_neg (show ¬ bI true = (0 : Int32) by decide)]
                  have s2 : h18.1 8 2 = nI nd := c16.2.2.2.2.1.2.1
                  have ht2 : nI nd - (1 : Int32) = nI (nd - 1) := pw_sub h2
                  rw [s2, ht2]
                  refine ok_cb (c_numA (lo := 0) (hi := nd - 1) c16 (by decide) (by omega)) ?_
                  rintro r24 h25 ⟨f25, m25⟩
                  cases hq2 : num n X 0 (nd - 1) (nx n X (nx n X p)) with
                  | inl e =>
                    rw [hq2] at m25
                    obtain ⟨rfl, m25⟩ := m25
                    rw [if_pos (show bI false = (0 : Int32) from rfl)]
                    show ok _ (PA n X np nd (bnd (num n X 0 (nd - 1) (nx n X (nx n X p))) (fun d => .inr (3, d.1, W, C ++ [eN np nd (100 + nd * vl n X (nx n X p) + d.2)], cm))) h)
                    rw [hq2]
                    exact ok_some ⟨FrC_trans F0 (FrC_trans f12 (FrC_trans f16 f25)), rfl, m25⟩
                  | inr a2 =>
                    rw [hq2] at m25
                    obtain ⟨rfl, m9', c25⟩ := m25
                    obtain ⟨rfl, z2, z3, z4⟩ := num_r hq2
                    have hnx3 := tc_nx (X := X) (b := nx n X (nx n X p)) (n := n) (by omega)
                    rw [if_neg (show ¬ bI true = (0 : Int32) by decide), m9', c_cellsOnDay hnp hnd hg c25.2.2.2.2.1 (by show vl n X (nx n X (nx n X p)) < nd; omega)]
                    simp only [pw_cb]
                    refine ok_lt ?_
                    refine hj _ _ ⟨FrC_trans F0 (FrC_trans f12 (FrC_trans f16 f25)), c25, hq2, ?_, by omega, by omega⟩
                    rw [pw_and, KN_day hnp hnd, KN_par hnp hnd, wz_at hnp hnd hg (by omega) (by show vl n X (nx n X (nx n X p)) < nd; omega)]
              · rw [if_pos (show bI false = (0 : Int32) from rfl), m9, c_cellsOfParish hnp hnd hg c16.2.2.2.2.1 (by show vl n X (nx n X p) < np; omega)]
                simp only [pw_cb]
                exact hj _ _ ⟨rfl, rfl⟩
          · rw [if_pos (show bI false = (0 : Int32) from rfl)]
            exact hj _ _ ⟨rfl, c12.2.2.2.2.1.1⟩
        · rw [if_neg (show ¬ bI true = (0 : Int32) by decide)]
          exact hj _ rfl
      · rw [if_neg q15, decide_eq_false q15]
        by_cases q16 : tc n X p = 16
        · have hnx := tc_nx (X := X) (b := p) (n := n) (by omega)
          rw [if_pos q16, decide_eq_true q16]
          refine ok_join (fun h10 => h10 = h3) ?_ (fun j hj => ?_)
          · rintro h10 rfl
            refine ok_cb (c_advA c3) ?_
            rintro r1 h12 ⟨f12, c12⟩
            refine ok_joinT (fun t h14 => h14 = h12 ∧ t = nI nd) ?_ (fun j hj => ?_)
            · rintro t h14 ⟨rfl, rfl⟩
              have ht : nI nd - (1 : Int32) = nI (nd - 1) := pw_sub h2
              rw [ht]
              refine ok_cb (c_numA (lo := 0) (hi := nd - 1) c12 (by decide) (by omega)) ?_
              rintro r15 h16 ⟨f16, m16⟩
              cases hq : num n X 0 (nd - 1) (nx n X p) with
              | inl e =>
                rw [hq] at m16
                obtain ⟨rfl, m16⟩ := m16
                rw [if_pos (show bI false = (0 : Int32) from rfl)]
                exact ok_some ⟨FrC_trans F0 (FrC_trans f12 f16), rfl, m16⟩
              | inr a =>
                rw [hq] at m16
                obtain ⟨rfl, m9, c16⟩ := m16
                obtain ⟨rfl, r2, r3, r4⟩ := num_r hq
                have hnx2 := tc_nx (X := X) (b := nx n X p) (n := n) (by omega)
                rw [if_neg (show ¬ bI true = (0 : Int32) by decide)]
                refine ok_joinT (fun t h18 => h18 = h16 ∧ t = nI (dayM (KN np nd) (vl n X (nx n X p)))) ?_ (fun j hj => ?_)
                · rintro t h18 ⟨rfl, rfl⟩
                  refine ok_lt ?_
                  refine ok_joinT (fun t h21 => h21 = h18 ∧ t = nI (dayM (KN np nd) (vl n X (nx n X p)))) ?_ (fun j hj => ?_)
                  · rintro t h21 ⟨rfl, rfl⟩
                    show ok _ (PA n X np nd (.inr (3, nx n X (nx n X p), W, C ++ [eN np nd (300 + vl n X (nx n X p))], cm)) h)
                    exact c_emitZ (FrC_trans F0 (FrC_trans f12 f16)) c16 (by show C.length + W.length + 1 ≤ nx n X (nx n X p); omega) (by rw [KN_day hnp hnd]; exact or_lt hg) (eN_on (by omega))
                  · rw [if_pos (show bI false = (0 : Int32) from rfl)]
                    exact hj _ _ ⟨rfl, rfl⟩
                · rw [if_neg (show ¬ bI true = (0 : Int32) by decide), m9, c_cellsOnDay hnp hnd hg c16.2.2.2.2.1 (by show vl n X (nx n X p) < nd; omega)]
                  simp only [pw_cb]
                  exact hj _ _ ⟨rfl, rfl⟩
            · rw [if_neg (show ¬ bI true = (0 : Int32) by decide)]
              exact hj _ _ ⟨rfl, c12.2.2.2.2.1.2.1⟩
          · rw [if_pos (show bI false = (0 : Int32) from rfl), if_neg (show ¬ bI true = (0 : Int32) by decide)]
            exact hj _ rfl
        · rw [if_neg q16, decide_eq_false q16]
          refine ok_join (fun h10 => h10 = h3 ∧ tc n X p = 17) ?_ (fun j hj => ?_)
          · rintro h10 ⟨rfl, q17⟩
            have hnx := tc_nx (X := X) (b := p) (n := n) (by omega)
            rw [if_pos q17]
            refine ok_cb (c_advA c3) ?_
            rintro r1 h12 ⟨f12, c12⟩
            refine ok_joinT (fun t h14 => h14 = h12 ∧ t = nI np) ?_ (fun j hj => ?_)
            · rintro t h14 ⟨rfl, rfl⟩
              have ht : nI np - (1 : Int32) = nI (np - 1) := pw_sub h1
              rw [ht]
              refine ok_cb (c_numA (lo := 0) (hi := np - 1) c12 (by decide) (by omega)) ?_
              rintro r15 h16 ⟨f16, m16⟩
              cases hq : num n X 0 (np - 1) (nx n X p) with
              | inl e =>
                rw [hq] at m16
                obtain ⟨rfl, m16⟩ := m16
                rw [if_pos (show bI false = (0 : Int32) from rfl)]
                exact ok_some ⟨FrC_trans F0 (FrC_trans f12 f16), rfl, m16⟩
              | inr a =>
                rw [hq] at m16
                obtain ⟨rfl, m9, c16⟩ := m16
                obtain ⟨rfl, r2, r3, r4⟩ := num_r hq
                have hnx2 := tc_nx (X := X) (b := nx n X p) (n := n) (by omega)
                rw [if_neg (show ¬ bI true = (0 : Int32) by decide)]
                refine ok_joinT (fun t h18 => h18 = h16 ∧ t = nI (parM (KN np nd) (vl n X (nx n X p)))) ?_ (fun j hj => ?_)
                · rintro t h18 ⟨rfl, rfl⟩
                  refine ok_lt ?_
                  refine ok_joinT (fun t h21 => h21 = h18 ∧ t = nI (parM (KN np nd) (vl n X (nx n X p)))) ?_ (fun j hj => ?_)
                  · rintro t h21 ⟨rfl, rfl⟩
                    show ok _ (PA n X np nd (.inr (3, nx n X (nx n X p), W, C ++ [eN np nd (200 + vl n X (nx n X p))], cm)) h)
                    exact c_emitZ (FrC_trans F0 (FrC_trans f12 f16)) c16 (by show C.length + W.length + 1 ≤ nx n X (nx n X p); omega) (by rw [KN_par hnp hnd]; exact or_lt hg) (eN_of (by omega))
                  · rw [if_pos (show bI false = (0 : Int32) from rfl)]
                    exact hj _ _ ⟨rfl, rfl⟩
                · rw [if_pos (show bI false = (0 : Int32) from rfl), m9, c_cellsOfParish hnp hnd hg c16.2.2.2.2.1 (by show vl n X (nx n X p) < np; omega)]
                  simp only [pw_cb]
                  exact hj _ _ ⟨rfl, rfl⟩
            · rw [if_pos (show bI false = (0 : Int32) from rfl)]
              exact hj _ _ ⟨rfl, c12.2.2.2.2.1.1⟩
          · rw [if_pos (show bI false = (0 : Int32) from rfl), if_pos (show bI false = (0 : Int32) from rfl), c3.at (w := 17) (by decide) (by decide)]
            simp only [pw_cb]
            by_cases q17 : tc n X p = 17
            · rw [decide_eq_true q17, if_neg (show ¬ bI true = (0 : Int32) by decide)]
              exact hj _ ⟨rfl, q17⟩
            · rw [decide_eq_false q17, if_pos (show bI false = (0 : Int32) from rfl), if_neg q17]
              refine ok_cb (c_refuse (k := 2) c3.2.1) ?_
              rintro r h4 ⟨rfl, f4, l4⟩
              rw [zr_b]
              exact ok_some ⟨FrC_trans F0 f4, rfl, l4⟩

/-! ===== the class's whole parse ===== -/
set_option maxRecDepth 16384 in
theorem LW_of {np nd p : Nat} {s : LnS} (o : OKS np nd s) (hl : s.2.2.2.length ≤ p) : LW s p := ⟨hl, o.2.2.1, o.2.2.2.2.1⟩
/- what the loop does from here -/
def LnR (n : Nat) (X : Nat → Nat) (np nd k : Nat) (j111 j65 : Int32 → PH → Option (Int32 × PH)) (h : PH) (r : (Nat × Nat) ⊕ (Nat × LnS)) : Prop := match r with
  | .inl e => ∃ h', FrD h h' ∧ CFt e h' ∧ MS h' ∧ ∀ F, 1000 ≤ F + k → lp (b_X6_parse_37 13 j111 j65) F (bI true, nI k) h = j111 (bI false) h'
  | .inr q => ∃ h' p', FrD h h' ∧ LC n X np nd p' q.2 q.1 h' ∧ ∀ F, 1000 ≤ F + k → lp (b_X6_parse_37 13 j111 j65) F (bI true, nI k) h = j65 (bI true) h'
set_option maxRecDepth 16384 in
theorem c_lines {n : Nat} {X : Nat → Nat} {np nd : Nat} {j111 j65 : Int32 → PH → Option (Int32 × PH)} (hv : VL n X) (h1 : 1 ≤ np) (h2 : 1 ≤ nd) (hnp : np ≤ 4) (hnd : nd ≤ 6) (hg : np * nd ≤ 12) : ∀ (f k p ln : Nat) (s : LnS) (h : PH), n - p < f → LC n X np nd p s ln h → OKS np nd s → s.2.2.2.length ≤ p → k + 3 ≤ p → LnR n X np nd k j111 j65 h (linesG n X np nd f p ln s)
  | 0, k, p, ln, s, h, hf, c, o, hl, hk => by omega
  | f + 1, k, p, ln, s, h, hf, c, o, hl, hk => by
    have hn := c.1.1.1
    have hpn := c.1.2.1.2.2.2.2
    rw [linesG]
    by_cases t : tkd n X p = 0
    · rw [if_pos t]
      refine ⟨h, p, eqx_rfl _ _, c, fun F hF => ?_⟩
      obtain ⟨F, rfl⟩ : ∃ f, F = f + 1 := ⟨F - 1, by omega⟩
      have k4 : h.1 15 4 = nI 0 := by rw [c.1.2.1.2.2.2.1, t]
      rw [lp_s, c_bodyE c.2.2.2 k4 (by omega)]
    · rw [if_neg t]
      have cl := c_line (j111 := j111) (j65 := j65) hv h1 h2 hnp hnd hg c (LW_of o hl) hk t ⟨hnp, hnd, hg, o.2.1⟩
      have gd := line_gd hv h1 h2 o hl hpn
      cases hq : lineG n X np nd p s with
      | inl e =>
        rw [hq] at cl
        exact cl
      | inr q =>
        rw [hq] at cl gd
        obtain ⟨h', k', F1, c', w', hp', hk', hL⟩ := cl
        obtain ⟨gd1, gd2, gd3, gd4⟩ := gd
        have ih := c_lines (j111 := j111) (j65 := j65) hv h1 h2 hnp hnd hg f k' q.1 (ln + 1) q.2 h' (by omega) c' gd3 gd4 hk'
        show LnR n X np nd k j111 j65 h (linesG n X np nd f q.1 (ln + 1) q.2)
        cases hl : linesG n X np nd f q.1 (ln + 1) q.2 with
        | inl e =>
          rw [hl] at ih
          obtain ⟨h2, F2, l2, ms2, z⟩ := ih
          exact ⟨h2, eqx_trans F1 F2, l2, ms2, fun F hF => by rw [hL F hF, z (F + k - k') (by omega)]⟩
        | inr r =>
          rw [hl] at ih
          obtain ⟨h2, p2, F2, c2, z⟩ := ih
          exact ⟨h2, p2, eqx_trans F1 F2, c2, fun F hF => by rw [hL F hF, z (F + k - k') (by omega)]⟩
/- the draft, empty -/
def D00 (h : PH) : Prop := h.1 8 0 = nI 0 ∧ h.1 8 3 = nI 3 ∧ h.1 8 4 = nI 0 ∧ h.1 8 5 = nI 0 ∧ h.1 8 6 = nI 0 ∧ h.1 8 9 = nI 0
set_option maxRecDepth 16384 in
theorem D00_to {h h' : PH} {S : List Nat} (e : eqx S h h') (a : 8 ∉ S) (d : D00 h) : D00 h' := by
  unfold D00
  rw [(e 8 a).1]
  exact d
set_option maxRecDepth 16384 in
theorem c_skyH {n : Nat} {X : Nat → Nat} {h : PH} (T : TX n X h) (K : TC n X (sk n X 0) h) (N : NF h) (m8 : h.1 13 8 = nI 0) (D : D00 h) (v1 : h.1 8 1 = nI 0) (v2 : h.1 8 2 = nI 0) : ok (f_X6_readSky 13 h) (fun r h' => FrD h h' ∧ match skyH n X with
  | .inl e => r = bI false ∧ CFt e h' ∧ MS h'
  | .inr q => r = bI true ∧ LC n X q.2.1 q.2.2 q.1 s0 1 h') := by
  have hn := T.1
  have M0 : MS h := ⟨0, 0, 0, by decide, by decide, by decide, by decide, v1, v2, D.2.2.1⟩
  unfold f_X6_readSky skyH
  simp only [r_13_1]
  refine ok_cb (c_take (w := 2) T K (by decide) (by decide)) ?_
  rintro r1 h2 ⟨rfl, y1, y2⟩
  by_cases q2 : tc n X (sk n X 0) = 2
  · obtain ⟨e2, t2⟩ := y1 q2
    have T2 := TX_to e2 (by decide) (by decide) T
    have D2 := D00_to e2 (by decide) D
    have N2 : NF h2 := NF_of (by rw [(e2 13 (by decide)).1]) (by rw [(e2 13 (by decide)).1]) N
    have m82 : h2.1 13 8 = nI 0 := by rw [(e2 13 (by decide)).1]; exact m8
    have F2 : FrD h h2 := eqx_mono e2 (by decide)
    have M2 : MS h2 := M0.C (fun j _ => by rw [(e2 8 (by decide)).1])
    rw [if_pos q2, decide_eq_true q2]
    refine ok_join (fun h3 => ∃ e, num n X 1 4 (nx n X (sk n X 0)) = .inl e ∧ FrD h h3 ∧ CFt e h3 ∧ MS h3) ?_ (fun j18 hj18 => ?_)
    · rintro h3 ⟨e, he, f3, l3⟩
      rw [he]
      exact ok_some ⟨f3, rfl, l3⟩
    · rw [if_neg (show ¬ bI true = (0 : Int32) by decide)]
      refine ok_cb (c_takeNumber (lo := 1) (hi := 4) T2 t2 (by decide) (by decide)) ?_
      rintro r4 h5 m5
      cases hq : num n X 1 4 (nx n X (sk n X 0)) with
      | inl e =>
        rw [hq] at m5
        obtain ⟨rfl, f5, l5⟩ := m5
        rw [if_pos (show bI false = (0 : Int32) from rfl)]
        have := hj18 h5 ⟨e, hq, eqx_trans F2 (FrD_C f5), l5, M2.C f5.2⟩
        rw [hq] at this
        exact this
      | inr a =>
        rw [hq] at m5
        obtain ⟨rfl, e5, o5, v5, t5⟩ := m5
        obtain ⟨ha1, ha2, ha3, ha4⟩ := num_r hq
        have hb1 : 1 ≤ a.2 ∧ a.2 ≤ 4 := by rw [ha1]; exact ⟨ha3, ha4⟩
        obtain ⟨md1, md2, md3⟩ := mdN_b hb1.1 hb1.2
        rw [if_neg (show ¬ bI true = (0 : Int32) by decide), v5]
        refine ok_lt ?_
        have e6 : eqx [8] h5 (pI h5 8 1 (nI a.2)) := eqx_pI (by simp)
        have T6 := TX_to e6 (by decide) (by decide) (TX_to e5 (by decide) (by decide) T2)
        have K6 := TC_to e6 (by decide) t5
        have D5 := D00_to e5 (by decide) D2
        have D6 : D00 (pI h5 8 1 (nI a.2)) := ⟨by rw [pw_pIo (by omega)]; exact D5.1, by rw [pw_pIo (by omega)]; exact D5.2.1, by rw [pw_pIo (by omega)]; exact D5.2.2.1, by rw [pw_pIo (by omega)]; exact D5.2.2.2.1, by rw [pw_pIo (by omega)]; exact D5.2.2.2.2.1, by rw [pw_pIo (by omega)]; exact D5.2.2.2.2.2⟩
        have N6 : NF (pI h5 8 1 (nI a.2)) := NF_of (by rw [pw_pIo (by omega)]; exact o5 10 (by decide)) (by rw [pw_pIo (by omega)]; exact o5 11 (by decide)) N2
        have m86 : (pI h5 8 1 (nI a.2)).1 13 8 = nI 0 := by rw [pw_pIo (by omega), o5 8 (by decide)]; exact m82
        have v6 : (pI h5 8 1 (nI a.2)).1 13 9 = nI a.2 := by rw [pw_pIo (by omega)]; exact v5
        have p6 : (pI h5 8 1 (nI a.2)).1 8 1 = nI a.2 := pw_pIs
        have M6 : MS (pI h5 8 1 (nI a.2)) := ⟨a.2, 0, 0, hb1.2, by decide, by rw [Nat.mul_zero]; decide, by decide, p6, by rw [pw_pIo (by omega), (e5 8 (by decide)).1, (e2 8 (by decide)).1]; exact v2, D6.2.2.1⟩
        have F6 : FrD h (pI h5 8 1 (nI a.2)) := eqx_trans F2 (eqx_trans (eqx_mono e5 (by decide)) (eqx_mono e6 (by decide)))
        generalize pI h5 8 1 (nI a.2) = h6 at *
        show ok _ (fun r h' => FrD h h' ∧ match bnd (num n X 1 (mdN a.2) a.1) (fun b => bnd (stopG n X b.1) (fun e => (.inr (e, a.2, b.2) : (Nat × Nat) ⊕ (Nat × Nat × Nat)))) with
          | .inl e => r = bI false ∧ CFt e h' ∧ MS h'
          | .inr q => r = bI true ∧ LC n X q.2.1 q.2.2 q.1 s0 1 h')
        refine ok_joinT (fun t h8 => h8 = h6 ∧ t = nI (mdN a.2)) ?_ (fun j54 hj54 => ?_)
        · rintro t h8 ⟨rfl, rfl⟩
          refine ok_lt ?_
          refine ok_cb (c_takeNumber (lo := 1) (hi := mdN a.2) T6 K6 (by decide) (by omega)) ?_
          rintro r10 h11 m11
          cases hq2 : num n X 1 (mdN a.2) a.1 with
          | inl e =>
            rw [hq2] at m11
            obtain ⟨rfl, f11, l11⟩ := m11
            rw [if_pos (show bI false = (0 : Int32) from rfl)]
            exact ok_some ⟨eqx_trans F6 (FrD_C f11), rfl, l11, M6.C f11.2⟩
          | inr b =>
            rw [hq2] at m11
            obtain ⟨rfl, e11, o11, v11, t11⟩ := m11
            obtain ⟨hb2, hb3, hb4, hb5⟩ := num_r hq2
            have hc1 : 1 ≤ b.2 ∧ b.2 ≤ mdN a.2 := by rw [hb2]; exact ⟨hb4, hb5⟩
            have hm : a.2 * b.2 ≤ a.2 * mdN a.2 := Nat.mul_le_mul_left _ hc1.2
            rw [Nat.mul_comm a.2 (mdN a.2)] at hm
            rw [if_neg (show ¬ bI true = (0 : Int32) by decide), v11]
            refine ok_lt ?_
            have e12 : eqx [8] h11 (pI h11 8 2 (nI b.2)) := eqx_pI (by simp)
            have T12 := TX_to e12 (by decide) (by decide) (TX_to e11 (by decide) (by decide) T6)
            have K12 := TC_to e12 (by decide) t11
            have D11 := D00_to e11 (by decide) D6
            have D12 : D00 (pI h11 8 2 (nI b.2)) := ⟨by rw [pw_pIo (by omega)]; exact D11.1, by rw [pw_pIo (by omega)]; exact D11.2.1, by rw [pw_pIo (by omega)]; exact D11.2.2.1, by rw [pw_pIo (by omega)]; exact D11.2.2.2.1, by rw [pw_pIo (by omega)]; exact D11.2.2.2.2.1, by rw [pw_pIo (by omega)]; exact D11.2.2.2.2.2⟩
            have N12 : NF (pI h11 8 2 (nI b.2)) := NF_of (by rw [pw_pIo (by omega)]; exact o11 10 (by decide)) (by rw [pw_pIo (by omega)]; exact o11 11 (by decide)) N6
            have m812 : (pI h11 8 2 (nI b.2)).1 13 8 = nI 0 := by rw [pw_pIo (by omega), o11 8 (by decide)]; exact m86
            have p12 : (pI h11 8 2 (nI b.2)).1 8 1 = nI a.2 := by rw [pw_pIo (by omega), (e11 8 (by decide)).1]; exact p6
            have d12 : (pI h11 8 2 (nI b.2)).1 8 2 = nI b.2 := pw_pIs
            have F12 : FrD h (pI h11 8 2 (nI b.2)) := eqx_trans F6 (eqx_trans (eqx_mono e11 (by decide)) (eqx_mono e12 (by decide)))
            generalize pI h11 8 2 (nI b.2) = h12 at *
            refine ok_cb (c_measure (b := 8) (np := a.2) (nd := b.2) (wi := 0) hb1.2 (by omega) (by omega) (by decide) p12 d12 D12.2.2.1) ?_
            rintro r13 h14 ⟨e14, x7, x8, x10, x11, xo⟩
            have T14 := TX_to e14 (by decide) (by decide) T12
            have K14 := TC_to e14 (by decide) K12
            have s13 := (e14 13 (by decide)).1
            refine ok_cb (c_endLine (ln := 0) T14 K14 (by rw [xo 0 (by decide) (by decide) (by decide) (by decide)]; exact D12.1)) ?_
            rintro r15 h16 ⟨rfl, F16, z1, z2⟩
            rw [zr_b]
            show ok _ (fun r h' => FrD h h' ∧ match bnd (stopG n X b.1) (fun e => (.inr (e, a.2, b.2) : (Nat × Nat) ⊕ (Nat × Nat × Nat))) with
              | .inl e => r = bI false ∧ CFt e h' ∧ MS h'
              | .inr q => r = bI true ∧ LC n X q.2.1 q.2.2 q.1 s0 1 h')
            have FF : FrD h h16 := eqx_trans F12 (eqx_trans (eqx_mono e14 (by decide)) F16)
            unfold stopG
            by_cases q3 : tc n X b.1 = 3
            · obtain ⟨e16, u0, uo, t16⟩ := z1 q3
              have g13 := (e16 13 (by decide)).1
              rw [if_pos q3, decide_eq_true q3]
              refine ok_some ⟨FF, rfl, ⟨⟨TX_to e16 (by decide) (by decide) T14, t16, ⟨by rw [uo 1 (by decide), xo 1 (by decide) (by decide) (by decide) (by decide)]; exact p12, by rw [uo 2 (by decide), xo 2 (by decide) (by decide) (by decide) (by decide)]; exact d12, by rw [uo 8 (by decide)]; exact x8⟩, ⟨by rw [uo 9 (by decide), xo 9 (by decide) (by decide) (by decide) (by decide)]; exact D12.2.2.2.2.2, fun k hk => absurd hk (Nat.not_lt_zero k)⟩, NF_of (by rw [g13, s13]) (by rw [g13, s13]) N12⟩, ⟨u0, by rw [uo 3 (by decide), xo 3 (by decide) (by decide) (by decide) (by decide)]; exact D12.2.1, by rw [uo 4 (by decide), xo 4 (by decide) (by decide) (by decide) (by decide)]; exact D12.2.2.1, by rw [uo 5 (by decide), xo 5 (by decide) (by decide) (by decide) (by decide)]; exact D12.2.2.2.1, fun i hi => absurd hi (Nat.not_lt_zero i), fun i _ hi => absurd hi (Nat.not_lt_zero 0)⟩, by rw [uo 6 (by decide), xo 6 (by decide) (by decide) (by decide) (by decide)]; exact D12.2.2.2.2.1, by rw [g13, s13]; exact m812⟩⟩
            · rw [if_neg q3, decide_eq_false q3]
              obtain ⟨l16, o16⟩ := z2 q3
              exact ok_some ⟨FF, rfl, l16, a.2, b.2, 0, hb1.2, by omega, by omega, by decide, by rw [o16 1 (by decide) (by decide), xo 1 (by decide) (by decide) (by decide) (by decide)]; exact p12, by rw [o16 2 (by decide) (by decide), xo 2 (by decide) (by decide) (by decide) (by decide)]; exact d12, by rw [o16 4 (by decide) (by decide), xo 4 (by decide) (by decide) (by decide) (by decide)]; exact D12.2.2.1⟩
        · have hnp : ¬ (nI a.2 ≤ (0 : Int32)) := by
            rw [pw_lit, pw_leI (by omega) (by omega)]
            omega
          have hdv : (12 : Int32) / nI a.2 = nI (12 / a.2) := pw_dv (by decide) (by omega) (by omega)
          have hlt : (nI (12 / a.2) < (6 : Int32)) = (12 / a.2 < 6) := pw_ltI (a := 12 / a.2) (b := 6) (by have := Nat.div_le_self 12 a.2; omega) (by omega)
          rw [v6, if_neg hnp, pw_nz (by omega) (by omega), hdv]
          simp only [hlt]
          refine hj54 _ _ ⟨rfl, ?_⟩
          unfold mdN
          by_cases cc : 12 / a.2 < 6
          · rw [if_pos cc, if_pos cc]
          · rw [if_neg cc, if_neg cc]
            rfl
  · have y2 := y2 q2
    rw [if_neg q2, decide_eq_false q2]
    refine ok_join (fun h3 => h3 = h2) ?_ (fun j18 hj18 => ?_)
    · rintro h3 rfl
      exact ok_some ⟨FrD_C y2.1, rfl, y2.2, M0.C y2.1.2⟩
    · rw [if_pos (show bI false = (0 : Int32) from rfl)]
      exact hj18 _ rfl
/- the draft at the end -/
def DE (np nd ln : Nat) (s : LnS) (h : PH) : Prop := DR s ln h ∧ h.1 8 1 = nI np ∧ h.1 8 2 = nI nd ∧ h.1 8 6 = nI (mkW s.2.2.1) ∧ h.1 8 7 = nI (np * nd) ∧ h.1 8 8 = nI (2 ^ (np * nd) - 1) ∧ h.1 8 10 = nI (blmN np nd s.2.1) ∧ h.1 8 11 = nI (nd * s.2.1 + 1) ∧ CC (s.2.2.2.map (eN np nd)) h
set_option maxRecDepth 16384 in
theorem c_clear {h : PH} : ok (f_X8_clear 8 h) (fun _ h' => eqx [8] h h' ∧ D00 h' ∧ h'.1 8 1 = nI 0 ∧ h'.1 8 2 = nI 0) := by
  unfold f_X8_clear
  refine ok_lt (ok_lt (ok_lt (ok_lt (ok_lt (ok_lt (ok_lt (ok_lt ?_)))))))
  generalize hh : pI (pI (pI (pI (pI (pI (pI (pI h 8 0 (0 : Int32)) 8 1 (0 : Int32)) 8 2 (0 : Int32)) 8 3 (3 : Int32)) 8 4 (0 : Int32)) 8 5 (0 : Int32)) 8 6 (0 : Int32)) 8 9 (0 : Int32) = h8
  have e8 : eqx [8] h h8 := by
    rw [← hh]
    exact eqx_trans (eqx_pI (by simp)) (eqx_trans (eqx_pI (by simp)) (eqx_trans (eqx_pI (by simp)) (eqx_trans (eqx_pI (by simp)) (eqx_trans (eqx_pI (by simp)) (eqx_trans (eqx_pI (by simp)) (eqx_trans (eqx_pI (by simp)) (eqx_pI (by simp))))))))
  have z0 : h8.1 8 0 = nI 0 := by rw [← hh]; simp (disch := omega) only [pw_pIs, pw_pIo, pw_lit]
  have z1 : h8.1 8 1 = nI 0 := by rw [← hh]; simp (disch := omega) only [pw_pIs, pw_pIo, pw_lit]
  have z2 : h8.1 8 2 = nI 0 := by rw [← hh]; simp (disch := omega) only [pw_pIs, pw_pIo, pw_lit]
  have z3 : h8.1 8 3 = nI 3 := by rw [← hh]; simp (disch := omega) only [pw_pIs, pw_pIo, pw_lit]
  have z4 : h8.1 8 4 = nI 0 := by rw [← hh]; simp (disch := omega) only [pw_pIs, pw_pIo, pw_lit]
  have z5 : h8.1 8 5 = nI 0 := by rw [← hh]; simp (disch := omega) only [pw_pIs, pw_pIo, pw_lit]
  have z6 : h8.1 8 6 = nI 0 := by rw [← hh]; simp (disch := omega) only [pw_pIs, pw_pIo, pw_lit]
  have z9 : h8.1 8 9 = nI 0 := by rw [← hh]; simp (disch := omega) only [pw_pIs, pw_pIo, pw_lit]
  refine ok_cb (c_measure (b := 8) (np := 0) (nd := 0) (wi := 0) (by decide) (by decide) (by decide) (by decide) z1 z2 z4) ?_
  rintro r h' ⟨e', m7, m8, m10, m11, mo⟩
  exact ok_some ⟨eqx_trans e8 e', ⟨by rw [mo 0 (by decide) (by decide) (by decide) (by decide)]; exact z0, by rw [mo 3 (by decide) (by decide) (by decide) (by decide)]; exact z3, by rw [mo 4 (by decide) (by decide) (by decide) (by decide)]; exact z4, by rw [mo 5 (by decide) (by decide) (by decide) (by decide)]; exact z5, by rw [mo 6 (by decide) (by decide) (by decide) (by decide)]; exact z6, by rw [mo 9 (by decide) (by decide) (by decide) (by decide)]; exact z9⟩, by rw [mo 1 (by decide) (by decide) (by decide) (by decide)]; exact z1, by rw [mo 2 (by decide) (by decide) (by decide) (by decide)]; exact z2⟩
/- before the last measure -/
def PM (n : Nat) (X : Nat → Nat) (r : (Nat × Nat) ⊕ (Nat × Nat × Nat × LnS)) (h : PH) (y : Int32) (h' : PH) : Prop := FrD h h' ∧ match r with
  | .inl e => y = bI false ∧ CFt e h' ∧ MS h'
  | .inr q => y = bI true ∧ BS q.1 q.2.1 q.2.2.2.2.1 ∧ ∃ p', LC n X q.1 q.2.1 p' q.2.2.2 q.2.2.1 h'
/- what a parse leaves -/
def PP (r : (Nat × Nat) ⊕ (Nat × Nat × Nat × LnS)) (h : PH) (y : Int32) (h' : PH) : Prop := FrD h h' ∧ match r with
  | .inl e => y = bI false ∧ CFt e h'
  | .inr q => y = bI true ∧ NF h' ∧ DE q.1 q.2.1 q.2.2.1 q.2.2.2 h'
set_option maxRecDepth 16384 in
theorem c_lastMeasure {n : Nat} {X : Nat → Nat} {r : (Nat × Nat) ⊕ (Nat × Nat × Nat × LnS)} {h h13 : PH} {y : Int32} (p : PM n X r h y h13) : ok (cb (f_X8_measure 8 h13) (fun (_ : Unit) (h15 : PH) => zr y h15)) (PP r h) := by
  cases r with
  | inl e =>
    obtain ⟨F, rfl, l, np, nd, wi, m1, m2, m3, m4, m5, m6, m7⟩ := p
    refine ok_cb (c_measure (b := 8) m1 m2 m3 m4 m5 m6 m7) ?_
    rintro r h15 ⟨e15, -⟩
    rw [zr_b]
    exact ok_some ⟨eqx_trans F (eqx_mono e15 (by decide)), rfl, CFt_o l (e15 13 (by decide)).1⟩
  | inr q =>
    obtain ⟨F, rfl, hb, p', L, D, m6, m8⟩ := p
    refine ok_cb (c_measure (b := 8) hb.1 hb.2.1 hb.2.2.1 hb.2.2.2 L.2.2.1.1 L.2.2.1.2.1 D.2.2.1) ?_
    rintro r h15 ⟨e15, x7, x8, x10, x11, xo⟩
    have xo' : ∀ j, j < 7 → h15.1 8 j = h13.1 8 j := fun j hj => xo j (by omega) (by omega) (by omega) (by omega)
    have g13 := (e15 13 (by decide)).1
    rw [zr_b]
    refine ok_some ⟨eqx_trans F (eqx_mono e15 (by decide)), rfl, NF_of (by rw [g13]) (by rw [g13]) L.2.2.2.2, D.of ⟨xo' 0 (by omega), xo' 3 (by omega), xo' 4 (by omega), xo' 5 (by omega)⟩ (fun i _ => by rw [(e15 9 (by decide)).1, (e15 10 (by decide)).1]; exact ⟨rfl, rfl⟩) (fun i _ _ => by rw [(e15 11 (by decide)).1]), by rw [xo' 1 (by omega)]; exact L.2.2.1.1, by rw [xo' 2 (by omega)]; exact L.2.2.1.2.1, by rw [xo' 6 (by omega)]; exact m6, x7, x8, x10, x11, CC_to e15 (by decide) (xo 9 (by decide) (by decide) (by decide) (by decide)) L.2.2.2.1⟩
set_option maxRecDepth 16384 in
theorem OKS_0 (np nd : Nat) : OKS np nd s0 := ⟨by show 3 ≤ 6; decide, Nat.zero_le _, Nat.zero_le _, fun i hi => absurd hi (Nat.not_lt_zero i), rfl, fun x hx => absurd hx (List.not_mem_nil), fun i hi => absurd hi (Nat.not_lt_zero i)⟩
set_option maxRecDepth 16384 in
theorem c_parse {n : Nat} {X : Nat → Nat} {h : PH} (T : TX n X h) (hv : VL n X) : ok (f_X6_parse 13 (nI n) h) (PP (skyG n X) h) := by
  have hn := T.1
  unfold f_X6_parse
  simp only [r_13_0, r_13_1]
  refine ok_cb c_clear ?_
  rintro r1 h2 ⟨e2, D2, v1, v2⟩
  refine ok_lt (ok_lt (ok_lt ?_))
  have e5 : eqx [13] h2 (pI (pI (pI h2 13 10 (0 : Int32)) 13 11 (-1 : Int32)) 13 8 (0 : Int32)) := eqx_trans (eqx_pI (by simp)) (eqx_trans (eqx_pI (by simp)) (eqx_pI (by simp)))
  have N5 : NF (pI (pI (pI h2 13 10 (0 : Int32)) 13 11 (-1 : Int32)) 13 8 (0 : Int32)) := ⟨by rw [pw_pIo (by omega), pw_pIo (by omega), pw_pIs]; rfl, by rw [pw_pIo (by omega), pw_pIs]; rfl⟩
  have m5 : (pI (pI (pI h2 13 10 (0 : Int32)) 13 11 (-1 : Int32)) 13 8 (0 : Int32)).1 13 8 = nI 0 := pw_pIs
  generalize pI (pI (pI h2 13 10 (0 : Int32)) 13 11 (-1 : Int32)) 13 8 (0 : Int32) = h5 at *
  have T5 := TX_to e5 (by decide) (by decide) (TX_to e2 (by decide) (by decide) T)
  refine ok_cb (c_begin T5) ?_
  rintro r6 h7 ⟨e7, K7⟩
  have T7 := TX_to e7 (by decide) (by decide) T5
  have g13 := (e7 13 (by decide)).1
  have g8 : h7.1 8 = h2.1 8 := by rw [(e7 8 (by decide)).1, (e5 8 (by decide)).1]
  have D7 : D00 h7 := by
    unfold D00
    rw [g8]
    exact D2
  refine ok_cb (c_skyH T7 K7 (NF_of (by rw [g13]) (by rw [g13]) N5) (by rw [g13]; exact m5) D7 (by rw [g8]; exact v1) (by rw [g8]; exact v2)) ?_
  rintro r8 h9 ⟨F9, M9⟩
  have F09 : FrD h h9 := eqx_trans (eqx_mono e2 (by decide)) (eqx_trans (eqx_mono e5 (by decide)) (eqx_trans (eqx_mono e7 (by decide)) F9))
  refine ok_lt (ok_lt ?_)
  refine ok_joinT (PM n X (skyG n X) h) (fun y h13 p => c_lastMeasure p) (fun j111 hj111 => ?_)
  refine ok_joinT (PM n X (skyG n X) h) (fun y h13 p => hj111 y h13 p) (fun j65 hj65 => ?_)
  have hFU : 1000 < FU := fu_lt (by omega)
  have hy := skyH_gd n X
  cases hq : skyH n X with
  | inl e =>
    rw [hq] at M9
    obtain ⟨rfl, l9, ms9⟩ := M9
    have hsk : skyG n X = .inl e := by
      unfold skyG
      rw [hq]
      rfl
    rw [hsk] at hj111 ⊢
    obtain ⟨F, hF⟩ : ∃ F, FU = F + 1 := ⟨FU - 1, by omega⟩
    have hz : lp (b_X6_parse_37 13 j111 j65) FU (bI false, nI 0) h9 = j111 (bI false) h9 := by
      rw [hF]
      exact lp_fail
    have hz : lp (b_X6_parse_37 13 j111 j65) FU (bI false, (0 : Int32)) h9 = j111 (bI false) h9 := hz
    rw [hz]
    exact hj111 (bI false) h9 ⟨F09, rfl, l9, ms9⟩
  | inr q =>
    rw [hq] at M9 hy
    have hsk : skyG n X = bnd (linesG n X q.2.1 q.2.2 901 q.1 1 s0) (fun r => .inr (q.2.1, q.2.2, r.1, r.2)) := by
      unfold skyG
      rw [hq]
      rfl
    rw [hsk] at hj111 hj65 ⊢
    obtain ⟨rfl, c9⟩ := M9
    obtain ⟨y1, y2, y3, y4, y5, y6, y7⟩ := hy
    have hL := c_lines (j111 := j111) (j65 := j65) hv y3 y5 y4 y6 y7 901 0 q.1 1 s0 h9 (by omega) c9 (OKS_0 _ _) (Nat.zero_le _) (by omega)
    have gd := lines_gd (X := X) hv y3 y5 901 q.1 1 s0 (OKS_0 q.2.1 q.2.2) (Nat.zero_le _) y2 (by omega)
    show ok (lp (b_X6_parse_37 13 j111 j65) FU (bI true, nI 0) h9) _
    cases hl : linesG n X q.2.1 q.2.2 901 q.1 1 s0 with
    | inl e =>
      rw [hl] at hL hj111
      obtain ⟨h', F', l', ms', z⟩ := hL
      rw [z FU (by omega)]
      exact hj111 _ _ ⟨eqx_trans F09 F', rfl, l', ms'⟩
    | inr r =>
      rw [hl] at hL hj65 gd
      obtain ⟨h', p', F', c', z⟩ := hL
      rw [z FU (by omega)]
      exact hj65 _ _ ⟨eqx_trans F09 F', rfl, ⟨y4, y6, y7, gd.2.1.2.1⟩, p', c'⟩

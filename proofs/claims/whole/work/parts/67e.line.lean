/-! ===== any line of the class ===== -/
set_option maxRecDepth 16384 in
theorem c_line {n : Nat} {X : Nat → Nat} {np nd p k ln : Nat} {s : LnS} {h : PH} {j111 j65 : Int32 → PH → Option (Int32 × PH)} (hv : VL n X) (h1 : 1 ≤ np) (h2 : 1 ≤ nd) (hnp : np ≤ 4) (hnd : nd ≤ 6) (hg : np * nd ≤ 12) (c : LC n X np nd p s ln h) (w : LW s p) (hk : k + 3 ≤ p) (ht : tkd n X p ≠ 0) (hB : BS np nd s.2.1) : match lineG n X np nd p s with
  | .inl e => ∃ h', FrD h h' ∧ CFt e h' ∧ MS h' ∧ ∀ F, 1000 ≤ F + k → lp (b_X6_parse_37 13 j111 j65) F (bI true, nI k) h = j111 (bI false) h'
  | .inr q => ∃ h' k', FrD h h' ∧ LC n X np nd q.1 q.2 (ln + 1) h' ∧ LW q.2 q.1 ∧ p + 1 ≤ q.1 ∧ k' + 3 ≤ q.1 ∧ ∀ F, 1000 ≤ F + k → lp (b_X6_parse_37 13 j111 j65) F (bI true, nI k) h = lp (b_X6_parse_37 13 j111 j65) (F + k - k') (bI true, nI k') h' := by
  have L := c.1
  have D := c.2.1
  have m6 := c.2.2.1
  have m8 := c.2.2.2
  have hn := L.1.1
  have hpn := L.2.1.2.2.2.2
  have htk := tkd_le n X p
  have k4 := L.2.1.2.2.2.1
  by_cases t4 : tc n X p = 4
  · have hlen : s.2.2.1.length ≤ 10 := w.2.1
    unfold lineG
    rw [if_pos t4]
    by_cases c10 : 10 ≤ s.2.2.1.length
    · rw [if_pos c10]
      obtain ⟨r, hh, e, rfl, F1, l1⟩ := c_wish10 L D.2.2.2.1 c10 hlen
      have hrl : f_X6_readLine 13 h = some (bI false, hh) := by
        rw [c_rlWish L t4, e]
        simp only [pw_cb]
        exact zr_b false hh
      refine ⟨hh, FrD_C F1, l1, (hB.ms L.2.2.1 D.2.2.1).C F1.2, fun F hF => ?_⟩
      obtain ⟨F, rfl⟩ : ∃ f, F = f + 1 + 1 := ⟨F - 2, by omega⟩
      rw [lp_s, c_bodyL m8 k4 ht htk (by omega) hrl, lp_fail]
    · rw [if_neg c10]
      have hlt : s.2.2.1.length < 10 := by omega
      obtain ⟨r0, h0, e0, F0, M0⟩ := c_readWish L D m6 hlt t4 (by rw [List.length_map]; exact w.2.2) hB
      unfold wishG
      cases hh : headG n X p with
      | inl e =>
        rw [hh] at M0
        obtain ⟨rfl, l0, ms0⟩ := M0
        have hrl : f_X6_readLine 13 h = some (bI false, h0) := by
          rw [c_rlWish L t4, e0]
          simp only [pw_cb]
          exact zr_b false h0
        refine ⟨h0, F0, l0, ms0, fun F hF => ?_⟩
        obtain ⟨F, rfl⟩ : ∃ f, F = f + 1 + 1 := ⟨F - 2, by omega⟩
        rw [lp_s, c_bodyL m8 k4 ht htk (by omega) hrl, lp_fail]
      | inr q =>
        rw [hh] at M0
        obtain ⟨rfl, c1', DO1⟩ := M0
        obtain ⟨g1, g2, g3, g4, g5, g6⟩ := head_on (by omega) hh
        have hrl : f_X6_readLine 13 h = some (bI true, h0) := by
          rw [c_rlWish L t4, e0]
          simp only [pw_cb]
          exact zr_b true h0
        have hq0 : (s.2.2.2.map (eN np nd)).length + ([] : List Nat).length ≤ q.1 := by
          have := w.1
          rw [List.length_map, List.length_nil]
          omega
        have big := big_rTruth (np := np) (nd := nd) (p := q.1) (cm := 0) (l := s.2.2.2) (C := s.2.2.2.map (eN np nd)) hn hv h1 h2 g2
        have gd := gd_rTruth (l := s.2.2.2) hv h1 h2 6 g2
        show match bnd (rTruth n X np nd 6 q.1 s.2.2.2) (fun r => bnd (stopG n X r.1) (fun e => (.inr (e, s.1, s.2.1, s.2.2.1 ++ [(q.2.1, q.2.2.1, q.2.2.2, r.2.length)], r.2) : (Nat × Nat) ⊕ (Nat × LnS)))) with
          | .inl e => ∃ h', FrD h h' ∧ CFt e h' ∧ MS h' ∧ ∀ F, 1000 ≤ F + k → lp (b_X6_parse_37 13 j111 j65) F (bI true, nI k) h = j111 (bI false) h'
          | .inr q => ∃ h' k', FrD h h' ∧ LC n X np nd q.1 q.2 (ln + 1) h' ∧ LW q.2 q.1 ∧ p + 1 ≤ q.1 ∧ k' + 3 ≤ q.1 ∧ ∀ F, 1000 ≤ F + k → lp (b_X6_parse_37 13 j111 j65) F (bI true, nI k) h = lp (b_X6_parse_37 13 j111 j65) (F + k - k') (bI true, nI k') h'
        cases hr : rTruth n X np nd 6 q.1 s.2.2.2 with
        | inl e =>
          rw [hr] at big gd
          obtain ⟨j, c', i1, i2⟩ := big
          obtain ⟨h2', F2, d3, d4, d5, d6⟩ := c_iter (j111 := j111) (j65 := j65) hv h1 h2 hnp hnd hg j (k + 1) 1 q.1 [] _ 0 h0 c' c1' hq0 (by omega) i1
          have i2' : AU n X np nd c'.1 c'.2.1 c'.2.2.1 c'.2.2.2.1 c'.2.2.2.2 = .inl e := i2
          obtain ⟨r3, h3', o1, o2, P⟩ := c_step hv h1 h2 hnp hnd hg d3 d4 (fun e' he' => by
            rw [i2'] at he'
            cases he'
            exact gd.1)
          rw [i2'] at P
          obtain ⟨F3, rfl, l3⟩ := P
          have hb2 : c'.2.1 ≤ n := d3.2.1.2.2.2.2
          refine ⟨h3', eqx_trans F0 (eqx_trans (FrD_C F2) (FrD_C F3)), l3, ((hB.ms c1'.2.2.2.2.1 DO1.1.2.2.1).C F2.2).C F3.2, fun F hF => ?_⟩
          obtain ⟨F, rfl⟩ : ∃ f, F = f + (j + 1 + 1) + 1 := ⟨F - (j + 3), by omega⟩
          rw [lp_s, c_bodyL m8 k4 ht htk (by omega) hrl, d6 (F + (j + 1 + 1)) (by omega), show F + (j + 1 + 1) - j = F + 1 + 1 by omega, lp_s, c_body d3 (by omega) o1 o2, lp_fail]
        | inr r =>
          rw [hr] at big gd
          obtain ⟨gd1, gd2, D', gd3, gd4, -⟩ := gd
          obtain ⟨j, st, V, C2, cm, D2, i1, ⟨⟨gu, gB⟩, gO⟩, i3, i4, i5⟩ := big
          rw [List.append_nil] at i1
          obtain ⟨h2', F2, d3, d4, d5, d6⟩ := c_iter (j111 := j111) (j65 := j65) hv h1 h2 hnp hnd hg j (k + 1) 1 q.1 [] _ 0 h0 _ c1' hq0 (by omega) i1
          have d3 : CF n X np nd st r.1 V C2 cm h2' := d3
          have d4 : C2.length + V.length ≤ r.1 := d4
          have d5 : q.1 + j ≤ r.1 := d5
          have DO2 := DO1.C F2
          have h5 : h2'.1 8 5 = nI s.2.2.1.length := DO2.1.2.2.2.1
          obtain ⟨r3, h3', e3, x1, x2, x3, x4, x5, x6, x7, x8⟩ := c_endWish d3 d4 i5 h5 hlt
          rw [i4] at x4
          have hmap : s.2.2.2.map (eN np nd) ++ D2.map (eN np nd) = r.2.map (eN np nd) := by rw [i3, List.map_append]
          rw [hmap] at x4
          have hrl2 : C2.length + V.length = r.2.length := by
            have z := congrArg List.length (i4.trans hmap)
            rw [List.length_append, List.length_map, List.length_map] at z
            exact z
          rw [hrl2] at x5
          have T3 := TX_to x1 (by decide) (by decide) d3.1
          have K3 := TC_to x1 (by decide) d3.2.1
          obtain ⟨r4, h4', e4, rfl, F4, y1, y2⟩ := c_endLine T3 K3 (by rw [x2 0 (by decide) (by decide)]; exact DO2.1.1)
          have z0 : c0 V = 0 := by
            have := c0_app (V := V) (W := []) i5
            rw [List.append_nil] at this
            rw [this]
            rfl
          have z1 : c1 V = 0 := by
            have := c1_app (V := V) (W := []) i5
            rw [List.append_nil] at this
            rw [this]
            rfl
          have hop : f_X6_readOperator 13 h2' = some (bI (decide (tc n X r.1 = 3)), h4') := by
            rw [c_opEnd d3 gu gB gO z0 z1, e3]
            simp only [pw_cb]
            rw [e4]
            exact zr_b _ h4'
          have hst : ¬ (st = 1 ∨ st = 2) := by
            rcases gu with ⟨g, -⟩ | g <;> omega
          have F34 : FrD h h4' := eqx_trans F0 (eqx_trans (FrD_C F2) (eqx_trans (eqx_mono x1 (by decide)) F4))
          have hpr : r.1 ≤ n := gd2
          unfold stopG
          by_cases q3 : tc n X r.1 = 3
          · obtain ⟨e5, u0, uo, t5⟩ := y1 q3
            rw [decide_eq_true q3] at hop
            have hnx := tc_nx (X := X) (b := r.1) (n := n) (by omega)
            have s13 := (e5 13 (by decide)).1
            have s9 := (e5 9 (by decide)).1
            have s10 := (e5 10 (by decide)).1
            have s11 := (e5 11 (by decide)).1
            have v9 := (x1 9 (by decide)).1
            have v10 := (x1 10 (by decide)).1
            show match (if tc n X r.1 = 3 then (.inr (nx n X r.1) : (Nat × Nat) ⊕ Nat) else .inl (flt n X 2 r.1)) |> fun z => bnd z (fun e => (.inr (e, s.1, s.2.1, s.2.2.1 ++ [(q.2.1, q.2.2.1, q.2.2.2, r.2.length)], r.2) : (Nat × Nat) ⊕ (Nat × LnS))) with
              | .inl e => ∃ h', FrD h h' ∧ CFt e h' ∧ MS h' ∧ ∀ F, 1000 ≤ F + k → lp (b_X6_parse_37 13 j111 j65) F (bI true, nI k) h = j111 (bI false) h'
              | .inr q => ∃ h' k', FrD h h' ∧ LC n X np nd q.1 q.2 (ln + 1) h' ∧ LW q.2 q.1 ∧ p + 1 ≤ q.1 ∧ k' + 3 ≤ q.1 ∧ ∀ F, 1000 ≤ F + k → lp (b_X6_parse_37 13 j111 j65) F (bI true, nI k) h = lp (b_X6_parse_37 13 j111 j65) (F + k - k') (bI true, nI k') h'
            rw [if_pos q3]
            have hS : SB np nd h4' := by
              have sb := d3.2.2.2.2.1
              exact ⟨by rw [uo 1 (by decide), x2 1 (by decide) (by decide)]; exact sb.1, by rw [uo 2 (by decide), x2 2 (by decide) (by decide)]; exact sb.2.1, by rw [uo 8 (by decide), x2 8 (by decide) (by decide)]; exact sb.2.2⟩
            have hD : DR (s.1, s.2.1, s.2.2.1 ++ [(q.2.1, q.2.2.1, q.2.2.2, r.2.length)], r.2) (ln + 1) h4' := by
              obtain ⟨⟨b1, b2, b3, b4, b5, b6⟩, b7, b8, b9, b10⟩ := DO2
              refine ⟨u0, by rw [uo 3 (by decide), x2 3 (by decide) (by decide)]; exact b2, by rw [uo 4 (by decide), x2 4 (by decide) (by decide)]; exact b3, ?_, fun i hi => ?_, fun i hi _ => ?_⟩
              · show h4'.1 8 5 = nI (s.2.2.1 ++ [(q.2.1, q.2.2.1, q.2.2.2, r.2.length)]).length
                rw [uo 5 (by decide), x3, List.length_append, List.length_singleton]
              · have hi : i < (s.2.2.1 ++ [(q.2.1, q.2.2.1, q.2.2.2, r.2.length)]).length := hi
                rw [List.length_append, List.length_singleton] at hi
                show h4'.1 9 i = nI ((s.2.2.1 ++ [(q.2.1, q.2.2.1, q.2.2.2, r.2.length)]).getD i wz).1 ∧ h4'.1 10 i = nI ((s.2.2.1 ++ [(q.2.1, q.2.2.1, q.2.2.2, r.2.length)]).getD i wz).2.1
                rw [s9, s10, v9, v10]
                by_cases ci : i < s.2.2.1.length
                · rw [wd_app ci]
                  exact b5 i ci
                · rw [show i = s.2.2.1.length by omega, wd_last]
                  exact ⟨b8, b9⟩
              · have hi : i ≤ (s.2.2.1 ++ [(q.2.1, q.2.2.1, q.2.2.2, r.2.length)]).length := hi
                rw [List.length_append, List.length_singleton] at hi
                show h4'.1 11 i = nI (frm (s.2.2.1 ++ [(q.2.1, q.2.2.1, q.2.2.2, r.2.length)]) i)
                rw [s11]
                by_cases ci : i ≤ s.2.2.1.length
                · rw [frm_app ci, x6 i (by omega)]
                  exact b10 i ci
                · rw [show i = s.2.2.1.length + 1 by omega, frm_last]
                  exact x5
            refine ⟨h4', k + 1 + j + 1, F34, ⟨⟨TX_to e5 (by decide) (by decide) T3, t5, hS, CC_to e5 (by decide) (uo 9 (by decide)) x4, NF_of (by rw [s13]) (by rw [s13]) x8⟩, hD, ?_, by rw [s13]; exact x7⟩, ⟨?_, ?_, ?_⟩, by show p + 1 ≤ nx n X r.1; omega, by show k + 1 + j + 1 + 3 ≤ nx n X r.1; omega, fun F hF => ?_⟩
            · show h4'.1 8 6 = nI (mkW (s.2.2.1 ++ [(q.2.1, q.2.2.1, q.2.2.2, r.2.length)]))
              rw [uo 6 (by decide), x2 6 (by decide) (by decide), mkW_app]
              exact DO2.2.1
            · show r.2.length ≤ nx n X r.1
              have := w.1
              rw [gd3, List.length_append]
              omega
            · show (s.2.2.1 ++ [(q.2.1, q.2.2.1, q.2.2.2, r.2.length)]).length ≤ 10
              rw [List.length_append, List.length_singleton]
              omega
            · show r.2.length = frm (s.2.2.1 ++ [(q.2.1, q.2.2.1, q.2.2.2, r.2.length)]) (s.2.2.1 ++ [(q.2.1, q.2.2.1, q.2.2.2, r.2.length)]).length
              rw [List.length_append, List.length_singleton, frm_last]
            · obtain ⟨F, rfl⟩ : ∃ f, F = f + (j + 1) + 1 := ⟨F - (j + 2), by omega⟩
              rw [lp_s, c_bodyL m8 k4 ht htk (by omega) hrl, d6 (F + (j + 1)) (by omega), show F + (j + 1) - j = F + 1 by omega, lp_s, c_body d3 (by omega) (fun z => absurd z hst) (fun _ => hop), show F + (j + 1) + 1 + k - (k + 1 + j + 1) = F by omega]
          · rw [decide_eq_false q3] at hop
            show match (if tc n X r.1 = 3 then (.inr (nx n X r.1) : (Nat × Nat) ⊕ Nat) else .inl (flt n X 2 r.1)) |> fun z => bnd z (fun e => (.inr (e, s.1, s.2.1, s.2.2.1 ++ [(q.2.1, q.2.2.1, q.2.2.2, r.2.length)], r.2) : (Nat × Nat) ⊕ (Nat × LnS))) with
              | .inl e => ∃ h', FrD h h' ∧ CFt e h' ∧ MS h' ∧ ∀ F, 1000 ≤ F + k → lp (b_X6_parse_37 13 j111 j65) F (bI true, nI k) h = j111 (bI false) h'
              | .inr q => ∃ h' k', FrD h h' ∧ LC n X np nd q.1 q.2 (ln + 1) h' ∧ LW q.2 q.1 ∧ p + 1 ≤ q.1 ∧ k' + 3 ≤ q.1 ∧ ∀ F, 1000 ≤ F + k → lp (b_X6_parse_37 13 j111 j65) F (bI true, nI k) h = lp (b_X6_parse_37 13 j111 j65) (F + k - k') (bI true, nI k') h'
            rw [if_neg q3]
            obtain ⟨l5, o5⟩ := y2 q3
            have sb := d3.2.2.2.2.1
            refine ⟨h4', F34, l5, hB.ms ⟨by rw [o5 1 (by decide) (by decide), x2 1 (by decide) (by decide)]; exact sb.1, by rw [o5 2 (by decide) (by decide), x2 2 (by decide) (by decide)]; exact sb.2.1, by rw [o5 8 (by decide) (by decide), x2 8 (by decide) (by decide)]; exact sb.2.2⟩ (by rw [o5 4 (by decide) (by decide), x2 4 (by decide) (by decide)]; exact DO2.1.2.2.1), fun F hF => ?_⟩
            obtain ⟨F, rfl⟩ : ∃ f, F = f + (j + 1 + 1) + 1 := ⟨F - (j + 3), by omega⟩
            rw [lp_s, c_bodyL m8 k4 ht htk (by omega) hrl, d6 (F + (j + 1 + 1)) (by omega), show F + (j + 1 + 1) - j = F + 1 + 1 by omega, lp_s, c_body d3 (by omega) (fun z => absurd z hst) (fun _ => hop), lp_fail]
  · obtain ⟨r, hh, e, F1, M⟩ := c_rlOther c w t4 hB
    cases hq : lineG n X np nd p s with
    | inl e' =>
      rw [hq] at M
      obtain ⟨rfl, l1, ms1⟩ := M
      refine ⟨hh, F1, l1, ms1, fun F hF => ?_⟩
      obtain ⟨F, rfl⟩ : ∃ f, F = f + 1 + 1 := ⟨F - 2, by omega⟩
      rw [lp_s, c_bodyL m8 k4 ht htk (by omega) e, lp_fail]
    | inr q =>
      rw [hq] at M
      obtain ⟨rfl, c', w', hp3⟩ := M
      refine ⟨hh, k + 1, F1, c', w', by omega, by omega, fun F hF => ?_⟩
      obtain ⟨F, rfl⟩ : ∃ f, F = f + 1 := ⟨F - 1, by omega⟩
      rw [lp_s, c_bodyL m8 k4 ht htk (by omega) e, show F + 1 + k - (k + 1) = F by omega]

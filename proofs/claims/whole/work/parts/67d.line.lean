/-! ===== a line of the class ===== -/
def upS (bx : Bool) (v : Nat) (s : LnS) : LnS := if bx then (v, s.2.1, s.2.2.1, s.2.2.2) else (s.1, v, s.2.2.1, s.2.2.2)
set_option maxRecDepth 16384 in
theorem stop_on {n : Nat} {X : Nat → Nat} {p e : Nat} (h : stopG n X p = .inr e) : tc n X p = 3 ∧ e = nx n X p := by
  unfold stopG at h
  by_cases c : tc n X p = 3
  · rw [if_pos c] at h
    cases h
    exact ⟨c, rfl⟩
  · rw [if_neg c] at h
    cases h
set_option maxRecDepth 16384 in
theorem c_rlTail {n : Nat} {X : Nat → Nat} {np nd p ln hi : Nat} {bx : Bool} {s : LnS} {h : PH} (c : LC n X np nd p s ln h) (w : LW s p) (ht : tc n X p ≠ 0) (hhi : hi = if bx then 6 else 3) (hB : BS np nd s.2.1) : ok (cb (f_X9_advance 15 h) (fun (_ : Unit) (h8 : PH) => lt (fun (t9 : Int32) (h10 : PH) => cb (f_X6_takeNumber 13 (0 : Int32) t9 h10) (fun (r11 : Int32) (h12 : PH) => if r11 = 0 then (zr (0 : Int32) h12) else (lt (fun (h13 : PH) => cb (f_X6_endLine 13 h13) (fun (r14 : Int32) (h15 : PH) => zr r14 h15)) (fun (j105 : PH → Option (Int32 × PH)) => if bI bx = 0 then (lt (pI h12 8 4 (h12.1 13 9)) (fun (h16 : PH) => j105 h16)) else (lt (pI h12 8 3 (h12.1 13 9)) (fun (h17 : PH) => j105 h17)))))) (fun (j68 : Int32 → PH → Option (Int32 × PH)) => if bI bx = 0 then (j68 (3 : Int32) h8) else (j68 (6 : Int32) h8)))) (fun r h' => FrD h h' ∧ match bnd (num n X 0 hi (nx n X p)) (fun a => bnd (stopG n X a.1) (fun e => (.inr (e, upS bx a.2 s) : (Nat × Nat) ⊕ (Nat × LnS)))) with
  | .inl e => r = bI false ∧ CFt e h' ∧ MS h'
  | .inr q => r = bI true ∧ LC n X np nd q.1 q.2 (ln + 1) h' ∧ LW q.2 q.1 ∧ p + 3 ≤ q.1) := by
  obtain ⟨L, D, m6, m8⟩ := c
  obtain ⟨w1, w2, w3⟩ := w
  have hnx := tc_nx ht
  refine ok_cb (c_adv L.1 L.2.1) ?_
  rintro r1 h8 ⟨e8, t8⟩
  have L8 := L.adv e8 t8
  have D8 := D.to e8 (by decide) (by decide) (by decide) (by decide)
  have F8 : FrD h h8 := eqx_mono e8 (by decide)
  refine ok_joinT (fun t h10 => h10 = h8 ∧ t = nI hi) ?_ (fun j hj => ?_)
  · rintro t h10 ⟨rfl, rfl⟩
    refine ok_cb (c_takeNumber (lo := 0) (hi := hi) L8.1 L8.2.1 (by decide) (by cases bx <;> simp at hhi <;> omega)) ?_
    rintro r11 h12 m12
    cases hq : num n X 0 hi (nx n X p) with
    | inl e =>
      rw [hq] at m12
      obtain ⟨rfl, f12, l12⟩ := m12
      rw [if_pos (show bI false = (0 : Int32) from rfl)]
      exact ok_some ⟨eqx_trans F8 (FrD_C f12), rfl, l12, (hB.ms L8.2.2.1 D8.2.2.1).C f12.2⟩
    | inr a =>
      rw [hq] at m12
      obtain ⟨rfl, e12, o12, v12, t12⟩ := m12
      have hon := num_on hq
      have L12 := L8.num e12 o12 t12
      have D12 := D8.to e12 (by decide) (by decide) (by decide) (by decide)
      have F12 : FrD h h12 := eqx_trans F8 (eqx_mono e12 (by decide))
      have m612 : h12.1 8 6 = nI (mkW s.2.2.1) := by rw [(e12 8 (by decide)).1, (e8 8 (by decide)).1]; exact m6
      have m812 : h12.1 13 8 = nI 0 := by rw [o12 8 (by decide), (e8 13 (by decide)).1]; exact m8
      rw [if_neg (show ¬ bI true = (0 : Int32) by decide), v12]
      show ok _ (fun r h' => FrD h h' ∧ match bnd (stopG n X a.1) (fun e => (.inr (e, upS bx a.2 s) : (Nat × Nat) ⊕ (Nat × LnS))) with
        | .inl e => r = bI false ∧ CFt e h' ∧ MS h'
        | .inr q => r = bI true ∧ LC n X np nd q.1 q.2 (ln + 1) h' ∧ LW q.2 q.1 ∧ p + 3 ≤ q.1)
      refine ok_join (fun h13 => FrD h h13 ∧ LX n X np nd a.1 ((upS bx a.2 s).2.2.2.map (eN np nd)) h13 ∧ DR (upS bx a.2 s) ln h13 ∧ h13.1 8 6 = nI (mkW (upS bx a.2 s).2.2.1) ∧ h13.1 13 8 = nI 0 ∧ LW (upS bx a.2 s) a.1 ∧ BS np nd (upS bx a.2 s).2.1) ?_ (fun j hj => ?_)
      · rintro h13 ⟨F13, L13, D13, m613, m813, w13, B13⟩
        generalize upS bx a.2 s = s' at *
        refine ok_cb (c_endLine L13.1 L13.2.1 D13.1) ?_
        rintro r14 h15 ⟨rfl, F15, y1, y2⟩
        rw [zr_b]
        unfold stopG
        by_cases q3 : tc n X a.1 = 3
        · obtain ⟨e15, z0, zo, t15⟩ := y1 q3
          have hnx2 := tc_nx (X := X) (b := a.1) (n := n) (by omega)
          have g13 := (e15 13 (by decide)).1
          rw [if_pos q3, decide_eq_true q3]
          refine ok_some ⟨eqx_trans F13 F15, rfl, ⟨⟨TX_to e15 (by decide) (by decide) L13.1, t15, ⟨by rw [zo 1 (by decide)]; exact L13.2.2.1.1, by rw [zo 2 (by decide)]; exact L13.2.2.1.2.1, by rw [zo 8 (by decide)]; exact L13.2.2.1.2.2⟩, CC_to e15 (by decide) (zo 9 (by decide)) L13.2.2.2.1, NF_of (by rw [g13]) (by rw [g13]) L13.2.2.2.2⟩, ⟨z0, by rw [zo 3 (by decide)]; exact D13.2.1, by rw [zo 4 (by decide)]; exact D13.2.2.1, by rw [zo 5 (by decide)]; exact D13.2.2.2.1, fun i hi => by rw [(e15 9 (by decide)).1, (e15 10 (by decide)).1]; exact D13.2.2.2.2.1 i hi, fun i hi h0 => by rw [(e15 11 (by decide)).1]; exact D13.2.2.2.2.2 i hi h0⟩, by rw [zo 6 (by decide)]; exact m613, by rw [g13]; exact m813⟩, ⟨by have := w13.1; show s'.2.2.2.length ≤ nx n X a.1; omega, w13.2.1, w13.2.2⟩, by show p + 3 ≤ nx n X a.1; omega⟩
        · rw [if_neg q3, decide_eq_false q3]
          obtain ⟨l15, o15⟩ := y2 q3
          exact ok_some ⟨eqx_trans F13 F15, rfl, l15, B13.ms ⟨by rw [o15 1 (by decide) (by decide)]; exact L13.2.2.1.1, by rw [o15 2 (by decide) (by decide)]; exact L13.2.2.1.2.1, by rw [o15 8 (by decide) (by decide)]; exact L13.2.2.1.2.2⟩ (by rw [o15 4 (by decide) (by decide)]; exact D13.2.2.1)⟩
      · cases bx with
        | false =>
          have BX1 : BS np nd (upS false a.2 s).2.1 := ⟨hB.1, hB.2.1, hB.2.2.1, by
            obtain ⟨z1, z2, z3, z4⟩ := num_r hq
            have z5 : a.2 ≤ hi := by rw [z1]; exact z4
            rw [hhi] at z5
            exact z5⟩
          rw [if_pos (show bI false = (0 : Int32) from rfl)]
          refine ok_lt ?_
          have e16 : eqx [8] h12 (pI h12 8 4 (nI a.2)) := eqx_pI (by simp)
          exact hj _ ⟨eqx_trans F12 (eqx_mono e16 (by decide)), L12.p8 (by omega), ⟨by rw [pw_pIo (by omega)]; exact D12.1, by rw [pw_pIo (by omega)]; exact D12.2.1, pw_pIs, by rw [pw_pIo (by omega)]; exact D12.2.2.2.1, fun i hi => by rw [(e16 9 (by decide)).1, (e16 10 (by decide)).1]; exact D12.2.2.2.2.1 i hi, fun i hi h0 => by rw [(e16 11 (by decide)).1]; exact D12.2.2.2.2.2 i hi h0⟩, by rw [pw_pIo (by omega)]; exact m612, by rw [pw_pIo (by omega)]; exact m812, ⟨by show s.2.2.2.length ≤ a.1; omega, w2, w3⟩, BX1⟩
        | true =>
          have BX1 : BS np nd (upS true a.2 s).2.1 := hB
          rw [if_neg (show ¬ bI true = (0 : Int32) by decide)]
          refine ok_lt ?_
          have e16 : eqx [8] h12 (pI h12 8 3 (nI a.2)) := eqx_pI (by simp)
          exact hj _ ⟨eqx_trans F12 (eqx_mono e16 (by decide)), L12.p8 (by omega), ⟨by rw [pw_pIo (by omega)]; exact D12.1, pw_pIs, by rw [pw_pIo (by omega)]; exact D12.2.2.1, by rw [pw_pIo (by omega)]; exact D12.2.2.2.1, fun i hi => by rw [(e16 9 (by decide)).1, (e16 10 (by decide)).1]; exact D12.2.2.2.2.1 i hi, fun i hi h0 => by rw [(e16 11 (by decide)).1]; exact D12.2.2.2.2.2 i hi h0⟩, by rw [pw_pIo (by omega)]; exact m612, by rw [pw_pIo (by omega)]; exact m812, ⟨by show s.2.2.2.length ≤ a.1; omega, w2, w3⟩, BX1⟩
  · cases bx with
    | false =>
      rw [if_pos (show bI false = (0 : Int32) from rfl)]
      exact hj _ _ ⟨rfl, by rw [hhi]; rfl⟩
    | true =>
      rw [if_neg (show ¬ bI true = (0 : Int32) by decide)]
      exact hj _ _ ⟨rfl, by rw [hhi]; rfl⟩
set_option maxRecDepth 16384 in
theorem c_rlOther {n : Nat} {X : Nat → Nat} {np nd p ln : Nat} {s : LnS} {h : PH} (c : LC n X np nd p s ln h) (w : LW s p) (ht : tc n X p ≠ 4) (hB : BS np nd s.2.1) : ok (f_X6_readLine 13 h) (fun r h' => FrD h h' ∧ match lineG n X np nd p s with
  | .inl e => r = bI false ∧ CFt e h' ∧ MS h'
  | .inr q => r = bI true ∧ LC n X np nd q.1 q.2 (ln + 1) h' ∧ LW q.2 q.1 ∧ p + 3 ≤ q.1) := by
  have L := c.1
  unfold f_X6_readLine lineG
  simp only [r_13_0, r_13_1]
  rw [if_neg ht, L.at (w := 4) (by decide) (by decide), decide_eq_false ht]
  simp only [pw_cb]
  rw [if_pos (show bI false = (0 : Int32) from rfl), L.at (w := 9) (by decide) (by decide)]
  simp only [pw_cb]
  refine ok_lt ?_
  by_cases q9 : tc n X p = 9
  · rw [if_pos q9, decide_eq_true q9]
    refine ok_join (fun h6 => h6 = h) ?_ (fun j hj => ?_)
    · rintro h6 rfl
      exact c_rlTail (bx := true) (hi := 6) c w (by omega) rfl hB
    · rw [if_neg (show ¬ bI true = (0 : Int32) by decide)]
      exact hj _ rfl
  · rw [if_neg q9, decide_eq_false q9]
    by_cases q10 : tc n X p = 10
    · rw [if_pos q10]
      refine ok_join (fun h6 => h6 = h) ?_ (fun j hj => ?_)
      · rintro h6 rfl
        exact c_rlTail (bx := false) (hi := 3) c w (by omega) rfl hB
      · rw [if_pos (show bI false = (0 : Int32) from rfl), L.at (w := 10) (by decide) (by decide), decide_eq_true q10]
        simp only [pw_cb]
        rw [if_neg (show ¬ bI true = (0 : Int32) by decide)]
        exact hj _ rfl
    · rw [if_neg q10]
      refine ok_join (fun _ => False) (fun _ q => q.elim) (fun j hj => ?_)
      rw [if_pos (show bI false = (0 : Int32) from rfl), L.at (w := 10) (by decide) (by decide), decide_eq_false q10]
      simp only [pw_cb]
      rw [if_pos (show bI false = (0 : Int32) from rfl)]
      refine ok_cb (c_refuse (k := 2) L.2.1) ?_
      rintro r h1 ⟨rfl, f1, l1⟩
      rw [zr_b]
      exact ok_some ⟨FrD_C f1, rfl, l1, (hB.ms L.2.2.1 c.2.1.2.2.1).C f1.2⟩
set_option maxRecDepth 16384 in
theorem c_bodyL {k t : Nat} {h h1 : PH} {r : Int32} {j111 j65 : Int32 → PH → Option (Int32 × PH)} {rec : Int32 × Int32 → PH → Option (Int32 × PH)} (h8 : h.1 13 8 = nI 0) (h4 : h.1 15 4 = nI t) (ht : t ≠ 0) (ht2 : t ≤ 4) (hk : k < 900) (ho : f_X6_readLine 13 h = some (r, h1)) : b_X6_parse_37 13 j111 j65 rec (bI true, nI k) h = rec (r, nI (k + 1)) h1 := by
  have hk9 : ¬ ((900 : Int32) ≤ nI k) := by
    rw [pw_lit, pw_leI (by omega) (by omega)]
    omega
  have ht9 : ¬ (nI t = 0) := nI_ne0 (by omega) (by omega)
  unfold b_X6_parse_37
  dsimp only
  rw [if_neg hk9, if_neg (show ¬ bI true = (0 : Int32) by decide)]
  simp only [pw_lt, r_13_0]
  rw [if_pos (show h.1 13 8 = 0 from h8), h4, if_neg ht9, ho]
  simp only [pw_cb, pw_oi, nI_add]
set_option maxRecDepth 16384 in
theorem c_bodyE {k : Nat} {h : PH} {j111 j65 : Int32 → PH → Option (Int32 × PH)} {rec : Int32 × Int32 → PH → Option (Int32 × PH)} (h8 : h.1 13 8 = nI 0) (h4 : h.1 15 4 = nI 0) (hk : k < 900) : b_X6_parse_37 13 j111 j65 rec (bI true, nI k) h = j65 (bI true) h := by
  have hk9 : ¬ ((900 : Int32) ≤ nI k) := by
    rw [pw_lit, pw_leI (by omega) (by omega)]
    omega
  unfold b_X6_parse_37
  dsimp only
  rw [if_neg hk9, if_neg (show ¬ bI true = (0 : Int32) by decide)]
  simp only [pw_lt, r_13_0]
  rw [if_pos (show h.1 13 8 = 0 from h8), if_pos (show h.1 15 4 = 0 from h4)]
set_option maxRecDepth 16384 in
theorem c_wish10 {n : Nat} {X : Nat → Nat} {np nd p i : Nat} {C : List Nat} {h : PH} (L : LX n X np nd p C h) (d5 : h.1 8 5 = nI i) (hi : 10 ≤ i) (hi2 : i ≤ 10) : ok (f_X6_readWish 13 h) (fun r h' => r = bI false ∧ FrC h h' ∧ CFt (flt n X 4 p) h') := by
  have hc : ¬ (nI i < (10 : Int32)) := by
    rw [pw_lit, pw_ltI (by omega) (by omega)]
    omega
  unfold f_X6_readWish
  simp only [r_13_1]
  refine ok_lt ?_
  rw [d5, if_neg hc]
  refine ok_cb (c_refuse (k := 4) L.2.1) ?_
  rintro r h1 ⟨rfl, f1, l1⟩
  rw [zr_b]
  exact ok_some ⟨rfl, f1, l1⟩
set_option maxRecDepth 16384 in
theorem head_on {n : Nat} {X : Nat → Nat} {p : Nat} {q : Nat × Nat × Nat × Nat} (ht : tc n X p ≠ 0) (h : headG n X p = .inr q) : p + 4 ≤ q.1 ∧ q.1 ≤ n ∧ q.2.1 ≤ 5 ∧ 1 ≤ q.2.2.1 ∧ q.2.2.1 ≤ 9 ∧ q.2.2.2 ≤ 1 := by
  unfold headG at h
  have h0 := tc_nx ht
  by_cases c5 : tc n X (nx n X p) = 5
  · rw [if_pos c5] at h
    have h1 := tc_nx (X := X) (b := nx n X p) (n := n) (by omega)
    cases hq : num n X 0 5 (nx n X (nx n X p)) with
    | inl e =>
      rw [hq] at h
      have h : (Sum.inl e : (Nat × Nat) ⊕ (Nat × Nat × Nat × Nat)) = .inr q := h
      cases h
    | inr a =>
      rw [hq] at h
      have h : bnd (wtG n X a.1) (fun b => bnd (clnG n X (muP n X b.1)) (fun q => .inr (q, a.2, b.2, muV n X b.1))) = .inr q := h
      have ha := num_on hq
      obtain ⟨ha1, ha2, ha3, ha4⟩ := num_r hq
      have ha5 : a.2 ≤ 5 := by rw [ha1]; exact ha4
      cases hw : wtG n X a.1 with
      | inl e =>
        rw [hw] at h
        have h : (Sum.inl e : (Nat × Nat) ⊕ (Nat × Nat × Nat × Nat)) = .inr q := h
        cases h
      | inr b =>
        rw [hw] at h
        have h : bnd (clnG n X (muP n X b.1)) (fun q => .inr (q, a.2, b.2, muV n X b.1)) = .inr q := h
        have hb : a.1 ≤ b.1 ∧ 1 ≤ b.2 ∧ b.2 ≤ 9 := by
          unfold wtG at hw
          by_cases c6 : tc n X a.1 = 6
          · rw [if_pos c6] at hw
            have h2 := tc_nx (X := X) (b := a.1) (n := n) (by omega)
            have h3 := num_on hw
            obtain ⟨hb1, hb2, hb3, hb4⟩ := num_r hw
            refine ⟨by omega, ?_, ?_⟩
            · rw [hb1]; exact hb3
            · rw [hb1]; exact hb4
          · rw [if_neg c6] at hw
            cases hw
            exact ⟨Nat.le_refl _, Nat.le_refl _, by show 1 ≤ 9; decide⟩
        have hm : b.1 ≤ muP n X b.1 ∧ muV n X b.1 ≤ 1 := by
          unfold muP muV
          by_cases c7 : tc n X b.1 = 7
          · have h2 := tc_nx (X := X) (b := b.1) (n := n) (by omega)
            rw [if_pos c7, if_pos c7]
            omega
          · rw [if_neg c7, if_neg c7]
            omega
        unfold clnG at h
        by_cases c8 : tc n X (muP n X b.1) = 8
        · have h2 := tc_nx (X := X) (b := muP n X b.1) (n := n) (by omega)
          rw [if_pos c8] at h
          have h : (Sum.inr (nx n X (muP n X b.1), a.2, b.2, muV n X b.1) : (Nat × Nat) ⊕ (Nat × Nat × Nat × Nat)) = .inr q := h
          cases h
          exact ⟨by show p + 4 ≤ nx n X (muP n X b.1); omega, h2.2, ha5, hb.2.1, hb.2.2, hm.2⟩
        · rw [if_neg c8] at h
          have h : (Sum.inl (flt n X 2 (muP n X b.1)) : (Nat × Nat) ⊕ (Nat × Nat × Nat × Nat)) = .inr q := h
          cases h
  · rw [if_neg c5] at h
    cases h

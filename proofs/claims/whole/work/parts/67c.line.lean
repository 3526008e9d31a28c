/-! ===== a wish's end, a line's end ===== -/
set_option maxRecDepth 16384 in
theorem c_endWish {n : Nat} {X : Nat → Nat} {np nd st p i : Nat} {W C : List Nat} {cm : Nat} {h : PH} (c : CF n X np nd st p W C cm h) (hb : C.length + W.length ≤ p) (hW : ∀ v, v ∈ W → 1 ≤ tgh v) (h5 : h.1 8 5 = nI i) (hi : i < 10) : ok (f_X6_endWish 13 h) (fun _ h' => eqx [8, 11, 12, 13] h h' ∧ (∀ j, j ≠ 5 → j ≠ 9 → h'.1 8 j = h.1 8 j) ∧ h'.1 8 5 = nI (i + 1) ∧ CC (C ++ W.map (fun v => v * 4096)) h' ∧ h'.1 11 (i + 1) = nI (C.length + W.length) ∧ (∀ k, k ≠ i + 1 → h'.1 11 k = h.1 11 k) ∧ h'.1 13 8 = nI 0 ∧ NF h') := by
  obtain ⟨a1, a2, a3, a4, a5, a6, a7, a8, a9, a11, a12, a13, a14⟩ := c
  have hn := a1.1
  have hpn := a2.2.2.2.2
  have hst := stl_app (t := 1) W [] C hW trivial
  rw [List.append_nil] at hst
  unfold f_X6_endWish
  refine ok_cb (c_settleD (t := 1) (by omega) (by omega) a3 a4 (by omega)) ?_
  rintro r h1 ⟨e1, f1, g1, w1, k1, hl, q0, q1⟩
  rw [hst] at k1
  have k1 : CC (C ++ W.map (fun v => v * 4096)) h1 := k1
  have hlen : (C ++ W.map (fun v => v * 4096)).length = C.length + W.length := by rw [List.length_append, List.length_map]
  have y5 : h1.1 8 5 = nI i := by rw [f1 5 (by decide)]; exact h5
  have y9 : h1.1 8 9 = nI (C.length + W.length) := by rw [k1.1, hlen]
  have N1 : NF h1 := NF_of (g1 10 (by decide) (by decide)) (g1 11 (by decide) (by decide)) a14
  simp only [r_13_1, r_8_14]
  refine ok_lt ?_
  have hv : h1.1 8 5 + (1 : Int32) = nI (i + 1) := by
    rw [y5]
    exact nI_add i 1
  rw [hv]
  have z5 : (pI h1 8 5 (nI (i + 1))).1 8 5 = nI (i + 1) := pw_pIs
  have z9 : (pI h1 8 5 (nI (i + 1))).1 8 9 = nI (C.length + W.length) := by rw [pw_pIo (by omega)]; exact y9
  rw [z5, z9]
  rw [pw_stI (by omega) (by omega)]
  refine ok_lt ?_
  refine ok_some ⟨eqx_trans (eqx_mono e1 (by decide)) (eqx_trans (eqx_pI (by simp)) (eqx_trans (eqx_pI (by simp)) (eqx_pI (by simp)))), fun j p5 p9 => ?_, ?_, ⟨?_, fun k hk => ?_⟩, ?_, fun k hk => ?_, pw_pIs, NF_of ?_ ?_ N1⟩
  · rw [pw_pIo (by omega), pw_pIo (by omega), pw_pIo (by omega)]
    exact f1 j p9
  · rw [pw_pIo (by omega), pw_pIo (by omega)]
    exact z5
  · rw [pw_pIo (by omega), pw_pIo (by omega), z9, hlen]
  · rw [pw_pIo (by omega), pw_pIo (by omega), pw_pIo (by omega)]
    exact k1.2 k hk
  · rw [pw_pIo (by omega), pw_pIs]
  · rw [pw_pIo (by omega), pw_pIo (by omega), pw_pIo (by omega), (e1 11 (by decide)).1]
  · rw [pw_pIo (by omega), pw_pIo (by omega), pw_pIo (by omega)]
  · rw [pw_pIo (by omega), pw_pIo (by omega), pw_pIo (by omega)]
set_option maxRecDepth 16384 in
theorem c_endLine {n : Nat} {X : Nat → Nat} {p ln : Nat} {h : PH} (T : TX n X h) (K : TC n X p h) (h0 : h.1 8 0 = nI ln) : ok (f_X6_endLine 13 h) (fun r h' => r = bI (decide (tc n X p = 3)) ∧ FrD h h' ∧ (tc n X p = 3 → eqx [8, 15] h h' ∧ h'.1 8 0 = nI (ln + 1) ∧ (∀ j, j ≠ 0 → h'.1 8 j = h.1 8 j) ∧ TC n X (nx n X p) h') ∧ (tc n X p ≠ 3 → CFt (flt n X 2 p) h' ∧ ∀ j, j ≠ 0 → j ≠ 9 → h'.1 8 j = h.1 8 j)) := by
  unfold f_X6_endLine
  simp only [r_13_1]
  refine ok_lt ?_
  have hv : h.1 8 0 + (1 : Int32) = nI (ln + 1) := by
    rw [h0]
    exact nI_add ln 1
  rw [hv]
  have e1 : eqx [8] h (pI h 8 0 (nI (ln + 1))) := eqx_pI (by simp)
  have z0 : (pI h 8 0 (nI (ln + 1))).1 8 0 = nI (ln + 1) := pw_pIs
  have zo : ∀ j, j ≠ 0 → (pI h 8 0 (nI (ln + 1))).1 8 j = h.1 8 j := fun j hj => pw_pIo (by omega)
  generalize pI h 8 0 (nI (ln + 1)) = h1 at *
  refine ok_cb (c_take (w := 3) (TX_to e1 (by decide) (by decide) T) (TC_to e1 (by decide) K) (by decide) (by decide)) ?_
  rintro r h2 ⟨rfl, y1, y2⟩
  rw [zr_b]
  by_cases q : tc n X p = 3
  · obtain ⟨e2, t2⟩ := y1 q
    have e8 := (e2 8 (by decide)).1
    exact ok_some ⟨rfl, eqx_trans (eqx_mono e1 (by decide)) (eqx_mono e2 (by decide)), fun _ => ⟨eqx_trans (eqx_mono e1 (by decide)) (eqx_mono e2 (by decide)), by rw [e8]; exact z0, fun j hj => by rw [e8]; exact zo j hj, t2⟩, fun z => absurd q z⟩
  · obtain ⟨f2, l2⟩ := y2 q
    exact ok_some ⟨rfl, eqx_trans (eqx_mono e1 (by decide)) (FrD_C f2), fun z => absurd z q, fun _ => ⟨l2, fun j h0 h9 => by rw [f2.2 j h9]; exact zo j h0⟩⟩
set_option maxRecDepth 16384 in
theorem c_opEnd {n : Nat} {X : Nat → Nat} {np nd st p : Nat} {W C : List Nat} {cm : Nat} {h : PH} (c : CF n X np nd st p W C cm h) (g : GU n X st cm p) (hB : opB n X p = 0) (hO : opO n X p = 0) (z0 : c0 W = 0) (z1 : c1 W = 0) : f_X6_readOperator 13 h = cb (f_X6_endWish 13 h) (fun (_ : Unit) (h7 : PH) => cb (f_X6_endLine 13 h7) (fun (r8 : Int32) (h9 : PH) => zr r8 h9)) := by
  have h25 := c.at (w := 25) (by decide) (by decide)
  have h26 := c.at (w := 26) (by decide) (by decide)
  rw [decide_eq_false (opB_0.mp hB)] at h25
  rw [decide_eq_false (opO_0.mp hO)] at h26
  have k5 : h.1 13 5 = nI (c0 W) := c.2.2.2.2.2.2.1
  have k6 : h.1 13 6 = nI (c1 W) := c.2.2.2.2.2.2.2.1
  rw [z0] at k5
  rw [z1] at k6
  have h8 : h.1 13 8 = nI st := c.2.2.2.2.2.1
  have le0 : nI 0 ≤ (0 : Int32) := by decide
  unfold f_X6_readOperator
  simp only [r_13_0, pw_lt]
  rcases g with ⟨g1, g2, g3⟩ | g1
  · obtain ⟨r, hr, -, r2⟩ := c_arith c
    have r2 := r2 (fun z => by
      obtain ⟨a1, a2, a3⟩ := g3
      omega)
    have k7 : h.1 13 7 = nI cm := c.2.2.2.2.2.2.2.2.1.resolve_left (by omega)
    rw [if_pos (show h.1 13 8 = (3 : Int32) by rw [h8, g1]; rfl), hr, r2]
    simp only [pw_cb]
    rw [if_pos (show mI < (0 : Int32) by decide +kernel), k5, if_pos le0, if_neg (show ¬ h.1 13 7 = 0 by rw [k7, g2]; decide), h25]
    simp only [pw_cb]
    rw [if_pos (show bI false = (0 : Int32) from rfl), h26]
    simp only [pw_cb]
    rw [if_pos (show bI false = (0 : Int32) from rfl), k6, if_pos le0]
  · rw [if_neg (show ¬ h.1 13 8 = (3 : Int32) by rw [h8, g1]; decide), h25]
    simp only [pw_cb]
    rw [if_pos (show bI false = (0 : Int32) from rfl), h26]
    simp only [pw_cb]
    rw [if_pos (show bI false = (0 : Int32) from rfl), k6, if_pos le0]
/- where the class stands between the lines -/
def LC (n : Nat) (X : Nat → Nat) (np nd p : Nat) (s : LnS) (ln : Nat) (h : PH) : Prop := LX n X np nd p (s.2.2.2.map (eN np nd)) h ∧ DR s ln h ∧ h.1 8 6 = nI (mkW s.2.2.1) ∧ h.1 13 8 = nI 0
def LW (s : LnS) (p : Nat) : Prop := s.2.2.2.length ≤ p ∧ s.2.2.1.length ≤ 10 ∧ s.2.2.2.length = frm s.2.2.1 s.2.2.1.length
set_option maxRecDepth 16384 in
theorem LX.at {n : Nat} {X : Nat → Nat} {np nd p w : Nat} {C : List Nat} {h : PH} (l : LX n X np nd p C h) (h1 : 2 ≤ w) (h2 : w ≤ 27) : f_X9_at 15 w h = some (bI (decide (tc n X p = w)), h) := c_atw l.1 l.2.1 h1 h2
set_option maxRecDepth 16384 in
theorem c_rlWish {n : Nat} {X : Nat → Nat} {np nd p : Nat} {C : List Nat} {h : PH} (l : LX n X np nd p C h) (ht : tc n X p = 4) : f_X6_readLine 13 h = cb (f_X6_readWish 13 h) (fun (r22 : Int32) (h23 : PH) => zr r22 h23) := by
  unfold f_X6_readLine
  simp only [r_13_0]
  rw [l.at (w := 4) (by decide) (by decide), decide_eq_true ht]
  simp only [pw_cb]
  rw [if_neg (show ¬ bI true = (0 : Int32) by decide)]

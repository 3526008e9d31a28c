set_option maxRecDepth 16384 in
theorem CF.sta {n : Nat} {X : Nat → Nat} {np nd st p : Nat} {W C : List Nat} {cm st' : Nat} {h : PH} (c : CF n X np nd st p W C cm h) (h7 : h.1 13 7 = nI cm) (h1 : 1 ≤ st') (h4 : st' ≤ 4) : CF n X np nd st' p W C cm (pI h 13 8 (nI st')) := by
  obtain ⟨a1, a2, a3, a4, a5, a6, a7, a8, a9, a11, a12, a13, a14⟩ := c
  have e : eqx [13] h (pI h 13 8 (nI st')) := eqx_pI (by simp)
  exact ⟨TX_to e (by decide) (by decide) a1, TC_to e (by decide) a2, WS_to e (by decide) (pw_pIo (by omega)) (pw_pIo (by omega)) a3, CC_to e (by decide) (pw_pIo (by omega)) a4, SB_to (fun j _ => pw_pIo (by omega)) a5, pw_pIs, by rw [pw_pIo (by omega)]; exact a7, by rw [pw_pIo (by omega)]; exact a8, Or.inr (by rw [pw_pIo (by omega)]; exact h7), a11, h1, h4, NF_of (pw_pIo (by omega)) (pw_pIo (by omega)) a14⟩
set_option maxRecDepth 16384 in
theorem CF.cmp {n : Nat} {X : Nat → Nat} {np nd st p : Nat} {W C : List Nat} {cm cm' : Nat} {h : PH} (c : CF n X np nd st p W C cm h) (h1 : cm' ≤ 1) : CF n X np nd st p W C cm' (pI h 13 7 (nI cm')) := by
  obtain ⟨a1, a2, a3, a4, a5, a6, a7, a8, a9, a11, a12, a13, a14⟩ := c
  have e : eqx [13] h (pI h 13 7 (nI cm')) := eqx_pI (by simp)
  exact ⟨TX_to e (by decide) (by decide) a1, TC_to e (by decide) a2, WS_to e (by decide) (pw_pIo (by omega)) (pw_pIo (by omega)) a3, CC_to e (by decide) (pw_pIo (by omega)) a4, SB_to (fun j _ => pw_pIo (by omega)) a5, by rw [pw_pIo (by omega)]; exact a6, by rw [pw_pIo (by omega)]; exact a7, by rw [pw_pIo (by omega)]; exact a8, Or.inr pw_pIs, h1, a12, a13, NF_of (pw_pIo (by omega)) (pw_pIo (by omega)) a14⟩
set_option maxRecDepth 16384 in
theorem CF.num {n : Nat} {X : Nat → Nat} {np nd st p : Nat} {W C : List Nat} {cm p' : Nat} {h h' : PH} (c : CF n X np nd st p W C cm h) (e : eqx [13, 15] h h') (o : ∀ j, j ≠ 9 → h'.1 13 j = h.1 13 j) (t : TC n X p' h') : CF n X np nd st p' W C cm h' := by
  obtain ⟨a1, a2, a3, a4, a5, a6, a7, a8, a9, a11, a12, a13, a14⟩ := c
  have e8 := (e 8 (by decide)).1
  exact ⟨TX_to e (by decide) (by decide) a1, t, WS_to e (by decide) (o 3 (by decide)) (o 4 (by decide)) a3, CC_to e (by decide) (by rw [e8]) a4, SB_to (fun j _ => by rw [e8]) a5, by rw [o 8 (by decide)]; exact a6, by rw [o 5 (by decide)]; exact a7, by rw [o 6 (by decide)]; exact a8, by rw [o 7 (by decide)]; exact a9, a11, a12, a13, NF_of (o 10 (by decide)) (o 11 (by decide)) a14⟩
set_option maxRecDepth 16384 in
theorem CF.emit {n : Nat} {X : Nat → Nat} {np nd st p : Nat} {W C C' : List Nat} {cm : Nat} {h h' : PH} (c : CF n X np nd st p W C cm h) (e : eqx [8, 12] h h') (f : f8 h h') (k : CC C' h') : CF n X np nd st p W C' cm h' := by
  obtain ⟨a1, a2, a3, a4, a5, a6, a7, a8, a9, a11, a12, a13, a14⟩ := c
  have e13 := (e 13 (by decide)).1
  exact ⟨TX_to e (by decide) (by decide) a1, TC_to e (by decide) a2, WS_to e (by decide) (by rw [e13]) (by rw [e13]) a3, k, SB_to f a5, by rw [e13]; exact a6, by rw [e13]; exact a7, by rw [e13]; exact a8, by rw [e13]; exact a9, a11, a12, a13, NF_of (by rw [e13]) (by rw [e13]) a14⟩
/- what a step leaves -/
def PA (n : Nat) (X : Nat → Nat) (np nd : Nat) (r : (Nat × Nat) ⊕ Cfg) (h : PH) (x : Int32) (h' : PH) : Prop := FrC h h' ∧ match r with
  | .inl e => x = bI false ∧ CFt e h'
  | .inr c => x = bI true ∧ CF n X np nd c.1 c.2.1 c.2.2.1 c.2.2.2.1 c.2.2.2.2 h' ∧ c.2.2.2.1.length + c.2.2.1.length ≤ c.2.1
set_option maxRecDepth 16384 in
theorem PA_zr {n : Nat} {X : Nat → Nat} {np nd : Nat} {r : (Nat × Nat) ⊕ Cfg} {h h' : PH} {x : Int32} (p : PA n X np nd r h x h') : ok (zr x h') (PA n X np nd r h) := by
  cases r with
  | inl e =>
    obtain ⟨p1, p2, p3⟩ := p
    subst p2
    rw [zr_b]
    exact ok_some ⟨p1, rfl, p3⟩
  | inr c =>
    obtain ⟨p1, p2, p3⟩ := p
    subst p2
    rw [zr_b]
    exact ok_some ⟨p1, rfl, p3⟩
set_option maxRecDepth 16384 in
theorem PA_tr {n : Nat} {X : Nat → Nat} {np nd : Nat} {r : (Nat × Nat) ⊕ Cfg} {h h1 h' : PH} {x : Int32} (f : FrC h h1) (p : PA n X np nd r h1 x h') : PA n X np nd r h x h' := ⟨FrC_trans f p.1, p.2⟩
set_option maxRecDepth 16384 in
theorem c_await {n : Nat} {X : Nat → Nat} {code next p : Nat} {W : List Nat} {h : PH} (T : TX n X h) (K : TC n X p h) (hw : code ≤ 10) (v3 : h.1 13 3 = nI W.length) (s : stW W h) (hl : W.length < 900) : ok (f_X6_await 13 (nI code) (nI next) h) (fun r h' => r = bI true ∧ eqx [13, 14, 15] h h' ∧ TC n X (nx n X p) h' ∧ h'.1 13 3 = nI (W.length + 1) ∧ stW (code :: W) h' ∧ h'.1 13 8 = nI next ∧ ∀ j, j ≠ 3 → j ≠ 8 → h'.1 13 j = h.1 13 j) := by
  unfold f_X6_await
  refine ok_join (fun h1 => eqx [13, 14] h h1 ∧ h1.1 13 3 = nI (W.length + 1) ∧ stW (code :: W) h1 ∧ ∀ j, j ≠ 3 → j ≠ 8 → h1.1 13 j = h.1 13 j) ?_ (fun j hj => ?_)
  · rintro h1 ⟨e1, y3, s1, o1⟩
    refine ok_lt ?_
    have e2 : eqx [13, 14] h (pI h1 13 8 (nI next)) := eqx_trans e1 (eqx_pI (by simp))
    have z3 : (pI h1 13 8 (nI next)).1 13 3 = nI (W.length + 1) := by rw [pw_pIo (by omega)]; exact y3
    have z8 : (pI h1 13 8 (nI next)).1 13 8 = nI next := pw_pIs
    have s2 : stW (code :: W) (pI h1 13 8 (nI next)) := stW_to (eqx_pI (S := [13]) (by simp)) (by decide) s1
    have o2 : ∀ j, j ≠ 3 → j ≠ 8 → (pI h1 13 8 (nI next)).1 13 j = h.1 13 j := fun j a b => by rw [pw_pIo (by omega)]; exact o1 j a b
    generalize pI h1 13 8 (nI next) = h2 at *
    refine ok_cb (c_adv (TX_to e2 (by decide) (by decide) T) (TC_to e2 (by decide) K)) ?_
    rintro r h3 ⟨e3, t3⟩
    have e13 := (e3 13 (by decide)).1
    exact ok_some ⟨rfl, eqx_trans (eqx_mono e2 (by decide)) (eqx_mono e3 (by decide)), t3, by rw [e13]; exact z3, stW_to e3 (by decide) s2, by rw [e13]; exact z8, fun j a b => by rw [e13]; exact o2 j a b⟩
  · have hc : ¬ ((900 : Int32) ≤ nI W.length) := by
      rw [pw_lit, pw_leI (by omega) (by omega)]
      omega
    rw [v3, if_neg hc]
    simp (disch := omega) only [r_13_2, pw_stI]
    refine ok_lt ?_
    have y : (pI h 14 W.length (nI code)).1 13 3 + (1 : Int32) = nI (W.length + 1) := by
      rw [pw_pIo (by omega), v3]
      exact nI_add _ 1
    rw [y]
    refine hj _ ⟨eqx_trans (eqx_pI (by simp)) (eqx_pI (by simp)), pw_pIs, ⟨hw, by rw [pw_pIo (by omega), pw_pIs], stW_to (eqx_pI (S := [13]) (by simp)) (by decide) (stW_pI (Nat.le_refl _) s)⟩, fun j a b => ?_⟩
    rw [pw_pIo (by omega), pw_pIo (by omega)]
set_option maxRecDepth 16384 in
theorem FrC_a {h h' : PH} (e : eqx [13, 14, 15] h h') : FrC h h' := ⟨eqx_mono e (by decide), fun _ _ => by rw [(e 8 (by decide)).1]⟩
set_option maxRecDepth 16384 in
theorem c_open {n : Nat} {X : Nat → Nat} {np nd st p code next : Nat} {W C : List Nat} {cm : Nat} {h : PH} (c : CF n X np nd st p W C cm h) (h7 : h.1 13 7 = nI cm) (hb : C.length + W.length ≤ p) (ht : tc n X p ≠ 0) (hcode : code = 0 ∨ code = 1 ∨ code = 4) (hn1 : 1 ≤ next) (hn4 : next ≤ 4) : ok (f_X6_open 13 (nI code) (nI next) h) (PA n X np nd (opnA n X code next p W C cm) h) := by
  obtain ⟨a1, a2, a3, a4, a5, a6, a7, a8, a9, a11, a12, a13, a14⟩ := c
  have hn := a1.1
  have hnx := tc_nx ht
  have h1l := cO_le W
  have h2l := c0_le W
  have h3l := c1_le W
  have hpn := a2.2.2.2.2
  have hlt : (nI (cO W) < (6 : Int32)) = (cO W < 6) := pw_ltI (a := cO W) (b := 6) (by omega) (by omega)
  unfold f_X6_open opnA
  simp only [a3.2.2, hlt]
  by_cases q : cO W < 6
  · rw [if_pos q, if_pos q]
    refine ok_lt ?_
    have hv : nI (cO W) + (1 : Int32) = nI (cO (code :: W)) := by
      rw [cO_c, if_pos hcode]
      exact nI_add _ 1
    rw [hv]
    have y4 : (pI h 13 4 (nI (cO (code :: W)))).1 13 4 = nI (cO (code :: W)) := pw_pIs
    have o4 : ∀ j, j ≠ 4 → (pI h 13 4 (nI (cO (code :: W)))).1 13 j = h.1 13 j := fun j hj => pw_pIo (by omega)
    have e1 : eqx [13] h (pI h 13 4 (nI (cO (code :: W)))) := eqx_pI (by simp)
    generalize pI h 13 4 (nI (cO (code :: W))) = h1 at *
    refine ok_join (fun h2 => eqx [13] h h2 ∧ h2.1 13 4 = nI (cO (code :: W)) ∧ h2.1 13 5 = nI (c0 (code :: W)) ∧ h2.1 13 6 = nI (c1 (code :: W)) ∧ h2.1 13 3 = h.1 13 3 ∧ h2.1 13 7 = h.1 13 7 ∧ NF h2) ?_ (fun j hj => ?_)
    · rintro h2 ⟨e2, z4, z5, z6, z3, z7, zN⟩
      have hwl : W.length < 900 := by omega
      refine ok_cb (c_await (W := W) (TX_to e2 (by decide) (by decide) a1) (TC_to e2 (by decide) a2) (by omega) (by rw [z3]; exact a3.1) (stW_to e2 (by decide) a3.2.1) hwl) ?_
      rintro r h3 ⟨rfl, e3, t3, w3, s3, w8, o3⟩
      have e8 := (e3 8 (by decide)).1
      have e8' := (e2 8 (by decide)).1
      have S2 : SB np nd h2 := SB_to (fun j _ => by rw [e8']) a5
      rw [zr_b]
      refine ok_some ⟨FrC_trans ⟨eqx_mono e2 (by decide), fun _ _ => by rw [e8']⟩ (FrC_a e3), rfl, ⟨TX_to e3 (by decide) (by decide) (TX_to e2 (by decide) (by decide) a1), t3, ⟨by rw [w3, List.length_cons], s3, by rw [o3 4 (by decide) (by decide)]; exact z4⟩, CC_to e3 (by decide) (by rw [e8]) (CC_to e2 (by decide) (by rw [e8']) a4), SB_to (fun j _ => by rw [e8]) S2, w8, by rw [o3 5 (by decide) (by decide)]; exact z5, by rw [o3 6 (by decide) (by decide)]; exact z6, Or.inr (by rw [o3 7 (by decide) (by decide), z7]; exact h7), a11, hn1, hn4, NF_of (o3 10 (by decide) (by decide)) (o3 11 (by decide) (by decide)) zN⟩, ?_⟩
      show C.length + (code :: W).length ≤ nx n X p
      rw [List.length_cons]
      omega
    · rcases hcode with rfl | rfl | rfl
      · rw [if_pos (show nI 0 = 0 from rfl)]
        refine ok_lt ?_
        refine hj _ ⟨eqx_trans e1 (eqx_pI (by simp)), by rw [pw_pIo (by omega)]; exact y4, ?_, ?_, by rw [pw_pIo (by omega)]; exact o4 3 (by decide), by rw [pw_pIo (by omega)]; exact o4 7 (by decide), NF_of (by rw [pw_pIo (by omega)]; exact o4 10 (by decide)) (by rw [pw_pIo (by omega)]; exact o4 11 (by decide)) a14⟩
        · rw [pw_pIs, o4 5 (by decide), a7, c0_c]
          exact nI_add _ 1
        · rw [pw_pIo (by omega), o4 6 (by decide), a8, c1_c]
          rfl
      · rw [if_neg (show ¬ nI 1 = 0 by decide), if_pos (show nI 1 = (1 : Int32) from rfl)]
        refine ok_lt ?_
        refine hj _ ⟨eqx_trans e1 (eqx_pI (by simp)), by rw [pw_pIo (by omega)]; exact y4, ?_, ?_, by rw [pw_pIo (by omega)]; exact o4 3 (by decide), by rw [pw_pIo (by omega)]; exact o4 7 (by decide), NF_of (by rw [pw_pIo (by omega)]; exact o4 10 (by decide)) (by rw [pw_pIo (by omega)]; exact o4 11 (by decide)) a14⟩
        · rw [pw_pIo (by omega), o4 5 (by decide), a7, c0_c]
          rfl
        · rw [pw_pIs, o4 6 (by decide), a8, c1_c]
          exact nI_add _ 1
      · rw [if_neg (show ¬ nI 4 = 0 by decide), if_neg (show ¬ nI 4 = (1 : Int32) by decide)]
        refine hj _ ⟨e1, y4, ?_, ?_, o4 3 (by decide), o4 7 (by decide), NF_of (o4 10 (by decide)) (o4 11 (by decide)) a14⟩
        · rw [o4 5 (by decide), a7, c0_c]
          rfl
        · rw [o4 6 (by decide), a8, c1_c]
          rfl
  · rw [if_neg q, if_neg q]
    refine ok_cb (c_refuse (k := 4) a2) ?_
    rintro r h1 ⟨rfl, f1, l1⟩
    rw [zr_b]
    exact ok_some ⟨f1, rfl, l1⟩
set_option maxRecDepth 16384 in
theorem c_join {n : Nat} {X : Nat → Nat} {np nd st p code next : Nat} {W C : List Nat} {cm : Nat} {h : PH} (c : CF n X np nd st p W C cm h) (h7 : h.1 13 7 = nI cm) (hb : C.length + W.length ≤ p) (ht : tc n X p ≠ 0) (hc1 : 2 ≤ code) (hc2 : code ≤ 10) (hc4 : code ≠ 4) (hn1 : 1 ≤ next) (hn4 : next ≤ 4) : ok (f_X6_join 13 (nI code) (nI next) h) (PA n X np nd (joinA n X code next p W C cm) h) := by
  obtain ⟨a1, a2, a3, a4, a5, a6, a7, a8, a9, a11, a12, a13, a14⟩ := c
  have hn := a1.1
  have hnx := tc_nx ht
  have hpn := a2.2.2.2.2
  have htg := (by decide : ∀ w, w < 11 → 2 ≤ w → 1 ≤ tgh w ∧ tgh w ≤ 6) code (by omega) hc1
  unfold f_X6_join joinA
  rw [pw_ldT hc2]
  refine ok_cb (c_settleD htg.1 htg.2 a3 a4 (by omega)) ?_
  rintro r h1 ⟨e1, f1, g1, w1, k1, hl, q0, q1⟩
  generalize (stl (tgh code) W C).1 = W' at *
  generalize (stl (tgh code) W C).2 = C' at *
  refine ok_cb (c_await (code := code) (next := next) (W := W') (TX_to e1 (by decide) (by decide) a1) (TC_to e1 (by decide) a2) hc2 w1.1 w1.2.1 (by omega)) ?_
  rintro r h3 ⟨rfl, e3, t3, w3, s3, w8, o3⟩
  have e8 := (e3 8 (by decide)).1
  rw [zr_b]
  refine ok_some ⟨FrC_trans ⟨eqx_mono e1 (by decide), f1⟩ (FrC_a e3), rfl, ⟨TX_to e3 (by decide) (by decide) (TX_to e1 (by decide) (by decide) a1), t3, ⟨by rw [w3, List.length_cons], s3, ?_⟩, CC_to e3 (by decide) (by rw [e8]) k1, SB_to (fun j _ => by rw [e8]) (SB_to f1 a5), w8, ?_, ?_, Or.inr (by rw [o3 7 (by decide) (by decide), g1 7 (by decide) (by decide)]; exact h7), a11, hn1, hn4, NF_of (by rw [o3 10 (by decide) (by decide), g1 10 (by decide) (by decide)]) (by rw [o3 11 (by decide) (by decide), g1 11 (by decide) (by decide)]) a14⟩, ?_⟩
  · rw [o3 4 (by decide) (by decide), cO_c, if_neg (by omega)]
    exact w1.2.2
  · show h3.1 13 5 = nI (c0 (code :: W'))
    rw [o3 5 (by decide) (by decide), g1 5 (by decide) (by decide), a7, c0_c, if_neg (by omega), q0]
    rfl
  · show h3.1 13 6 = nI (c1 (code :: W'))
    rw [o3 6 (by decide) (by decide), g1 6 (by decide) (by decide), a8, c1_c, if_neg (by omega), q1]
    rfl
  · show C'.length + (code :: W').length ≤ nx n X p
    rw [List.length_cons]
    omega
set_option maxRecDepth 16384 in
theorem c_close {n : Nat} {X : Nat → Nat} {np nd st p code next : Nat} {W C : List Nat} {cm : Nat} {h : PH} {c' : Cfg} (c : CF n X np nd st p W C cm h) (h7 : h.1 13 7 = nI cm) (hb : C.length + W.length ≤ p) (ht : tc n X p ≠ 0) (hcode : code = 0 ∧ next = 3 ∨ code = 1 ∧ next = 4) (hq : closeA n X code next p W C cm = .inr c') : ok (f_X6_close 13 (nI code) h) (PA n X np nd (.inr c') h) := by
  obtain ⟨a1, a2, a3, a4, a5, a6, a7, a8, a9, a11, a12, a13, a14⟩ := c
  have hn := a1.1
  have hnx := tc_nx ht
  have hpn := a2.2.2.2.2
  unfold closeA at hq
  unfold f_X6_close
  refine ok_cb (c_settleD (t := 1) (by omega) (by omega) a3 a4 (by omega)) ?_
  rintro r h1 ⟨e1, f1, g1, w1, k1, hl, q0, q1⟩
  generalize (stl 1 W C).1 = W1 at *
  generalize (stl 1 W C).2 = C' at *
  cases W1 with
  | nil => cases hq
  | cons w W' =>
    have hq : (if w = code then (.inr (next, nx n X p, W', C', cm) : (Nat × Nat) ⊕ Cfg) else .inl (0, 0)) = .inr c' := hq
    by_cases hwc : w = code
    · rw [if_pos hwc] at hq
      cases hq
      subst hwc
      obtain ⟨b1, ⟨b2, b3, b4⟩, b5⟩ := w1
      rw [List.length_cons] at b1 hl
      rw [cO_c, if_pos (by omega)] at b5
      rw [c0_c] at q0
      rw [c1_c] at q1
      have hnp : ¬ (nI (W'.length + 1) ≤ (0 : Int32)) := by
        rw [pw_lit, pw_leI (by omega) (by omega)]
        omega
      have hsub : nI (W'.length + 1) - (1 : Int32) = nI W'.length := by
        rw [pw_lit, pw_sub (by omega), Nat.add_sub_cancel]
      have T1 := TX_to e1 (by decide) (by decide) a1
      have K1 := TC_to e1 (by decide) a2
      have S1 := SB_to f1 a5
      have y5 : h1.1 13 5 = nI (c0 W' + (if w = 0 then 1 else 0)) := by rw [g1 5 (by decide) (by decide), a7, q0]
      have y6 : h1.1 13 6 = nI (c1 W' + (if w = 1 then 1 else 0)) := by rw [g1 6 (by decide) (by decide), a8, q1]
      have y7 : h1.1 13 7 = nI cm := by rw [g1 7 (by decide) (by decide)]; exact h7
      have F1 : FrC h h1 := ⟨eqx_mono e1 (by decide), f1⟩
      have N1 : NF h1 := NF_of (g1 10 (by decide) (by decide)) (g1 11 (by decide) (by decide)) a14
      refine ok_join (fun h2 => eqx [13] h1 h2 ∧ h2.1 13 3 = nI W'.length ∧ ∀ j, j ≠ 3 → h2.1 13 j = h1.1 13 j) ?_ (fun j hj => ?_)
      · rintro h2 ⟨e2, z3, o2⟩
        refine ok_lt ?_
        have v4 : h2.1 13 4 - (1 : Int32) = nI (cO W') := by rw [o2 4 (by decide), b5, pw_lit, pw_sub (by omega), Nat.add_sub_cancel]
        rw [v4]
        have e3 : eqx [13] h1 (pI h2 13 4 (nI (cO W'))) := eqx_trans e2 (eqx_pI (by simp))
        have x3 : (pI h2 13 4 (nI (cO W'))).1 13 3 = nI W'.length := by rw [pw_pIo (by omega)]; exact z3
        have x4 : (pI h2 13 4 (nI (cO W'))).1 13 4 = nI (cO W') := pw_pIs
        have o3 : ∀ j, j ≠ 3 → j ≠ 4 → (pI h2 13 4 (nI (cO W'))).1 13 j = h1.1 13 j := fun j p3 p4 => by rw [pw_pIo (by omega)]; exact o2 j p3
        generalize pI h2 13 4 (nI (cO W')) = h3 at *
        refine ok_join (fun h4 => eqx [13] h1 h4 ∧ h4.1 13 3 = nI W'.length ∧ h4.1 13 4 = nI (cO W') ∧ h4.1 13 5 = nI (c0 W') ∧ h4.1 13 6 = nI (c1 W') ∧ h4.1 13 7 = nI cm ∧ h4.1 13 8 = nI next ∧ NF h4) ?_ (fun j hj => ?_)
        · rintro h4 ⟨e4, u3, u4, u5, u6, u7, u8, uN⟩
          refine ok_cb (c_adv (TX_to e4 (by decide) (by decide) T1) (TC_to e4 (by decide) K1)) ?_
          rintro r5 h5 ⟨e5, t5⟩
          have d13 := (e5 13 (by decide)).1
          have d8 := (e5 8 (by decide)).1
          have d8' := (e4 8 (by decide)).1
          have S4 : SB np nd h4 := SB_to (fun j _ => by rw [d8']) S1
          refine ok_some ⟨FrC_trans F1 (FrC_trans ⟨eqx_mono e4 (by decide), fun _ _ => by rw [d8']⟩ (FrC_15 e5)), rfl, ⟨TX_to e5 (by decide) (by decide) (TX_to e4 (by decide) (by decide) T1), t5, ⟨by rw [d13]; exact u3, stW_to e5 (by decide) (stW_to e4 (by decide) b4), by rw [d13]; exact u4⟩, CC_to e5 (by decide) (by rw [d8]) (CC_to e4 (by decide) (by rw [d8']) k1), SB_to (fun j _ => by rw [d8]) S4, by rw [d13]; exact u8, by rw [d13]; exact u5, by rw [d13]; exact u6, Or.inr (by rw [d13]; exact u7), a11, by show 1 ≤ next; omega, by show next ≤ 4; omega, NF_of (by rw [d13]) (by rw [d13]) uN⟩, ?_⟩
          show C'.length + W'.length ≤ nx n X p
          omega
        · rcases hcode with ⟨rfl, rfl⟩ | ⟨rfl, rfl⟩
          · rw [if_pos (show nI 0 = 0 from rfl)]
            refine ok_lt (ok_lt ?_)
            refine hj _ ⟨eqx_trans e3 (eqx_trans (eqx_pI (by simp)) (eqx_pI (by simp))), by rw [pw_pIo (by omega), pw_pIo (by omega)]; exact x3, by rw [pw_pIo (by omega), pw_pIo (by omega)]; exact x4, ?_, ?_, ?_, pw_pIs, NF_of (by rw [pw_pIo (by omega), pw_pIo (by omega)]; exact o3 10 (by decide) (by decide)) (by rw [pw_pIo (by omega), pw_pIo (by omega)]; exact o3 11 (by decide) (by decide)) N1⟩
            · rw [pw_pIo (by omega), pw_pIs, o3 5 (by decide) (by decide), y5, if_pos rfl, pw_lit, pw_sub (by omega), Nat.add_sub_cancel]
            · rw [pw_pIo (by omega), pw_pIo (by omega), o3 6 (by decide) (by decide), y6]
              rfl
            · rw [pw_pIo (by omega), pw_pIo (by omega), o3 7 (by decide) (by decide)]
              exact y7
          · rw [if_neg (show ¬ nI 1 = 0 by decide)]
            refine ok_lt (ok_lt ?_)
            refine hj _ ⟨eqx_trans e3 (eqx_trans (eqx_pI (by simp)) (eqx_pI (by simp))), by rw [pw_pIo (by omega), pw_pIo (by omega)]; exact x3, by rw [pw_pIo (by omega), pw_pIo (by omega)]; exact x4, ?_, ?_, ?_, pw_pIs, NF_of (by rw [pw_pIo (by omega), pw_pIo (by omega)]; exact o3 10 (by decide) (by decide)) (by rw [pw_pIo (by omega), pw_pIo (by omega)]; exact o3 11 (by decide) (by decide)) N1⟩
            · rw [pw_pIo (by omega), pw_pIo (by omega), o3 5 (by decide) (by decide), y5]
              rfl
            · rw [pw_pIo (by omega), pw_pIs, o3 6 (by decide) (by decide), y6, if_pos rfl, pw_lit, pw_sub (by omega), Nat.add_sub_cancel]
            · rw [pw_pIo (by omega), pw_pIo (by omega), o3 7 (by decide) (by decide)]
              exact y7
      · rw [b1, if_neg hnp, hsub]
        refine ok_lt ?_
        exact hj _ ⟨eqx_pI (by simp), pw_pIs, fun j hj => pw_pIo (by omega)⟩
    · rw [if_neg hwc] at hq
      cases hq

/-! ===== the reference's sky ===== -/
def SG (n : Nat) (r : (Nat × Nat) ⊕ (Nat × Nat × Nat × LnS)) : Prop := match r with
  | .inl e => 1 ≤ e.1 ∧ e.1 ≤ 4
  | .inr q => 1 ≤ q.1 ∧ q.1 ≤ 4 ∧ 1 ≤ q.2.1 ∧ q.2.1 ≤ 6 ∧ q.1 * q.2.1 ≤ 12 ∧ q.2.2.1 ≤ n ∧ OKS q.1 q.2.1 q.2.2.2 ∧ q.2.2.2.2.2.2.length ≤ n
set_option maxRecDepth 16384 in
theorem skyG_gd {n : Nat} {X : Nat → Nat} (hv : VL n X) : SG n (skyG n X) := by
  have hy := skyH_gd n X
  unfold skyG
  cases hq : skyH n X with
  | inl e =>
    rw [hq] at hy
    exact hy
  | inr q =>
    rw [hq] at hy
    obtain ⟨y1, y2, y3, y4, y5, y6, y7⟩ := hy
    have gd := lines_gd (X := X) hv y3 y5 901 q.1 1 s0 (OKS_0 q.2.1 q.2.2) (Nat.zero_le _) y2 (by omega)
    show SG n (bnd (linesG n X q.2.1 q.2.2 901 q.1 1 s0) (fun r => .inr (q.2.1, q.2.2, r.1, r.2)))
    cases hl : linesG n X q.2.1 q.2.2 901 q.1 1 s0 with
    | inl e =>
      rw [hl] at gd
      exact gd
    | inr r =>
      rw [hl] at gd
      exact ⟨y3, y4, y5, y6, y7, gd.1, gd.2.1, gd.2.2⟩
/- the fresh row while the first line is read -/
def Z4 (np nd : Nat) (h : PH) : Prop := h.1 154 1 = nI np ∧ h.1 154 2 = nI nd ∧ h.1 154 3 = nI 3 ∧ ∀ j, j < 1200 → j ≠ 1 → j ≠ 2 → j ≠ 3 → h.1 154 j = nI 0
def HR (n : Nat) (X : Nat → Nat) (np nd p : Nat) (h : PH) : Prop := TX n X h ∧ TR n X p h ∧ h.1 152 13 = nI 0 ∧ h.1 152 17 = nI 0 ∧ Z4 np nd h
set_option maxRecDepth 16384 in
theorem HR.on {n : Nat} {X : Nat → Nat} {np nd p p' : Nat} {h h' : PH} (r : HR n X np nd p h) (f : fT h h') (R : TR n X p' h') : HR n X np nd p' h' := by
  obtain ⟨r1, r2, r3, r4, r5⟩ := r
  have e154 := (f.1 154 (by decide)).1
  exact ⟨TX_to f.1 (by decide) (by decide) r1, R, by rw [f.2 13 (by decide) (by decide) (by decide) (by decide)]; exact r3, by rw [f.2 17 (by decide) (by decide) (by decide) (by decide)]; exact r4, by unfold Z4; rw [e154]; exact r5⟩
set_option maxRecDepth 16384 in
theorem HR.p1 {n : Nat} {X : Nat → Nat} {np nd p v : Nat} {h : PH} (r : HR n X np nd p h) : HR n X v nd p (pI h 154 1 (nI v)) := by
  obtain ⟨r1, r2, r3, r4, z1, z2, z3, z4⟩ := r
  have e : eqx [154] h (pI h 154 1 (nI v)) := eqx_pI (by simp)
  have e152 := (e 152 (by decide)).1
  exact ⟨TX_to e (by decide) (by decide) r1, by unfold TR; rw [e152]; exact r2, by rw [e152]; exact r3, by rw [e152]; exact r4, pw_pIs, by rw [pw_pIo (by omega)]; exact z2, by rw [pw_pIo (by omega)]; exact z3, fun j h0 h1 h2 h3 => by rw [pw_pIo (by omega)]; exact z4 j h0 h1 h2 h3⟩
set_option maxRecDepth 16384 in
theorem HR.p2 {n : Nat} {X : Nat → Nat} {np nd p v : Nat} {h : PH} (r : HR n X np nd p h) : HR n X np v p (pI h 154 2 (nI v)) := by
  obtain ⟨r1, r2, r3, r4, z1, z2, z3, z4⟩ := r
  have e : eqx [154] h (pI h 154 2 (nI v)) := eqx_pI (by simp)
  have e152 := (e 152 (by decide)).1
  exact ⟨TX_to e (by decide) (by decide) r1, by unfold TR; rw [e152]; exact r2, by rw [e152]; exact r3, by rw [e152]; exact r4, by rw [pw_pIo (by omega)]; exact z1, pw_pIs, by rw [pw_pIo (by omega)]; exact z3, fun j h0 h1 h2 h3 => by rw [pw_pIo (by omega)]; exact z4 j h0 h1 h2 h3⟩
set_option maxRecDepth 16384 in
theorem HR.rl {n : Nat} {X : Nat → Nat} {np nd p : Nat} {h : PH} (r : HR n X np nd p h) : RLn n X np nd p s0 0 h := by
  obtain ⟨r1, r2, r3, r4, z1, z2, z3, z4⟩ := r
  exact ⟨⟨r1, r2, r3, r4, z1, z2, z4 65 (by decide) (by decide) (by decide) (by decide), fun k hk => absurd hk (Nat.not_lt_zero k), Nat.zero_le _⟩, z4 0 (by decide) (by decide) (by decide) (by decide), z3, z4 4 (by decide) (by decide) (by decide) (by decide), z4 5 (by decide) (by decide) (by decide) (by decide), z4 6 (by decide) (by decide) (by decide) (by decide), z4 7 (by decide) (by decide) (by decide) (by decide), fun i hi => absurd hi (Nat.not_lt_zero i), fun i hi => by
    have hi : i ≤ 0 := hi
    rw [show i = 0 by omega]
    exact z4 54 (by decide) (by decide) (by decide) (by decide), fun j h1 h2 => z4 j (by omega) (by omega) (by omega) (by omega)⟩
/- the row is emptied -/
set_option maxRecDepth 16384 in
theorem e_empty {α : Type} {Q : α → PH → Prop} {j72 : PH → Option (α × PH)} {body : (Int32 → PH → Option (α × PH)) → Int32 → PH → Option (α × PH)} {h : PH} (hbody : ∀ rec s hh, body rec s hh = if (1200 : Int32) ≤ s then (j72 hh) else (stI hh 154 1200 s (0 : Int32) (fun (h42 : PH) => lt (s + Int32.ofInt 1) (fun (x43 : Int32) => rec x43 h42)))) (hj : ∀ h', eqx [154] h h' → (∀ j, j < 1200 → h'.1 154 j = nI 0) → ok (j72 h') Q) : ok (lp body FU (0 : Int32) h) Q := by
  refine lp_ok (fun m s h1 => ∃ i, i + m = 1200 ∧ s = nI i ∧ eqx [154] h h1 ∧ ∀ j, j < i → h1.1 154 j = nI 0) ?_ FU 1200 _ h ⟨0, by omega, rfl, eqx_rfl _ _, fun j hj => absurd hj (by omega)⟩ (fu_lt (by omega))
  rintro m rec s h1 ⟨i, hi, rfl, e, y⟩ hrec
  rw [hbody]
  by_cases c : 1200 ≤ i
  · rw [if_pos (show (1200 : Int32) ≤ nI i by rw [pw_lit, pw_leI (by omega) (by omega)]; exact c)]
    exact hj h1 e (fun j hj2 => y j (by omega))
  · rw [if_neg (show ¬ (1200 : Int32) ≤ nI i by rw [pw_lit, pw_leI (by omega) (by omega)]; exact c), pw_stI (by omega) (by omega)]
    refine ok_lt ?_
    rw [pw_oi, nI_add]
    refine hrec (m - 1) _ _ (by omega) ⟨i + 1, by omega, rfl, eqx_trans e (eqx_pI (by simp)), fun j hj2 => ?_⟩
    by_cases ej : j = i
    · rw [ej, pw_pIs]
      rfl
    · rw [pw_pIo (by omega)]
      exact y j (by omega)
/- what is fresh becomes known -/
set_option maxRecDepth 16384 in
theorem e_copy {α : Type} {Q : α → PH → Prop} {j231 : PH → Option (α × PH)} {body : (Int32 → PH → Option (α × PH)) → Int32 → PH → Option (α × PH)} {h : PH} (hbody : ∀ rec s hh, body rec s hh = if (1200 : Int32) ≤ s then (j231 hh) else (ldI hh 154 1200 s (fun (x36 : Int32) => stI hh 153 1200 s x36 (fun (h37 : PH) => lt (s + Int32.ofInt 1) (fun (x38 : Int32) => rec x38 h37))))) (hj : ∀ h', eqx [153] h h' → (∀ j, j < 1200 → h'.1 153 j = h.1 154 j) → ok (j231 h') Q) : ok (lp body FU (0 : Int32) h) Q := by
  refine lp_ok (fun m s h1 => ∃ i, i + m = 1200 ∧ s = nI i ∧ eqx [153] h h1 ∧ ∀ j, j < i → h1.1 153 j = h.1 154 j) ?_ FU 1200 _ h ⟨0, by omega, rfl, eqx_rfl _ _, fun j hj => absurd hj (by omega)⟩ (fu_lt (by omega))
  rintro m rec s h1 ⟨i, hi, rfl, e, y⟩ hrec
  rw [hbody]
  by_cases c : 1200 ≤ i
  · rw [if_pos (show (1200 : Int32) ≤ nI i by rw [pw_lit, pw_leI (by omega) (by omega)]; exact c)]
    exact hj h1 e (fun j hj2 => y j (by omega))
  · rw [if_neg (show ¬ (1200 : Int32) ≤ nI i by rw [pw_lit, pw_leI (by omega) (by omega)]; exact c), pw_ldI (by omega) (by omega), pw_stI (by omega) (by omega)]
    refine ok_lt ?_
    rw [pw_oi, nI_add]
    refine hrec (m - 1) _ _ (by omega) ⟨i + 1, by omega, rfl, eqx_trans e (eqx_pI (by simp)), fun j hj2 => ?_⟩
    by_cases ej : j = i
    · rw [ej, pw_pIs, (e 154 (by decide)).1]
    · rw [pw_pIo (by omega)]
      exact y j (by omega)

/-! ===== the law: one call after another ===== -/
set_option maxRecDepth 16384 in
theorem ldXk {γ : Type} {xs : Nat → Int32} {L i k : Nat} {g : Int32 → Option γ} (h : i + k < L) (hL : L ≤ 3072) : ldX xs L (nI i + nI k) g = g (xs (i + k)) := by
  unfold ldX
  rw [nI_add, pw_toInt (by omega), pw_clamp (by omega), if_pos ⟨by omega, by omega⟩]
set_option maxRecDepth 16384 in
theorem ldX0 {γ : Type} {xs : Nat → Int32} {L i : Nat} {g : Int32 → Option γ} (h : i < L) (hL : L ≤ 3072) : ldX xs L (nI i) g = g (xs i) := by
  unfold ldX
  rw [pw_toInt (by omega), pw_clamp (by omega), if_pos ⟨by omega, by omega⟩]
set_option maxRecDepth 16384 in
theorem e_thr {h : PH} : f_X12_thrown 152 h = some (h.1 152 5, h) := id rfl
set_option maxRecDepth 16384 in
theorem cbc_l {β : Type} {r : β} {h1 : PH} {g : β → PH → Option (Int32 × PH)} {hs : List (Nat × Int32)} : cbc (some (.inl r, h1)) g hs = g r h1 := id rfl
set_option maxRecDepth 16384 in
theorem cbc_r {β : Type} {k : Nat} {q : Nat × Int32} {h1 : PH} {g : β → PH → Option (Int32 × PH)} {hs : List (Nat × Int32)} (e : hs.find? (fun q => q.1 == k) = some q) : cbc (β := β) (some (.inr k, h1)) g hs = some (q.2, h1) := by
  show hvl hs k h1 = _
  unfold hvl
  rw [e]
set_option maxRecDepth 16384 in
theorem lg0 (x : Int64) : lg_cmp x x = (0 : Int32) := (lg_cmp_eq x x).mpr rfl
set_option maxRecDepth 16384 in
theorem pL_177 {h : PH} {v : Int64} : eqx [177] h (pL h NC 0 v) := eqx_pL (by decide)
set_option maxRecDepth 16384 in
theorem pL_out {h : PH} {v : Int64} : (pL h NC 0 v).2 177 0 = v := pw_pLs
/- a call with an answer, or a throw that is caught -/
set_option maxRecDepth 16384 in
theorem brT {hs : List (Nat × Int32)} {F : PH → Option ((Int32 ⊕ Nat) × PH)} {G : PH → Option (Int32 × PH)} {h : PH} {j : PH → Option (Int32 × PH)} {Q : Int32 → PH → Prop} (P : PC hs F G h) (hj : ∀ h', INV h' → ok (j h') Q) : ok (cb (cbc (F h) (fun (r1 : Int32) (h2 : PH) => lt (pL h2 NC 0 r1.toInt64) (fun (h3 : PH) => some ((0 : Int32), h3))) hs) (fun (r19 : Int32) (h20 : PH) => lt r19 (fun (x21 : Int32) => cb (G h20) (fun (r23 : Int32) (h24 : PH) => lt r23 (fun (x25 : Int32) => cb (f_X12_thrown 152 h24) (fun (r26 : Int32) (h27 : PH) => if r26 = x21 then (lt (fun (h28 : PH) => j h28) (fun (j350 : PH → Option (Int32 × PH)) => if x21 = 0 then (if (lg_cmp (h27.2 NC 0) x25.toInt64) = 0 then (j350 h27) else (some ((0 : Int32), h27))) else (j350 h27))) else (some ((0 : Int32), h27))))))) ) Q := by
  obtain ⟨x, h1, hF, hG⟩ := P
  rw [hF]
  cases x with
  | inl r =>
    obtain ⟨b, h3, e3, o3, ⟨a1, a2⟩, I3⟩ := hG _ (pL_177 (v := r.toInt64))
    have o3 : h3.2 NC 0 = r.toInt64 := o3.trans pL_out
    simp only [cbc_l, pw_lt, pw_cb, e3, e_thr]
    rw [a1, a2, if_pos (show nI 0 = (0 : Int32) from rfl), if_pos trivial, o3, if_pos (lg0 _)]
    exact hj h3 I3
  | inr k =>
    obtain ⟨b, h3, e3, o3, ⟨q, a1, a2, a3⟩, I3⟩ := hG h1 (eqx_rfl _ _)
    simp only [cbc_r a1, pw_lt, pw_cb, e3, e_thr]
    rw [a3, if_pos rfl, if_neg (show ¬ q.2 = (0 : Int32) from a2)]
    exact hj h3 I3
set_option maxRecDepth 16384 in
theorem br_b {hs : List (Nat × Int32)} {F : PH → Option ((Int32 ⊕ Nat) × PH)} {G : PH → Option (Int32 × PH)} {h : PH} {j : PH → Option (Int32 × PH)} {Q : Int32 → PH → Prop} (P : PC hs F G h) (hj : ∀ h', INV h' → ok (j h') Q) : ok (cb (cbc (F h) (fun (r1 : Int32) (h2 : PH) => lt (fun (t3 : Int64) (h4 : PH) => lt (pL h4 NC 0 t3) (fun (h5 : PH) => some ((0 : Int32), h5))) (fun (j16 : Int64 → PH → Option (Int32 × PH)) => if r1 = 0 then (j16 (0 : Int64) h2) else (j16 (1 : Int64) h2))) hs) (fun (r61 : Int32) (h62 : PH) => lt r61 (fun (x63 : Int32) => cb (G h62) (fun (r66 : Int32) (h67 : PH) => lt r66 (fun (x68 : Int32) => cb (f_X12_thrown 152 h67) (fun (r69 : Int32) (h70 : PH) => if r69 = x63 then (lt (fun (h71 : PH) => j h71) (fun (j574 : PH → Option (Int32 × PH)) => if x63 = 0 then (lt (fun (t72 : Int64) (h73 : PH) => if (lg_cmp (h70.2 NC 0) t72) = 0 then (j574 h73) else (some ((0 : Int32), h73))) (fun (j568 : Int64 → PH → Option (Int32 × PH)) => if x68 = 0 then (j568 (0 : Int64) h70) else (j568 (1 : Int64) h70))) else (j574 h70))) else (some ((0 : Int32), h70)))))))) Q := by
  obtain ⟨x, h1, hF, hG⟩ := P
  rw [hF]
  cases x with
  | inl r =>
    by_cases c : r = 0
    · obtain ⟨b, h3, e3, o3, ⟨a1, a2⟩, I3⟩ := hG _ (pL_177 (v := (0 : Int64)))
      have o3 : h3.2 NC 0 = (0 : Int64) := o3.trans pL_out
      simp only [cbc_l, pw_lt, if_pos c, pw_cb, e3, e_thr]
      rw [a1, a2, if_pos (show nI 0 = (0 : Int32) from rfl), if_pos trivial, if_pos c, o3, if_pos (lg0 _)]
      exact hj h3 I3
    · obtain ⟨b, h3, e3, o3, ⟨a1, a2⟩, I3⟩ := hG _ (pL_177 (v := (1 : Int64)))
      have o3 : h3.2 NC 0 = (1 : Int64) := o3.trans pL_out
      simp only [cbc_l, pw_lt, if_neg c, pw_cb, e3, e_thr]
      rw [a1, a2, if_pos (show nI 0 = (0 : Int32) from rfl), if_pos trivial, if_neg c, o3, if_pos (lg0 _)]
      exact hj h3 I3
  | inr k =>
    obtain ⟨b, h3, e3, o3, ⟨q, a1, a2, a3⟩, I3⟩ := hG h1 (eqx_rfl _ _)
    simp only [cbc_r a1, pw_lt, pw_cb, e3, e_thr]
    rw [a3, if_pos rfl, if_neg (show ¬ q.2 = (0 : Int32) from a2)]
    exact hj h3 I3
set_option maxRecDepth 16384 in
theorem br_l {hs : List (Nat × Int32)} {F : PH → Option ((Int64 ⊕ Nat) × PH)} {G : PH → Option (Int64 × PH)} {h : PH} {j : PH → Option (Int32 × PH)} {Q : Int32 → PH → Prop} (P : PC hs F G h) (hj : ∀ h', INV h' → ok (j h') Q) : ok (cb (cbc (F h) (fun (r1 : Int64) (h2 : PH) => lt (pL h2 NC 0 r1) (fun (h3 : PH) => some ((0 : Int32), h3))) hs) (fun (r19 : Int32) (h20 : PH) => lt r19 (fun (x21 : Int32) => cb (G h20) (fun (r23 : Int64) (h24 : PH) => lt r23 (fun (x25 : Int64) => cb (f_X12_thrown 152 h24) (fun (r26 : Int32) (h27 : PH) => if r26 = x21 then (lt (fun (h28 : PH) => j h28) (fun (j350 : PH → Option (Int32 × PH)) => if x21 = 0 then (if (lg_cmp (h27.2 NC 0) x25) = 0 then (j350 h27) else (some ((0 : Int32), h27))) else (j350 h27))) else (some ((0 : Int32), h27))))))) ) Q := by
  obtain ⟨x, h1, hF, hG⟩ := P
  rw [hF]
  cases x with
  | inl r =>
    obtain ⟨b, h3, e3, o3, ⟨a1, a2⟩, I3⟩ := hG _ (pL_177 (v := r))
    have o3 : h3.2 NC 0 = r := o3.trans pL_out
    simp only [cbc_l, pw_lt, pw_cb, e3, e_thr]
    rw [a1, a2, if_pos (show nI 0 = (0 : Int32) from rfl), if_pos trivial, o3, if_pos (lg0 _)]
    exact hj h3 I3
  | inr k =>
    obtain ⟨b, h3, e3, o3, ⟨q, a1, a2, a3⟩, I3⟩ := hG h1 (eqx_rfl _ _)
    simp only [cbc_r a1, pw_lt, pw_cb, e3, e_thr]
    rw [a3, if_pos rfl, if_neg (show ¬ q.2 = (0 : Int32) from a2)]
    exact hj h3 I3
set_option maxRecDepth 16384 in
theorem br_u {hs : List (Nat × Int32)} {F : PH → Option ((Unit ⊕ Nat) × PH)} {G : PH → Option (Unit × PH)} {h : PH} {j : PH → Option (Int32 × PH)} {Q : Int32 → PH → Prop} (P : PC hs F G h) (hj : ∀ h', INV h' → ok (j h') Q) : ok (cb (cbc (F h) (fun (r1 : Unit) (h2 : PH) => some ((0 : Int32), h2)) hs) (fun (r410 : Int32) (h411 : PH) => lt r410 (fun (x412 : Int32) => cb (G h411) (fun (r416 : Unit) (h417 : PH) => cb (f_X12_thrown 152 h417) (fun (r418 : Int32) (h419 : PH) => if r418 = x412 then (j h419) else (some ((0 : Int32), h419))))))) Q := by
  obtain ⟨x, h1, hF, hG⟩ := P
  rw [hF]
  obtain ⟨b, h3, e3, o3, ag, I3⟩ := hG h1 (eqx_rfl _ _)
  cases x with
  | inl r =>
    simp only [cbc_l, pw_lt, pw_cb, e3, e_thr]
    rw [ag.1, if_pos (show nI 0 = (0 : Int32) from rfl)]
    exact hj h3 I3
  | inr k =>
    obtain ⟨q, a1, a2, a3⟩ := ag
    simp only [cbc_r a1, pw_lt, pw_cb, e3, e_thr]
    rw [a3, if_pos rfl]
    exact hj h3 I3
set_option maxRecDepth 16384 in
theorem br_n {F G : PH → Option (Int32 × PH)} {h : PH} {j : PH → Option (Int32 × PH)} {Q : Int32 → PH → Prop} (P : PN F G h) (hj : ∀ h', INV h' → ok (j h') Q) : ok (cb (F h) (fun (r30 : Int32) (h31 : PH) => cb (G h31) (fun (r33 : Int32) (h34 : PH) => if r30 = r33 then (j h34) else (some ((0 : Int32), h34))))) Q := by
  obtain ⟨x, h1, hF, b, h3, hG, rfl, I3⟩ := P
  simp only [hF, hG, pw_cb]
  rw [if_pos trivial]
  exact hj h3 I3
set_option maxRecDepth 16384 in
theorem brk_0 {xs : Nat → Int32} {L i : Nat} {h : PH} {j : PH → Option (Int32 × PH)} {Q : Int32 → PH → Prop} (hL : L ≤ 3072) (hi : i + 5 < L) (I : INV h) (hj : ∀ h', INV h' → ok (j h') Q) : ok (br_0 xs L (nI i) h j) Q := by
  have l1 : ∀ {γ : Type} (g : Int32 → Option γ), ldX xs L (nI i + (1 : Int32)) g = g (xs (i + 1)) := fun g => ldXk (k := 1) (by omega) hL
  have l2 : ∀ {γ : Type} (g : Int32 → Option γ), ldX xs L (nI i + (2 : Int32)) g = g (xs (i + 2)) := fun g => ldXk (k := 2) (by omega) hL
  have l3 : ∀ {γ : Type} (g : Int32 → Option γ), ldX xs L (nI i + (3 : Int32)) g = g (xs (i + 3)) := fun g => ldXk (k := 3) (by omega) hL
  have l4 : ∀ {γ : Type} (g : Int32 → Option γ), ldX xs L (nI i + (4 : Int32)) g = g (xs (i + 4)) := fun g => ldXk (k := 4) (by omega) hL
  have l5 : ∀ {γ : Type} (g : Int32 → Option γ), ldX xs L (nI i + (5 : Int32)) g = g (xs (i + 5)) := fun g => ldXk (k := 5) (by omega) hL
  unfold br_0
  simp only [l1, l2, l3, l4, l5]
  exact br_n (F := f_X11_feed 0 _ _ _ _ _) (G := f_X12_feed 152 _ _ _ _ _) (call_feed I) hj
set_option maxRecDepth 16384 in
theorem brk_1 {xs : Nat → Int32} {L i : Nat} {h : PH} {j : PH → Option (Int32 × PH)} {Q : Int32 → PH → Prop} (hL : L ≤ 3072) (hi : i + 5 < L) (I : INV h) (hj : ∀ h', INV h' → ok (j h') Q) : ok (br_1 xs L (nI i) h j) Q := by
  have l1 : ∀ {γ : Type} (g : Int32 → Option γ), ldX xs L (nI i + (1 : Int32)) g = g (xs (i + 1)) := fun g => ldXk (k := 1) (by omega) hL
  unfold br_1
  simp only [l1, f_L_sky]
  exact brT (F := f_X11_sky 0 _) (G := f_X12_sky 152 _) (call_sky I) hj
set_option maxRecDepth 16384 in
theorem brk_2 {xs : Nat → Int32} {L i : Nat} {h : PH} {j : PH → Option (Int32 × PH)} {Q : Int32 → PH → Prop} (hL : L ≤ 3072) (hi : i + 5 < L) (I : INV h) (hj : ∀ h', INV h' → ok (j h') Q) : ok (br_2 xs L (nI i) h j) Q := by
  have l1 : ∀ {γ : Type} (g : Int32 → Option γ), ldX xs L (nI i + (1 : Int32)) g = g (xs (i + 1)) := fun g => ldXk (k := 1) (by omega) hL
  unfold br_2
  simp only [l1]
  exact br_n (F := f_X11_fault 0 _) (G := f_X12_fault 152 _) (call_fault I) hj
set_option maxRecDepth 16384 in
theorem brk_3 {xs : Nat → Int32} {L i : Nat} {h : PH} {j : PH → Option (Int32 × PH)} {Q : Int32 → PH → Prop} (hL : L ≤ 3072) (hi : i + 5 < L) (I : INV h) (hj : ∀ h', INV h' → ok (j h') Q) : ok (br_3 xs L (nI i) h j) Q := by
  have l1 : ∀ {γ : Type} (g : Int32 → Option γ), ldX xs L (nI i + (1 : Int32)) g = g (xs (i + 1)) := fun g => ldXk (k := 1) (by omega) hL
  have l2 : ∀ {γ : Type} (g : Int32 → Option γ), ldX xs L (nI i + (2 : Int32)) g = g (xs (i + 2)) := fun g => ldXk (k := 2) (by omega) hL
  unfold br_3
  simp only [l1, l2, f_L_wish]
  exact brT (F := f_X11_wish 0 _ _) (G := f_X12_wish 152 _ _) (call_wish I) hj
set_option maxRecDepth 16384 in
theorem brk_4 {xs : Nat → Int32} {L i : Nat} {h : PH} {j : PH → Option (Int32 × PH)} {Q : Int32 → PH → Prop} (hL : L ≤ 3072) (hi : i + 5 < L) (I : INV h) (hj : ∀ h', INV h' → ok (j h') Q) : ok (br_4 xs L (nI i) h j) Q := by
  have l1 : ∀ {γ : Type} (g : Int32 → Option γ), ldX xs L (nI i + (1 : Int32)) g = g (xs (i + 1)) := fun g => ldXk (k := 1) (by omega) hL
  unfold br_4
  simp only [l1, f_L_weather]
  exact brT (F := f_X11_weather 0 _) (G := f_X12_weather 152 _) (call_weather I) hj
set_option maxRecDepth 16384 in
theorem brk_5 {xs : Nat → Int32} {L i : Nat} {h : PH} {j : PH → Option (Int32 × PH)} {Q : Int32 → PH → Prop} (hL : L ≤ 3072) (hi : i + 5 < L) (I : INV h) (hj : ∀ h', INV h' → ok (j h') Q) : ok (br_5 xs L (nI i) h j) Q := by
  have l1 : ∀ {γ : Type} (g : Int32 → Option γ), ldX xs L (nI i + (1 : Int32)) g = g (xs (i + 1)) := fun g => ldXk (k := 1) (by omega) hL
  have l2 : ∀ {γ : Type} (g : Int32 → Option γ), ldX xs L (nI i + (2 : Int32)) g = g (xs (i + 2)) := fun g => ldXk (k := 2) (by omega) hL
  unfold br_5
  simp only [l1, l2, f_L_holds]
  exact br_b (F := f_X11_holds 0 _ _) (G := f_X12_holds 152 _ _) (call_holds I) hj
set_option maxRecDepth 16384 in
theorem brk_6 {xs : Nat → Int32} {L i : Nat} {h : PH} {j : PH → Option (Int32 × PH)} {Q : Int32 → PH → Prop} (hL : L ≤ 3072) (hi : i + 5 < L) (I : INV h) (hj : ∀ h', INV h' → ok (j h') Q) : ok (br_6 xs L (nI i) h j) Q := by
  have l1 : ∀ {γ : Type} (g : Int32 → Option γ), ldX xs L (nI i + (1 : Int32)) g = g (xs (i + 1)) := fun g => ldXk (k := 1) (by omega) hL
  unfold br_6
  simp only [l1]
  exact br_n (F := f_X11_why 0 _) (G := f_X12_why 152 _) (call_why I) hj
set_option maxRecDepth 16384 in
theorem brk_7 {xs : Nat → Int32} {L i : Nat} {h : PH} {j : PH → Option (Int32 × PH)} {Q : Int32 → PH → Prop} (hL : L ≤ 3072) (hi : i + 5 < L) (I : INV h) (hj : ∀ h', INV h' → ok (j h') Q) : ok (br_7 xs L (nI i) h j) Q := by
  have l1 : ∀ {γ : Type} (g : Int32 → Option γ), ldX xs L (nI i + (1 : Int32)) g = g (xs (i + 1)) := fun g => ldXk (k := 1) (by omega) hL
  unfold br_7
  simp only [l1, f_L_granted]
  exact brT (F := f_X11_granted 0 _) (G := f_X12_granted 152 _) (call_granted I) hj
set_option maxRecDepth 16384 in
theorem brk_8 {xs : Nat → Int32} {L i : Nat} {h : PH} {j : PH → Option (Int32 × PH)} {Q : Int32 → PH → Prop} (hL : L ≤ 3072) (hi : i + 5 < L) (I : INV h) (hj : ∀ h', INV h' → ok (j h') Q) : ok (br_8 xs L (nI i) h j) Q := by
  unfold br_8
  exact br_n (F := f_X11_plans 0) (G := f_X12_plans 152) (call_plans I) hj
set_option maxRecDepth 16384 in
theorem brk_9 {xs : Nat → Int32} {L i : Nat} {h : PH} {j : PH → Option (Int32 × PH)} {Q : Int32 → PH → Prop} (hL : L ≤ 3072) (hi : i + 5 < L) (I : INV h) (hj : ∀ h', INV h' → ok (j h') Q) : ok (br_9 xs L (nI i) h j) Q := by
  have l1 : ∀ {γ : Type} (g : Int32 → Option γ), ldX xs L (nI i + (1 : Int32)) g = g (xs (i + 1)) := fun g => ldXk (k := 1) (by omega) hL
  unfold br_9
  simp only [l1, f_L_together]
  exact brT (F := f_X11_together 0 _) (G := f_X12_together 152 _) (call_together I) hj
set_option maxRecDepth 16384 in
theorem brk_10 {xs : Nat → Int32} {L i : Nat} {h : PH} {j : PH → Option (Int32 × PH)} {Q : Int32 → PH → Prop} (hL : L ≤ 3072) (hi : i + 5 < L) (I : INV h) (hj : ∀ h', INV h' → ok (j h') Q) : ok (br_10 xs L (nI i) h j) Q := by
  have l1 : ∀ {γ : Type} (g : Int32 → Option γ), ldX xs L (nI i + (1 : Int32)) g = g (xs (i + 1)) := fun g => ldXk (k := 1) (by omega) hL
  unfold br_10
  simp only [l1, f_L_quarrel]
  exact brT (F := f_X11_quarrel 0 _) (G := f_X12_quarrel 152 _) (call_quarrel I) hj
set_option maxRecDepth 16384 in
theorem brk_11 {xs : Nat → Int32} {L i : Nat} {h : PH} {j : PH → Option (Int32 × PH)} {Q : Int32 → PH → Prop} (hL : L ≤ 3072) (hi : i + 5 < L) (I : INV h) (hj : ∀ h', INV h' → ok (j h') Q) : ok (br_11 xs L (nI i) h j) Q := by
  have l1 : ∀ {γ : Type} (g : Int32 → Option γ), ldX xs L (nI i + (1 : Int32)) g = g (xs (i + 1)) := fun g => ldXk (k := 1) (by omega) hL
  unfold br_11
  simp only [l1, f_L_foes]
  exact brT (F := f_X11_foes 0 _) (G := f_X12_foes 152 _) (call_foes I) hj
set_option maxRecDepth 16384 in
theorem brk_12 {xs : Nat → Int32} {L i : Nat} {h : PH} {j : PH → Option (Int32 × PH)} {Q : Int32 → PH → Prop} (hL : L ≤ 3072) (hi : i + 5 < L) (I : INV h) (hj : ∀ h', INV h' → ok (j h') Q) : ok (br_12 xs L (nI i) h j) Q := by
  have l1 : ∀ {γ : Type} (g : Int32 → Option γ), ldX xs L (nI i + (1 : Int32)) g = g (xs (i + 1)) := fun g => ldXk (k := 1) (by omega) hL
  unfold br_12
  simp only [l1, f_L_most]
  exact brT (F := f_X11_most 0 _) (G := f_X12_most 152 _) (call_most I) hj
set_option maxRecDepth 16384 in
theorem brk_13 {xs : Nat → Int32} {L i : Nat} {h : PH} {j : PH → Option (Int32 × PH)} {Q : Int32 → PH → Prop} (hL : L ≤ 3072) (hi : i + 5 < L) (I : INV h) (hj : ∀ h', INV h' → ok (j h') Q) : ok (br_13 xs L (nI i) h j) Q := by
  unfold br_13
  exact br_n (F := f_X11_nights 0) (G := f_X12_nights 152) (call_nights I) hj
set_option maxRecDepth 16384 in
theorem brk_14 {xs : Nat → Int32} {L i : Nat} {h : PH} {j : PH → Option (Int32 × PH)} {Q : Int32 → PH → Prop} (hL : L ≤ 3072) (hi : i + 5 < L) (I : INV h) (hj : ∀ h', INV h' → ok (j h') Q) : ok (br_14 xs L (nI i) h j) Q := by
  have l1 : ∀ {γ : Type} (g : Int32 → Option γ), ldX xs L (nI i + (1 : Int32)) g = g (xs (i + 1)) := fun g => ldXk (k := 1) (by omega) hL
  have l2 : ∀ {γ : Type} (g : Int32 → Option γ), ldX xs L (nI i + (2 : Int32)) g = g (xs (i + 2)) := fun g => ldXk (k := 2) (by omega) hL
  unfold br_14
  simp only [l1, l2, f_L_hearts]
  exact brT (F := f_X11_hearts 0 _ _) (G := f_X12_hearts 152 _ _) (call_hearts I) hj
set_option maxRecDepth 16384 in
theorem brk_15 {xs : Nat → Int32} {L i : Nat} {h : PH} {j : PH → Option (Int32 × PH)} {Q : Int32 → PH → Prop} (hL : L ≤ 3072) (hi : i + 5 < L) (I : INV h) (hj : ∀ h', INV h' → ok (j h') Q) : ok (br_15 xs L (nI i) h j) Q := by
  have l1 : ∀ {γ : Type} (g : Int32 → Option γ), ldX xs L (nI i + (1 : Int32)) g = g (xs (i + 1)) := fun g => ldXk (k := 1) (by omega) hL
  unfold br_15
  simp only [l1, f_L_follows]
  exact brT (F := f_X11_follows 0 _) (G := f_X12_follows 152 _) (call_follows I) hj
set_option maxRecDepth 16384 in
theorem brk_16 {xs : Nat → Int32} {L i : Nat} {h : PH} {j : PH → Option (Int32 × PH)} {Q : Int32 → PH → Prop} (hL : L ≤ 3072) (hi : i + 5 < L) (I : INV h) (hj : ∀ h', INV h' → ok (j h') Q) : ok (br_16 xs L (nI i) h j) Q := by
  have l1 : ∀ {γ : Type} (g : Int32 → Option γ), ldX xs L (nI i + (1 : Int32)) g = g (xs (i + 1)) := fun g => ldXk (k := 1) (by omega) hL
  have l2 : ∀ {γ : Type} (g : Int32 → Option γ), ldX xs L (nI i + (2 : Int32)) g = g (xs (i + 2)) := fun g => ldXk (k := 2) (by omega) hL
  unfold br_16
  simp only [l1, l2, f_L_sure]
  by_cases c : xs (i + 2) = 0
  · simp only [if_pos c]
    exact brT (F := f_X11_sure 0 (xs (i + 1)) (bI false)) (G := f_X12_sure 152 (xs (i + 1)) (bI false)) (call_sure I) hj
  · simp only [if_neg c]
    exact brT (F := f_X11_sure 0 (xs (i + 1)) (bI true)) (G := f_X12_sure 152 (xs (i + 1)) (bI true)) (call_sure I) hj
set_option maxRecDepth 16384 in
theorem brk_17 {xs : Nat → Int32} {L i : Nat} {h : PH} {j : PH → Option (Int32 × PH)} {Q : Int32 → PH → Prop} (hL : L ≤ 3072) (hi : i + 5 < L) (I : INV h) (hj : ∀ h', INV h' → ok (j h') Q) : ok (br_17 xs L (nI i) h j) Q := by
  have l1 : ∀ {γ : Type} (g : Int32 → Option γ), ldX xs L (nI i + (1 : Int32)) g = g (xs (i + 1)) := fun g => ldXk (k := 1) (by omega) hL
  have l2 : ∀ {γ : Type} (g : Int32 → Option γ), ldX xs L (nI i + (2 : Int32)) g = g (xs (i + 2)) := fun g => ldXk (k := 2) (by omega) hL
  unfold br_17
  simp only [l1, l2, f_L_expected]
  exact br_l (F := f_X11_expected 0 _ _) (G := f_X12_expected 152 _ _) (call_expected I) hj
set_option maxRecDepth 16384 in
theorem brk_18 {xs : Nat → Int32} {L i : Nat} {h : PH} {j : PH → Option (Int32 × PH)} {Q : Int32 → PH → Prop} (hL : L ≤ 3072) (hi : i + 5 < L) (I : INV h) (hj : ∀ h', INV h' → ok (j h') Q) : ok (br_18 xs L (nI i) h j) Q := by
  have l1 : ∀ {γ : Type} (g : Int32 → Option γ), ldX xs L (nI i + (1 : Int32)) g = g (xs (i + 1)) := fun g => ldXk (k := 1) (by omega) hL
  unfold br_18
  simp only [l1, f_L_bestChance]
  exact brT (F := f_X11_bestChance 0 _) (G := f_X12_bestChance 152 _) (call_bestChance I) hj
set_option maxRecDepth 16384 in
theorem brk_19 {xs : Nat → Int32} {L i : Nat} {h : PH} {j : PH → Option (Int32 × PH)} {Q : Int32 → PH → Prop} (hL : L ≤ 3072) (hi : i + 5 < L) (I : INV h) (hj : ∀ h', INV h' → ok (j h') Q) : ok (br_19 xs L (nI i) h j) Q := by
  have l1 : ∀ {γ : Type} (g : Int32 → Option γ), ldX xs L (nI i + (1 : Int32)) g = g (xs (i + 1)) := fun g => ldXk (k := 1) (by omega) hL
  unfold br_19
  simp only [l1, f_L_served]
  exact brT (F := f_X11_served 0 _) (G := f_X12_served 152 _) (call_served I) hj
set_option maxRecDepth 16384 in
theorem brk_20 {xs : Nat → Int32} {L i : Nat} {h : PH} {j : PH → Option (Int32 × PH)} {Q : Int32 → PH → Prop} (hL : L ≤ 3072) (hi : i + 5 < L) (I : INV h) (hj : ∀ h', INV h' → ok (j h') Q) : ok (br_20 xs L (nI i) h j) Q := by
  have l1 : ∀ {γ : Type} (g : Int32 → Option γ), ldX xs L (nI i + (1 : Int32)) g = g (xs (i + 1)) := fun g => ldXk (k := 1) (by omega) hL
  have l2 : ∀ {γ : Type} (g : Int32 → Option γ), ldX xs L (nI i + (2 : Int32)) g = g (xs (i + 2)) := fun g => ldXk (k := 2) (by omega) hL
  unfold br_20
  simp only [l1, l2, f_L_share]
  exact brT (F := f_X11_share 0 _ _) (G := f_X12_share 152 _ _) (call_share I) hj
set_option maxRecDepth 16384 in
theorem brk_21 {xs : Nat → Int32} {L i : Nat} {h : PH} {j : PH → Option (Int32 × PH)} {Q : Int32 → PH → Prop} (hL : L ≤ 3072) (hi : i + 5 < L) (I : INV h) (hj : ∀ h', INV h' → ok (j h') Q) : ok (br_21 xs L (nI i) h j) Q := by
  have l1 : ∀ {γ : Type} (g : Int32 → Option γ), ldX xs L (nI i + (1 : Int32)) g = g (xs (i + 1)) := fun g => ldXk (k := 1) (by omega) hL
  have l2 : ∀ {γ : Type} (g : Int32 → Option γ), ldX xs L (nI i + (2 : Int32)) g = g (xs (i + 2)) := fun g => ldXk (k := 2) (by omega) hL
  have l3 : ∀ {γ : Type} (g : Int32 → Option γ), ldX xs L (nI i + (3 : Int32)) g = g (xs (i + 3)) := fun g => ldXk (k := 3) (by omega) hL
  unfold br_21
  simp only [l1, l2, l3, f_L_gains]
  exact brT (F := f_X11_gains 0 _ _ _) (G := f_X12_gains 152 _ _ _) (call_gains I) hj
set_option maxRecDepth 16384 in
theorem brk_22 {xs : Nat → Int32} {L i : Nat} {h : PH} {j : PH → Option (Int32 × PH)} {Q : Int32 → PH → Prop} (hL : L ≤ 3072) (hi : i + 5 < L) (I : INV h) (hj : ∀ h', INV h' → ok (j h') Q) : ok (br_22 xs L (nI i) h j) Q := by
  unfold br_22
  exact br_n (F := f_X11_bestRule 0) (G := f_X12_bestRule 152) (call_bestRule I) hj
set_option maxRecDepth 16384 in
theorem brk_23 {xs : Nat → Int32} {L i : Nat} {h : PH} {j : PH → Option (Int32 × PH)} {Q : Int32 → PH → Prop} (hL : L ≤ 3072) (hi : i + 5 < L) (I : INV h) (hj : ∀ h', INV h' → ok (j h') Q) : ok (br_23 xs L (nI i) h j) Q := by
  have l1 : ∀ {γ : Type} (g : Int32 → Option γ), ldX xs L (nI i + (1 : Int32)) g = g (xs (i + 1)) := fun g => ldXk (k := 1) (by omega) hL
  have l2 : ∀ {γ : Type} (g : Int32 → Option γ), ldX xs L (nI i + (2 : Int32)) g = g (xs (i + 2)) := fun g => ldXk (k := 2) (by omega) hL
  unfold br_23
  simp only [l1, l2, f_L_wants]
  exact brT (F := f_X11_wants 0 _ _) (G := f_X12_wants 152 _ _) (call_wants I) hj
set_option maxRecDepth 16384 in
theorem brk_24 {xs : Nat → Int32} {L i : Nat} {h : PH} {j : PH → Option (Int32 × PH)} {Q : Int32 → PH → Prop} (hL : L ≤ 3072) (hi : i + 5 < L) (I : INV h) (hj : ∀ h', INV h' → ok (j h') Q) : ok (br_24 xs L (nI i) h j) Q := by
  have l1 : ∀ {γ : Type} (g : Int32 → Option γ), ldX xs L (nI i + (1 : Int32)) g = g (xs (i + 1)) := fun g => ldXk (k := 1) (by omega) hL
  have l2 : ∀ {γ : Type} (g : Int32 → Option γ), ldX xs L (nI i + (2 : Int32)) g = g (xs (i + 2)) := fun g => ldXk (k := 2) (by omega) hL
  unfold br_24
  simp only [l1, l2, f_L_readings]
  exact brT (F := f_X11_readings 0 _ _) (G := f_X12_readings 152 _ _) (call_readings I) hj
set_option maxRecDepth 16384 in
theorem brk_25 {xs : Nat → Int32} {L i : Nat} {h : PH} {j : PH → Option (Int32 × PH)} {Q : Int32 → PH → Prop} (hL : L ≤ 3072) (hi : i + 5 < L) (I : INV h) (hj : ∀ h', INV h' → ok (j h') Q) : ok (br_25 xs L (nI i) h j) Q := by
  have l1 : ∀ {γ : Type} (g : Int32 → Option γ), ldX xs L (nI i + (1 : Int32)) g = g (xs (i + 1)) := fun g => ldXk (k := 1) (by omega) hL
  unfold br_25
  simp only [l1]
  exact br_n (F := f_X11_night 0 _) (G := f_X12_night 152 _) (call_night I) hj
set_option maxRecDepth 16384 in
theorem brk_26 {xs : Nat → Int32} {L i : Nat} {h : PH} {j : PH → Option (Int32 × PH)} {Q : Int32 → PH → Prop} (hL : L ≤ 3072) (hi : i + 5 < L) (I : INV h) (hj : ∀ h', INV h' → ok (j h') Q) : ok (br_26 xs L (nI i) h j) Q := by
  have l1 : ∀ {γ : Type} (g : Int32 → Option γ), ldX xs L (nI i + (1 : Int32)) g = g (xs (i + 1)) := fun g => ldXk (k := 1) (by omega) hL
  have l2 : ∀ {γ : Type} (g : Int32 → Option γ), ldX xs L (nI i + (2 : Int32)) g = g (xs (i + 2)) := fun g => ldXk (k := 2) (by omega) hL
  unfold br_26
  simp only [l1, l2, f_L_thank]
  exact brT (F := f_X11_thank 0 _ _) (G := f_X12_thank 152 _ _) (call_thank I) hj
set_option maxRecDepth 16384 in
theorem brk_27 {xs : Nat → Int32} {L i : Nat} {h : PH} {j : PH → Option (Int32 × PH)} {Q : Int32 → PH → Prop} (hL : L ≤ 3072) (hi : i + 5 < L) (I : INV h) (hj : ∀ h', INV h' → ok (j h') Q) : ok (br_27 xs L (nI i) h j) Q := by
  have l1 : ∀ {γ : Type} (g : Int32 → Option γ), ldX xs L (nI i + (1 : Int32)) g = g (xs (i + 1)) := fun g => ldXk (k := 1) (by omega) hL
  unfold br_27
  simp only [l1, f_L_owes]
  exact brT (F := f_X11_owes 0 _) (G := f_X12_owes 152 _) (call_owes I) hj
set_option maxRecDepth 16384 in
theorem brk_28 {xs : Nat → Int32} {L i : Nat} {h : PH} {j : PH → Option (Int32 × PH)} {Q : Int32 → PH → Prop} (hL : L ≤ 3072) (hi : i + 5 < L) (I : INV h) (hj : ∀ h', INV h' → ok (j h') Q) : ok (br_28 xs L (nI i) h j) Q := by
  have l1 : ∀ {γ : Type} (g : Int32 → Option γ), ldX xs L (nI i + (1 : Int32)) g = g (xs (i + 1)) := fun g => ldXk (k := 1) (by omega) hL
  unfold br_28
  simp only [l1, f_L_withdraw]
  exact brT (F := f_X11_withdraw 0 _) (G := f_X12_withdraw 152 _) (call_withdraw I) hj
set_option maxRecDepth 16384 in
theorem brk_29 {xs : Nat → Int32} {L i : Nat} {h : PH} {j : PH → Option (Int32 × PH)} {Q : Int32 → PH → Prop} (hL : L ≤ 3072) (hi : i + 5 < L) (I : INV h) (hj : ∀ h', INV h' → ok (j h') Q) : ok (br_29 xs L (nI i) h j) Q := by
  have l1 : ∀ {γ : Type} (g : Int32 → Option γ), ldX xs L (nI i + (1 : Int32)) g = g (xs (i + 1)) := fun g => ldXk (k := 1) (by omega) hL
  unfold br_29
  simp only [l1, f_L_again]
  exact brT (F := f_X11_again 0 _) (G := f_X12_again 152 _) (call_again I) hj
set_option maxRecDepth 16384 in
theorem brk_30 {xs : Nat → Int32} {L i : Nat} {h : PH} {j : PH → Option (Int32 × PH)} {Q : Int32 → PH → Prop} (hL : L ≤ 3072) (hi : i + 5 < L) (I : INV h) (hj : ∀ h', INV h' → ok (j h') Q) : ok (br_30 xs L (nI i) h j) Q := by
  have l1 : ∀ {γ : Type} (g : Int32 → Option γ), ldX xs L (nI i + (1 : Int32)) g = g (xs (i + 1)) := fun g => ldXk (k := 1) (by omega) hL
  unfold br_30
  simp only [l1, f_L_undo]
  exact brT (F := f_X11_undo 0 _) (G := f_X12_undo 152 _) (call_undo I) hj
set_option maxRecDepth 16384 in
theorem brk_31 {xs : Nat → Int32} {L i : Nat} {h : PH} {j : PH → Option (Int32 × PH)} {Q : Int32 → PH → Prop} (hL : L ≤ 3072) (hi : i + 5 < L) (I : INV h) (hj : ∀ h', INV h' → ok (j h') Q) : ok (br_31 xs L (nI i) h j) Q := by
  have l1 : ∀ {γ : Type} (g : Int32 → Option γ), ldX xs L (nI i + (1 : Int32)) g = g (xs (i + 1)) := fun g => ldXk (k := 1) (by omega) hL
  have l2 : ∀ {γ : Type} (g : Int32 → Option γ), ldX xs L (nI i + (2 : Int32)) g = g (xs (i + 2)) := fun g => ldXk (k := 2) (by omega) hL
  unfold br_31
  simp only [l1, l2, f_L_judge]
  exact brT (F := f_X11_judge 0 _ _) (G := f_X12_judge 152 _ _) (call_judge I) hj
set_option maxRecDepth 16384 in
theorem brk_32 {xs : Nat → Int32} {L i : Nat} {h : PH} {j : PH → Option (Int32 × PH)} {Q : Int32 → PH → Prop} (hL : L ≤ 3072) (hi : i + 5 < L) (I : INV h) (hj : ∀ h', INV h' → ok (j h') Q) : ok (br_32 xs L (nI i) h j) Q := by
  have l1 : ∀ {γ : Type} (g : Int32 → Option γ), ldX xs L (nI i + (1 : Int32)) g = g (xs (i + 1)) := fun g => ldXk (k := 1) (by omega) hL
  unfold br_32
  simp only [l1, f_L_perform]
  exact brT (F := f_X11_perform 0 _) (G := f_X12_perform 152 _) (call_perform I) hj
set_option maxRecDepth 16384 in
theorem brk_33 {xs : Nat → Int32} {L i : Nat} {h : PH} {j : PH → Option (Int32 × PH)} {Q : Int32 → PH → Prop} (hL : L ≤ 3072) (hi : i + 5 < L) (I : INV h) (hj : ∀ h', INV h' → ok (j h') Q) : ok (br_33 xs L (nI i) h j) Q := by
  have l1 : ∀ {γ : Type} (g : Int32 → Option γ), ldX xs L (nI i + (1 : Int32)) g = g (xs (i + 1)) := fun g => ldXk (k := 1) (by omega) hL
  have l2 : ∀ {γ : Type} (g : Int32 → Option γ), ldX xs L (nI i + (2 : Int32)) g = g (xs (i + 2)) := fun g => ldXk (k := 2) (by omega) hL
  unfold br_33
  simp only [l1, l2, f_L_season]
  exact brT (F := f_X11_season 0 _ _) (G := f_X12_season 152 _ _) (call_season I) hj
set_option maxRecDepth 16384 in
theorem brk_34 {xs : Nat → Int32} {L i : Nat} {h : PH} {j : PH → Option (Int32 × PH)} {Q : Int32 → PH → Prop} (hL : L ≤ 3072) (hi : i + 5 < L) (I : INV h) (hj : ∀ h', INV h' → ok (j h') Q) : ok (br_34 xs L (nI i) h j) Q := by
  have l1 : ∀ {γ : Type} (g : Int32 → Option γ), ldX xs L (nI i + (1 : Int32)) g = g (xs (i + 1)) := fun g => ldXk (k := 1) (by omega) hL
  have l2 : ∀ {γ : Type} (g : Int32 → Option γ), ldX xs L (nI i + (2 : Int32)) g = g (xs (i + 2)) := fun g => ldXk (k := 2) (by omega) hL
  have l3 : ∀ {γ : Type} (g : Int32 → Option γ), ldX xs L (nI i + (3 : Int32)) g = g (xs (i + 3)) := fun g => ldXk (k := 3) (by omega) hL
  unfold br_34
  simp only [l1, l2, l3, f_L_holding]
  exact br_l (F := f_X11_holding 0 _ _ _) (G := f_X12_holding 152 _ _ _) (call_holding I) hj
set_option maxRecDepth 16384 in
theorem brk_35 {xs : Nat → Int32} {L i : Nat} {h : PH} {j : PH → Option (Int32 × PH)} {Q : Int32 → PH → Prop} (hL : L ≤ 3072) (hi : i + 5 < L) (I : INV h) (hj : ∀ h', INV h' → ok (j h') Q) : ok (br_35 xs L (nI i) h j) Q := by
  have l1 : ∀ {γ : Type} (g : Int32 → Option γ), ldX xs L (nI i + (1 : Int32)) g = g (xs (i + 1)) := fun g => ldXk (k := 1) (by omega) hL
  have l2 : ∀ {γ : Type} (g : Int32 → Option γ), ldX xs L (nI i + (2 : Int32)) g = g (xs (i + 2)) := fun g => ldXk (k := 2) (by omega) hL
  have l3 : ∀ {γ : Type} (g : Int32 → Option γ), ldX xs L (nI i + (3 : Int32)) g = g (xs (i + 3)) := fun g => ldXk (k := 3) (by omega) hL
  unfold br_35
  simp only [l1, l2, l3, f_L_grants]
  exact brT (F := f_X11_grants 0 _ _ _) (G := f_X12_grants 152 _ _ _) (call_grants I) hj
set_option maxRecDepth 16384 in
theorem brk_36 {xs : Nat → Int32} {L i : Nat} {h : PH} {j : PH → Option (Int32 × PH)} {Q : Int32 → PH → Prop} (hL : L ≤ 3072) (hi : i + 5 < L) (I : INV h) (hj : ∀ h', INV h' → ok (j h') Q) : ok (br_36 xs L (nI i) h j) Q := by
  have l1 : ∀ {γ : Type} (g : Int32 → Option γ), ldX xs L (nI i + (1 : Int32)) g = g (xs (i + 1)) := fun g => ldXk (k := 1) (by omega) hL
  have l2 : ∀ {γ : Type} (g : Int32 → Option γ), ldX xs L (nI i + (2 : Int32)) g = g (xs (i + 2)) := fun g => ldXk (k := 2) (by omega) hL
  have l3 : ∀ {γ : Type} (g : Int32 → Option γ), ldX xs L (nI i + (3 : Int32)) g = g (xs (i + 3)) := fun g => ldXk (k := 3) (by omega) hL
  unfold br_36
  simp only [l1, l2, l3, f_L_tray]
  exact br_u (F := f_X11_tray 0 _ _ _) (G := f_X12_tray 152 _ _ _) (call_tray I) hj
set_option maxRecDepth 16384 in
theorem brk_37 {xs : Nat → Int32} {L i : Nat} {h : PH} {j : PH → Option (Int32 × PH)} {Q : Int32 → PH → Prop} (hL : L ≤ 3072) (hi : i + 5 < L) (I : INV h) (hj : ∀ h', INV h' → ok (j h') Q) : ok (br_37 xs L (nI i) h j) Q := by
  have l1 : ∀ {γ : Type} (g : Int32 → Option γ), ldX xs L (nI i + (1 : Int32)) g = g (xs (i + 1)) := fun g => ldXk (k := 1) (by omega) hL
  have l2 : ∀ {γ : Type} (g : Int32 → Option γ), ldX xs L (nI i + (2 : Int32)) g = g (xs (i + 2)) := fun g => ldXk (k := 2) (by omega) hL
  have l3 : ∀ {γ : Type} (g : Int32 → Option γ), ldX xs L (nI i + (3 : Int32)) g = g (xs (i + 3)) := fun g => ldXk (k := 3) (by omega) hL
  have l4 : ∀ {γ : Type} (g : Int32 → Option γ), ldX xs L (nI i + (4 : Int32)) g = g (xs (i + 4)) := fun g => ldXk (k := 4) (by omega) hL
  unfold br_37
  simp only [l1, l2, l3, l4, f_L_write]
  exact br_l (F := f_X11_write 0 _ _ _) (G := f_X12_write 152 _ _ _) (call_write I) hj
set_option maxRecDepth 16384 in
theorem brk_38 {xs : Nat → Int32} {L i : Nat} {h : PH} {j : PH → Option (Int32 × PH)} {Q : Int32 → PH → Prop} (hL : L ≤ 3072) (hi : i + 5 < L) (I : INV h) (hj : ∀ h', INV h' → ok (j h') Q) : ok (br_38 xs L (nI i) h j) Q := by
  have l1 : ∀ {γ : Type} (g : Int32 → Option γ), ldX xs L (nI i + (1 : Int32)) g = g (xs (i + 1)) := fun g => ldXk (k := 1) (by omega) hL
  unfold br_38
  simp only [l1, f_L_pour]
  exact brT (F := f_X11_pour 0 _) (G := f_X12_pour 152 _) (call_pour I) hj
set_option maxRecDepth 16384 in
theorem brk_39 {xs : Nat → Int32} {L i : Nat} {h : PH} {j : PH → Option (Int32 × PH)} {Q : Int32 → PH → Prop} (hL : L ≤ 3072) (hi : i + 5 < L) (I : INV h) (hj : ∀ h', INV h' → ok (j h') Q) : ok (br_39 xs L (nI i) h j) Q := by
  have l1 : ∀ {γ : Type} (g : Int32 → Option γ), ldX xs L (nI i + (1 : Int32)) g = g (xs (i + 1)) := fun g => ldXk (k := 1) (by omega) hL
  unfold br_39
  simp only [l1, f_L_image]
  exact br_u (F := f_X11_image 0 _) (G := f_X12_image 152 _) (call_image I) hj
set_option maxRecDepth 16384 in
theorem brk_40 {xs : Nat → Int32} {L i : Nat} {h : PH} {j : PH → Option (Int32 × PH)} {Q : Int32 → PH → Prop} (hL : L ≤ 3072) (hi : i + 5 < L) (I : INV h) (hj : ∀ h', INV h' → ok (j h') Q) : ok (br_40 xs L (nI i) h j) Q := by
  have l1 : ∀ {γ : Type} (g : Int32 → Option γ), ldX xs L (nI i + (1 : Int32)) g = g (xs (i + 1)) := fun g => ldXk (k := 1) (by omega) hL
  unfold br_40
  simp only [l1, f_L_restore]
  exact br_u (F := f_X11_restore 0 _) (G := f_X12_restore 152 _) (call_restore I) hj
set_option maxRecDepth 16384 in
theorem brk_41 {xs : Nat → Int32} {L i : Nat} {h : PH} {j : PH → Option (Int32 × PH)} {Q : Int32 → PH → Prop} (hL : L ≤ 3072) (hi : i + 5 < L) (I : INV h) (hj : ∀ h', INV h' → ok (j h') Q) : ok (br_41 xs L (nI i) h j) Q := by
  have l1 : ∀ {γ : Type} (g : Int32 → Option γ), ldX xs L (nI i + (1 : Int32)) g = g (xs (i + 1)) := fun g => ldXk (k := 1) (by omega) hL
  unfold br_41
  simp only [l1]
  exact br_n (F := f_X11_count 0 _) (G := f_X12_count 152 _) (call_count I) hj

/-! ===== tokens by number, the grammar ===== -/
set_option maxRecDepth 16384 in
theorem isWd_c {n : Nat} {X : Nat → Nat} {b w w' : Nat} (h : sb w = sb w') : isWd n X b w = isWd n X b w' := by
  unfold isWd wbN slen
  rw [h]
def fw (n : Nat) (X : Nat → Nat) (b : Nat) : Nat → Nat
  | 0 => 0
  | k + 1 => if isWd n X b (27 - k) then 27 - k else fw n X b k
/- 2 to 27: the word or sign of the class with that place; 40: a number; 0: others -/
def tc (n : Nat) (X : Nat → Nat) (b : Nat) : Nat := if tkd n X b = 3 then 40 else fw n X b 26
set_option maxRecDepth 16384 in
theorem fw_spec {n : Nat} {X : Nat → Nat} {b : Nat} : ∀ k, k ≤ 26 → (fw n X b k ≠ 0 → isWd n X b (fw n X b k) = true ∧ 2 ≤ fw n X b k ∧ fw n X b k ≤ 27) ∧ (fw n X b k = 0 → ∀ w, 27 < w + k → w ≤ 27 → isWd n X b w = false)
  | 0, _ => ⟨fun h => absurd rfl h, fun _ w h1 h2 => by omega⟩
  | k + 1, hk => by
    obtain ⟨i1, i2⟩ := fw_spec (n := n) (X := X) (b := b) k (by omega)
    rw [fw]
    by_cases c : isWd n X b (27 - k) = true
    · rw [if_pos c]
      exact ⟨fun _ => ⟨c, by omega, by omega⟩, fun z => by omega⟩
    · rw [if_neg c]
      refine ⟨i1, fun z w h1 h2 => ?_⟩
      by_cases e : w = 27 - k
      · rw [e]
        simpa using c
      · exact i2 z w (by omega) h2
set_option maxRecDepth 16384 in
theorem wd_inj2 : allN 28 (fun w => allN 28 (fun w' => decide (w < 2) || (decide (w' < 2) || (!(decide (slen w = slen w') && allN (slen w) (fun k => decide (wbN w k = wbN w' k))) || decide (w = w'))))) = true := by decide +kernel
set_option maxRecDepth 16384 in
theorem wd_inj {n : Nat} {X : Nat → Nat} {b w w' : Nat} (h1 : 2 ≤ w) (h2 : w ≤ 27) (h1' : 2 ≤ w') (h2' : w' ≤ 27) (a : isWd n X b w = true) (a' : isWd n X b w' = true) : w = w' := by
  obtain ⟨x1, x2⟩ := isWd_iff.mp a
  obtain ⟨y1, y2⟩ := isWd_iff.mp a'
  have h := allN_at (allN_at wd_inj2 w (by omega)) w' (by omega)
  have hs : slen w = slen w' := by rw [← x1, ← y1]
  have hb : allN (slen w) (fun k => decide (wbN w k = wbN w' k)) = true := allN_iff.mpr (fun k hk => decide_eq_true (by rw [← x2 k hk, ← y2 k (by omega)]))
  rw [decide_eq_false (show ¬ w < 2 by omega), decide_eq_false (show ¬ w' < 2 by omega), decide_eq_true hs, hb] at h
  exact of_decide_eq_true h
set_option maxRecDepth 16384 in
theorem wd_0 : ∀ w, w < 28 → 2 ≤ w → 1 ≤ slen w ∧ isD (wbN w 0) = false := by decide +kernel
set_option maxRecDepth 16384 in
theorem num_D {n : Nat} {X : Nat → Nat} {b : Nat} (h : tkd n X b = 3) : isL (X b) = false ∧ isD (X b) = true := by
  have hb := tkd_n (n := n) (X := X) (b := b) (by omega)
  unfold tkd at h
  rw [if_neg (by omega)] at h
  cases h1 : isL (X b)
  · rw [h1, if_neg (by decide)] at h
    cases h2 : isD (X b)
    · rw [h2, if_neg (by decide)] at h
      split at h <;> omega
    · exact ⟨rfl, rfl⟩
  · rw [h1, if_pos rfl] at h
    omega
set_option maxRecDepth 16384 in
theorem tc_w {n : Nat} {X : Nat → Nat} {b w : Nat} (h1 : 2 ≤ w) (h2 : w ≤ 27) : isWd n X b w = decide (tc n X b = w) := by
  obtain ⟨f1, f2⟩ := fw_spec (n := n) (X := X) (b := b) 26 (Nat.le_refl _)
  unfold tc
  by_cases c : tkd n X b = 3
  · rw [if_pos c, decide_eq_false (by omega)]
    cases hq : isWd n X b w
    · rfl
    · obtain ⟨w1, w2⟩ := wd_0 w (by omega) h1
      have := (isWd_iff.mp hq).2 0 (by omega)
      rw [Nat.add_zero] at this
      have hd := (num_D c).2
      rw [this, w2] at hd
      cases hd
  · rw [if_neg c]
    by_cases z : fw n X b 26 = 0
    · rw [f2 z w (by omega) h2, decide_eq_false (by omega)]
    · obtain ⟨g1, g2, g3⟩ := f1 z
      cases hq : isWd n X b w
      · symm
        refine decide_eq_false (fun e => ?_)
        rw [e, hq] at g1
        cases g1
      · symm
        exact decide_eq_true (wd_inj g2 g3 h1 h2 g1 hq)
set_option maxRecDepth 16384 in
theorem tc_40 {n : Nat} {X : Nat → Nat} {b : Nat} : tc n X b = 40 ↔ tkd n X b = 3 := by
  obtain ⟨f1, f2⟩ := fw_spec (n := n) (X := X) (b := b) 26 (Nat.le_refl _)
  unfold tc
  by_cases c : tkd n X b = 3
  · rw [if_pos c]
    exact ⟨fun _ => c, fun _ => rfl⟩
  · rw [if_neg c]
    refine ⟨fun e => ?_, fun e => absurd e c⟩
    have := f1 (by omega)
    omega
set_option maxRecDepth 16384 in
theorem isWd_n {n : Nat} {X : Nat → Nat} {b w : Nat} (hw : 2 ≤ w) (hw2 : w ≤ 27) (h : isWd n X b w = true) : b < n := by
  rcases Nat.lt_or_ge b n with q | q
  · exact q
  · obtain ⟨x1, -⟩ := isWd_iff.mp h
    have := (wd_0 w (by omega) hw).1
    rw [(en_N (X := X) q).1] at x1
    omega
set_option maxRecDepth 16384 in
theorem tc_n {n : Nat} {X : Nat → Nat} {b : Nat} (h : tc n X b ≠ 0) : b < n := by
  obtain ⟨f1, f2⟩ := fw_spec (n := n) (X := X) (b := b) 26 (Nat.le_refl _)
  unfold tc at h
  by_cases c : tkd n X b = 3
  · exact tkd_n (n := n) (X := X) (b := b) (by omega)
  · rw [if_neg c] at h
    obtain ⟨g1, g2, g3⟩ := f1 h
    exact isWd_n g2 g3 g1
set_option maxRecDepth 16384 in
theorem tc_le (n : Nat) (X : Nat → Nat) (b : Nat) : tc n X b ≤ 27 ∨ tc n X b = 40 := by
  obtain ⟨f1, f2⟩ := fw_spec (n := n) (X := X) (b := b) 26 (Nat.le_refl _)
  unfold tc
  by_cases c : tkd n X b = 3
  · rw [if_pos c]
    exact Or.inr rfl
  · rw [if_neg c]
    by_cases z : fw n X b 26 = 0
    · omega
    · have := f1 z
      omega
set_option maxRecDepth 16384 in
theorem tc_nx {n : Nat} {X : Nat → Nat} {b : Nat} (h : tc n X b ≠ 0) : b < nx n X b ∧ nx n X b ≤ n := by
  have hb := tc_n h
  have := nx_b (X := X) (show b ≤ n by omega)
  exact ⟨this.2.2 hb, this.2.1⟩
/- a token that has no other meaning is blamed as one that begins none -/
set_option maxRecDepth 16384 in
theorem bad_tc {n : Nat} {X : Nat → Nat} {b : Nat} (h : tkd n X b = 1) : tc n X b = 0 := by
  obtain ⟨f1, f2⟩ := fw_spec (n := n) (X := X) (b := b) 26 (Nat.le_refl _)
  unfold tc
  rw [if_neg (by omega)]
  by_cases z : fw n X b 26 = 0
  · exact z
  · obtain ⟨g1, g2, g3⟩ := f1 z
    exfalso
    obtain ⟨x1, x2⟩ := isWd_iff.mp g1
    have hb := tkd_n (n := n) (X := X) (b := b) (by omega)
    have k0 := x2 0 (by have := (wd_0 _ (by omega) g2).1; omega)
    rw [Nat.add_zero] at k0
    have hl := (by decide +kernel : ∀ w, w < 28 → 2 ≤ w → isL (wbN w 0) = true ∨ (isD (wbN w 0) = false ∧ isG (wbN w 0) = true)) _ (show fw n X b 26 < 28 by omega) g2
    rw [← k0] at hl
    unfold tkd at h
    rw [if_neg (by omega)] at h
    rcases hl with hl | ⟨hl, hg⟩
    · rw [hl, if_pos rfl] at h
      omega
    · cases h1 : isL (X b)
      · rw [h1, hl, hg] at h
        simp at h
      · rw [h1, if_pos rfl] at h
        omega
/-! the grammar: a fault (kind, place), or where it goes on and the steps -/
abbrev Rz : Type := (Nat × Nat) ⊕ (Nat × List Nat)
def flt (n : Nat) (X : Nat → Nat) (k p : Nat) : Nat × Nat := (if tkd n X p = 1 then 1 else k, p)
def num (n : Nat) (X : Nat → Nat) (lo hi p : Nat) : (Nat × Nat) ⊕ (Nat × Nat) := if tc n X p = 40 then (if lo ≤ vl n X p ∧ vl n X p ≤ hi then .inr (nx n X p, vl n X p) else .inl (3, p)) else .inl (flt n X 2 p)
def bnd {α β : Type} (r : (Nat × Nat) ⊕ α) (f : α → (Nat × Nat) ⊕ β) : (Nat × Nat) ⊕ β := match r with
  | .inl e => .inl e
  | .inr a => f a
def rep (n : Nat) (X : Nat → Nat) (op : Nat → Nat) (item : Nat → List Nat → Rz) : Nat → Nat → List Nat → Rz
  | 0, p, l => .inr (p, l)
  | f + 1, p, l => if op p = 0 then .inr (p, l) else bnd (item (nx n X p) l) (fun q => rep n X op item f q.1 (q.2 ++ [op p]))
def opT (n : Nat) (X : Nat → Nat) (p : Nat) : Nat := if tc n X p = 20 then 12 else 0
def opS (n : Nat) (X : Nat → Nat) (p : Nat) : Nat := if tc n X p = 18 then 10 else if tc n X p = 19 then 11 else 0
def opB (n : Nat) (X : Nat → Nat) (p : Nat) : Nat := if tc n X p = 25 then 16 else 0
def opO (n : Nat) (X : Nat → Nat) (p : Nat) : Nat := if tc n X p = 26 then 17 else 0
def atomG (n : Nat) (X : Nat → Nat) (np nd : Nat) (par : Nat → List Nat → Rz) (p : Nat) (l : List Nat) : Rz :=
  if tc n X p = 15 then bnd (num n X 0 (np - 1) (nx n X p)) (fun a => bnd (num n X 0 (nd - 1) a.1) (fun d => .inr (d.1, l ++ [100 + nd * a.2 + d.2])))
  else if tc n X p = 17 then bnd (num n X 0 (np - 1) (nx n X p)) (fun a => .inr (a.1, l ++ [200 + a.2]))
  else if tc n X p = 16 then bnd (num n X 0 (nd - 1) (nx n X p)) (fun a => .inr (a.1, l ++ [300 + a.2]))
  else if tc n X p = 14 then .inr (nx n X p, l ++ [400])
  else if tc n X p = 13 then par p l
  else if tc n X p = 40 then .inr (nx n X p, l ++ [1000 + vl n X p])
  else .inl (flt n X 2 p)
def termG (n : Nat) (X : Nat → Nat) (np nd : Nat) (par : Nat → List Nat → Rz) (p : Nat) (l : List Nat) : Rz := bnd (atomG n X np nd par p l) (fun q => rep n X (opT n X) (atomG n X np nd par) 901 q.1 q.2)
def sumG (n : Nat) (X : Nat → Nat) (np nd : Nat) (par : Nat → List Nat → Rz) (p : Nat) (l : List Nat) : Rz := bnd (termG n X np nd par p l) (fun q => rep n X (opS n X) (termG n X np nd par) 901 q.1 q.2)
/- what must close -/
def cls (n : Nat) (X : Nat → Nat) (w : Nat) (r : Rz) : Rz := bnd r (fun q => if tc n X q.1 = w then .inr (nx n X q.1, q.2) else .inl (flt n X 2 q.1))
def parG (n : Nat) (X : Nat → Nat) (np nd : Nat) : Nat → Nat → List Nat → Rz
  | 0 => fun p _ => .inl (flt n X 4 p)
  | m + 1 => fun p l => cls n X 21 (sumG n X np nd (parG n X np nd m) (nx n X p) l)
def rSum (n : Nat) (X : Nat → Nat) (np nd m : Nat) (p : Nat) (l : List Nat) : Rz := sumG n X np nd (parG n X np nd m) p l
def opC (n : Nat) (X : Nat → Nat) (p : Nat) : Nat := if tc n X p = 22 then 13 else if tc n X p = 23 then 14 else if tc n X p = 24 then 15 else 0
def cmpG (n : Nat) (X : Nat → Nat) (sm : Nat → List Nat → Rz) (p : Nat) (l : List Nat) : Rz := bnd (sm p l) (fun q => if opC n X q.1 = 0 then .inl (flt n X 2 q.1) else bnd (sm (nx n X q.1) q.2) (fun r => .inr (r.1, r.2 ++ [opC n X q.1])))
def bothG (n : Nat) (X : Nat → Nat) (u : Nat → List Nat → Rz) (p : Nat) (l : List Nat) : Rz := bnd (u p l) (fun q => rep n X (opB n X) u 901 q.1 q.2)
def truthG (n : Nat) (X : Nat → Nat) (u : Nat → List Nat → Rz) (p : Nat) (l : List Nat) : Rz := bnd (bothG n X u p l) (fun q => rep n X (opO n X) (bothG n X u) 901 q.1 q.2)
def rUnit (n : Nat) (X : Nat → Nat) (np nd : Nat) : Nat → Nat → List Nat → Rz
  | 0 => fun p l => if tc n X p = 11 then .inl (flt n X 4 p) else if tc n X p = 12 then .inl (flt n X 4 p) else cmpG n X (rSum n X np nd 0) p l
  | m + 1 => fun p l => if tc n X p = 11 then bnd (rUnit n X np nd m (nx n X p) l) (fun q => .inr (q.1, q.2 ++ [18])) else if tc n X p = 12 then cls n X 27 (truthG n X (rUnit n X np nd m) (nx n X p) l) else cmpG n X (rSum n X np nd (m + 1)) p l
def rTruth (n : Nat) (X : Nat → Nat) (np nd m : Nat) (p : Nat) (l : List Nat) : Rz := truthG n X (rUnit n X np nd m) p l

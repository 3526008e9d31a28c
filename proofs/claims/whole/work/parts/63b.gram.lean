/-! ===== what the grammar gives: onward, typed ===== -/
def sOk (np nd s : Nat) : Prop := (10 ≤ s ∧ s ≤ 18) ∨ (100 ≤ s ∧ s < 100 + np * nd) ∨ (200 ≤ s ∧ s < 200 + np) ∨ (300 ≤ s ∧ s < 300 + nd) ∨ s = 400 ∨ (1000 ≤ s ∧ s < 2000)
def Gd (n np nd : Nat) (t : Bool) (b : Nat) (r : Rz) (p : Nat) (l : List Nat) : Prop := match r with
  | .inl e => 1 ≤ e.1 ∧ e.1 ≤ 4
  | .inr q => p < q.1 ∧ q.1 ≤ n ∧ ∃ D, q.2 = l ++ D ∧ D.length + p ≤ q.1 ∧ (∀ s, s ∈ D → sOk np nd s) ∧ ∀ st : List Bool, st.length + b ≤ 64 → tyr D st = some (t :: st)
set_option maxRecDepth 16384 in
theorem gd_mono {n np nd : Nat} {t : Bool} {b b' : Nat} {r : Rz} {p : Nat} {l : List Nat} (h : b ≤ b') (g : Gd n np nd t b r p l) : Gd n np nd t b' r p l := by
  cases r with
  | inl e => exact g
  | inr q =>
    obtain ⟨g1, g2, D, g3, g4, g5, g6⟩ := g
    exact ⟨g1, g2, D, g3, g4, g5, fun st hs => g6 st (by omega)⟩
set_option maxRecDepth 16384 in
theorem flt_ok {n : Nat} {X : Nat → Nat} {k p : Nat} (h1 : 1 ≤ k) (h2 : k ≤ 4) : 1 ≤ (flt n X k p).1 ∧ (flt n X k p).1 ≤ 4 := by
  unfold flt
  dsimp only
  split
  · omega
  · exact ⟨h1, h2⟩
set_option maxRecDepth 16384 in
theorem tyr_app : ∀ (A B : List Nat) (st : List Bool), tyr (A ++ B) st = (tyr A st).bind (tyr B)
  | [], B, st => rfl
  | s :: A, B, st => by
    rw [List.cons_append, tyr, tyr]
    cases h : ty1 s st with
    | none => rfl
    | some st' => exact tyr_app A B st'
set_option maxRecDepth 16384 in
theorem tyr_one {s : Nat} {st : List Bool} : tyr [s] st = ty1 s st := by
  rw [tyr]
  cases ty1 s st <;> rfl
set_option maxRecDepth 16384 in
theorem ty_push {s : Nat} {st : List Bool} (h : 100 ≤ s) (hs : st.length < 64) : ty1 s st = some (false :: st) := by
  unfold ty1
  rw [if_pos h, if_pos hs]
set_option maxRecDepth 16384 in
theorem ty_ar {s : Nat} {st : List Bool} (h : s = 10 ∨ s = 11 ∨ s = 12) : ty1 s (false :: false :: st) = some (false :: st) := by
  rcases h with rfl | rfl | rfl <;> rfl
set_option maxRecDepth 16384 in
theorem ty_cm {s : Nat} {st : List Bool} (h : s = 13 ∨ s = 14 ∨ s = 15) : ty1 s (false :: false :: st) = some (true :: st) := by
  rcases h with rfl | rfl | rfl <;> rfl
set_option maxRecDepth 16384 in
theorem ty_lo {s : Nat} {st : List Bool} (h : s = 16 ∨ s = 17) : ty1 s (true :: true :: st) = some (true :: st) := by
  rcases h with rfl | rfl <;> rfl
set_option maxRecDepth 16384 in
theorem ty_no {st : List Bool} : ty1 18 (true :: st) = some (true :: st) := rfl
/- one step behind -/
set_option maxRecDepth 16384 in
theorem gd_one {n np nd s p p0 : Nat} {l : List Nat} (h1 : p0 < p) (h2 : p ≤ n) (hs : sOk np nd s) (h100 : 100 ≤ s) : Gd n np nd false 1 (.inr (p, l ++ [s])) p0 l :=
  ⟨h1, h2, [s], rfl, by simp only [List.length_singleton]; omega, fun x hx => by rw [List.mem_singleton.mp hx]; exact hs, fun st hst => by rw [tyr_one]; exact ty_push h100 (by omega)⟩
set_option maxRecDepth 16384 in
theorem num_ok {n : Nat} {X : Nat → Nat} {lo hi p : Nat} : (∃ e, num n X lo hi p = .inl e ∧ 1 ≤ e.1 ∧ e.1 ≤ 4) ∨ (num n X lo hi p = .inr (nx n X p, vl n X p) ∧ tc n X p = 40 ∧ lo ≤ vl n X p ∧ vl n X p ≤ hi) := by
  unfold num
  by_cases c : tc n X p = 40
  · rw [if_pos c]
    by_cases d : lo ≤ vl n X p ∧ vl n X p ≤ hi
    · rw [if_pos d]
      exact Or.inr ⟨rfl, c, d.1, d.2⟩
    · rw [if_neg d]
      exact Or.inl ⟨_, rfl, by show 1 ≤ 3; decide, by show 3 ≤ 4; decide⟩
  · rw [if_neg c]
    exact Or.inl ⟨_, rfl, flt_ok (by decide) (by decide)⟩
set_option maxRecDepth 16384 in
theorem cell_lt {np nd a d : Nat} (ha : a < np) (hd : d < nd) : nd * a + d < np * nd := by
  have : nd * (a + 1) ≤ nd * np := Nat.mul_le_mul_left _ ha
  rw [Nat.mul_add, Nat.mul_one, Nat.mul_comm nd np] at this
  omega
/- values of numbers stay below 1000 -/
def VL (n : Nat) (X : Nat → Nat) : Prop := ∀ p, tc n X p = 40 → vl n X p ≤ 999
set_option maxRecDepth 16384 in
theorem gd_atom {n np nd b : Nat} {X : Nat → Nat} {par : Nat → List Nat → Rz} (hv : VL n X) (h1 : 1 ≤ np) (h2 : 1 ≤ nd) (hb : 1 ≤ b) (hp : ∀ p l, p ≤ n → tc n X p = 13 → Gd n np nd false b (par p l) p l) {p : Nat} {l : List Nat} (hpn : p ≤ n) : Gd n np nd false b (atomG n X np nd par p l) p l := by
  unfold atomG
  by_cases c1 : tc n X p = 15
  · rw [if_pos c1]
    have t1 := tc_nx (X := X) (b := p) (n := n) (by omega)
    rcases num_ok (n := n) (X := X) (lo := 0) (hi := np - 1) (p := nx n X p) with ⟨e, q, q1⟩ | ⟨q, q1, q2, q3⟩
    · rw [q]
      exact q1
    · rw [q]
      have t2 := tc_nx (X := X) (b := nx n X p) (n := n) (by omega)
      show Gd n np nd false b (bnd (num n X 0 (nd - 1) (nx n X (nx n X p))) _) p l
      rcases num_ok (n := n) (X := X) (lo := 0) (hi := nd - 1) (p := nx n X (nx n X p)) with ⟨e, r, r1⟩ | ⟨r, r1, r2, r3⟩
      · rw [r]
        exact r1
      · rw [r]
        have t3 := tc_nx (X := X) (b := nx n X (nx n X p)) (n := n) (by omega)
        have hc := cell_lt (np := np) (nd := nd) (a := vl n X (nx n X p)) (d := vl n X (nx n X (nx n X p))) (by omega) (by omega)
        show Gd n np nd false b (.inr (nx n X (nx n X (nx n X p)), l ++ [100 + nd * vl n X (nx n X p) + vl n X (nx n X (nx n X p))])) p l
        exact gd_mono hb (gd_one (by omega) (by omega) (Or.inr (Or.inl ⟨by omega, by omega⟩)) (by omega))
  · rw [if_neg c1]
    by_cases c2 : tc n X p = 17
    · rw [if_pos c2]
      have t1 := tc_nx (X := X) (b := p) (n := n) (by omega)
      rcases num_ok (n := n) (X := X) (lo := 0) (hi := np - 1) (p := nx n X p) with ⟨e, q, q1⟩ | ⟨q, q1, q2, q3⟩
      · rw [q]
        exact q1
      · rw [q]
        have t2 := tc_nx (X := X) (b := nx n X p) (n := n) (by omega)
        exact gd_mono hb (gd_one (by omega) (by omega) (Or.inr (Or.inr (Or.inl ⟨by omega, by omega⟩))) (by omega))
    · rw [if_neg c2]
      by_cases c3 : tc n X p = 16
      · rw [if_pos c3]
        have t1 := tc_nx (X := X) (b := p) (n := n) (by omega)
        rcases num_ok (n := n) (X := X) (lo := 0) (hi := nd - 1) (p := nx n X p) with ⟨e, q, q1⟩ | ⟨q, q1, q2, q3⟩
        · rw [q]
          exact q1
        · rw [q]
          have t2 := tc_nx (X := X) (b := nx n X p) (n := n) (by omega)
          exact gd_mono hb (gd_one (by omega) (by omega) (Or.inr (Or.inr (Or.inr (Or.inl ⟨by omega, by omega⟩)))) (by omega))
      · rw [if_neg c3]
        by_cases c4 : tc n X p = 14
        · rw [if_pos c4]
          have t1 := tc_nx (X := X) (b := p) (n := n) (by omega)
          exact gd_mono hb (gd_one (by omega) (by omega) (Or.inr (Or.inr (Or.inr (Or.inr (Or.inl rfl))))) (by omega))
        · rw [if_neg c4]
          by_cases c5 : tc n X p = 13
          · rw [if_pos c5]
            exact hp p l hpn c5
          · rw [if_neg c5]
            by_cases c6 : tc n X p = 40
            · rw [if_pos c6]
              have t1 := tc_nx (X := X) (b := p) (n := n) (by omega)
              have hvp := hv p c6
              exact gd_mono hb (gd_one (by omega) (by omega) (Or.inr (Or.inr (Or.inr (Or.inr (Or.inr ⟨by omega, by omega⟩))))) (by omega))
            · rw [if_neg c6]
              exact flt_ok (by decide) (by decide)
set_option maxRecDepth 16384 in
theorem gd_rep {n np nd b : Nat} {X : Nat → Nat} {t : Bool} {op : Nat → Nat} {item : Nat → List Nat → Rz} (hop : ∀ p, op p ≠ 0 → tc n X p ≠ 0 ∧ (10 ≤ op p ∧ op p ≤ 18) ∧ ∀ st, ty1 (op p) (t :: t :: st) = some (t :: st)) (hi : ∀ p l, p ≤ n → Gd n np nd t b (item p l) p l) : ∀ f p l p0 l0, Gd n np nd t (b + 1) (.inr (p, l)) p0 l0 → Gd n np nd t (b + 1) (rep n X op item f p l) p0 l0
  | 0, p, l, p0, l0, g => by rw [rep]; exact g
  | f + 1, p, l, p0, l0, g => by
    rw [rep]
    by_cases c : op p = 0
    · rw [if_pos c]
      exact g
    · rw [if_neg c]
      obtain ⟨o1, o2, o3⟩ := hop p c
      have t1 := tc_nx o1
      have hit := hi (nx n X p) l t1.2
      cases hq : item (nx n X p) l with
      | inl e =>
        rw [hq] at hit
        exact hit
      | inr q =>
        rw [hq] at hit
        show Gd n np nd t (b + 1) (rep n X op item f q.1 (q.2 ++ [op p])) p0 l0
        refine gd_rep hop hi f q.1 (q.2 ++ [op p]) p0 l0 ?_
        obtain ⟨g1, g2, D, g3, g4, g5, g6⟩ := g
        obtain ⟨i1, i2, E, i3, i4, i5, i6⟩ := hit
        have g3 : l = l0 ++ D := g3
        refine ⟨by show p0 < q.1; have : p0 < p := g1; omega, i2, D ++ (E ++ [op p]), ?_, ?_, fun s hs => ?_, fun st hst => ?_⟩
        · show q.2 ++ [op p] = _
          rw [i3, g3, List.append_assoc, List.append_assoc]
        · simp only [List.length_append, List.length_singleton]
          have : D.length + p0 ≤ p := g4
          have : p0 < p := g1
          show D.length + (E.length + 1) + p0 ≤ q.1
          omega
        · rcases List.mem_append.mp hs with hs | hs
          · exact g5 s hs
          · rcases List.mem_append.mp hs with hs | hs
            · exact i5 s hs
            · rw [List.mem_singleton.mp hs]
              exact Or.inl o2
        · rw [tyr_app, g6 st (by omega)]
          show tyr (E ++ [op p]) (t :: st) = _
          rw [tyr_app, i6 (t :: st) (by simp only [List.length_cons]; omega)]
          show tyr [op p] (t :: t :: st) = _
          rw [tyr_one]
          exact o3 st
set_option maxRecDepth 16384 in
theorem gd_bnd {n np nd : Nat} {t : Bool} {b b' : Nat} {r : Rz} {p : Nat} {l : List Nat} {f : Nat × List Nat → Rz} (g : Gd n np nd t b r p l) (hf : ∀ q, Gd n np nd t b (.inr q) p l → Gd n np nd t b' (f q) p l) : Gd n np nd t b' (bnd r f) p l := by
  cases r with
  | inl e => exact g
  | inr q => exact hf q g
set_option maxRecDepth 16384 in
theorem opT_ok {n : Nat} {X : Nat → Nat} (p : Nat) (h : opT n X p ≠ 0) : tc n X p ≠ 0 ∧ (10 ≤ opT n X p ∧ opT n X p ≤ 18) ∧ ∀ st, ty1 (opT n X p) (false :: false :: st) = some (false :: st) := by
  unfold opT at h ⊢
  by_cases c : tc n X p = 20
  · rw [if_pos c]
    exact ⟨by omega, by omega, fun st => ty_ar (by omega)⟩
  · rw [if_neg c] at h
    exact absurd rfl h
set_option maxRecDepth 16384 in
theorem opS_ok {n : Nat} {X : Nat → Nat} (p : Nat) (h : opS n X p ≠ 0) : tc n X p ≠ 0 ∧ (10 ≤ opS n X p ∧ opS n X p ≤ 18) ∧ ∀ st, ty1 (opS n X p) (false :: false :: st) = some (false :: st) := by
  unfold opS at h ⊢
  by_cases c : tc n X p = 18
  · rw [if_pos c]
    exact ⟨by omega, by omega, fun st => ty_ar (by omega)⟩
  · rw [if_neg c] at h ⊢
    by_cases c2 : tc n X p = 19
    · rw [if_pos c2]
      exact ⟨by omega, by omega, fun st => ty_ar (by omega)⟩
    · rw [if_neg c2] at h
      exact absurd rfl h
set_option maxRecDepth 16384 in
theorem opB_ok {n : Nat} {X : Nat → Nat} (p : Nat) (h : opB n X p ≠ 0) : tc n X p ≠ 0 ∧ (10 ≤ opB n X p ∧ opB n X p ≤ 18) ∧ ∀ st, ty1 (opB n X p) (true :: true :: st) = some (true :: st) := by
  unfold opB at h ⊢
  by_cases c : tc n X p = 25
  · rw [if_pos c]
    exact ⟨by omega, by omega, fun st => ty_lo (by omega)⟩
  · rw [if_neg c] at h
    exact absurd rfl h
set_option maxRecDepth 16384 in
theorem opO_ok {n : Nat} {X : Nat → Nat} (p : Nat) (h : opO n X p ≠ 0) : tc n X p ≠ 0 ∧ (10 ≤ opO n X p ∧ opO n X p ≤ 18) ∧ ∀ st, ty1 (opO n X p) (true :: true :: st) = some (true :: st) := by
  unfold opO at h ⊢
  by_cases c : tc n X p = 26
  · rw [if_pos c]
    exact ⟨by omega, by omega, fun st => ty_lo (by omega)⟩
  · rw [if_neg c] at h
    exact absurd rfl h
set_option maxRecDepth 16384 in
theorem opC_ok {n : Nat} {X : Nat → Nat} {p : Nat} (h : opC n X p ≠ 0) : tc n X p ≠ 0 ∧ (opC n X p = 13 ∨ opC n X p = 14 ∨ opC n X p = 15) := by
  unfold opC at h ⊢
  by_cases c : tc n X p = 22
  · rw [if_pos c]
    exact ⟨by omega, by omega⟩
  · rw [if_neg c] at h ⊢
    by_cases c2 : tc n X p = 23
    · rw [if_pos c2]
      exact ⟨by omega, by omega⟩
    · rw [if_neg c2] at h ⊢
      by_cases c3 : tc n X p = 24
      · rw [if_pos c3]
        exact ⟨by omega, by omega⟩
      · rw [if_neg c3] at h
        exact absurd rfl h
set_option maxRecDepth 16384 in
theorem gd_sum {n np nd b : Nat} {X : Nat → Nat} {par : Nat → List Nat → Rz} (hv : VL n X) (h1 : 1 ≤ np) (h2 : 1 ≤ nd) (hb : 1 ≤ b) (hp : ∀ p l, p ≤ n → tc n X p = 13 → Gd n np nd false b (par p l) p l) {p : Nat} {l : List Nat} (hpn : p ≤ n) : Gd n np nd false (b + 2) (sumG n X np nd par p l) p l := by
  have ht : ∀ p l, p ≤ n → Gd n np nd false (b + 1) (termG n X np nd par p l) p l := fun p l hpn => by
    unfold termG
    exact gd_bnd (gd_atom hv h1 h2 hb hp hpn) (fun q g => gd_rep opT_ok (fun p l hp' => gd_atom hv h1 h2 hb hp hp') 901 q.1 q.2 p l (gd_mono (by omega) g))
  unfold sumG
  exact gd_bnd (ht p l hpn) (fun q g => gd_rep opS_ok ht 901 q.1 q.2 p l (gd_mono (by omega) g))
/- behind an opening token, up to its closing one -/
set_option maxRecDepth 16384 in
theorem gd_cls {n np nd b w : Nat} {X : Nat → Nat} {t : Bool} {r : Rz} {p p1 : Nat} {l : List Nat} (hw : w ≠ 0) (hp : p < p1) (g : Gd n np nd t b r p1 l) : Gd n np nd t b (cls n X w r) p l := by
  unfold cls
  cases r with
  | inl e => exact g
  | inr q =>
    obtain ⟨g1, g2, D, g3, g4, g5, g6⟩ := g
    show Gd n np nd t b (if tc n X q.1 = w then _ else _) p l
    by_cases c : tc n X q.1 = w
    · rw [if_pos c]
      have t1 := tc_nx (X := X) (b := q.1) (n := n) (by omega)
      exact ⟨by show p < nx n X q.1; omega, t1.2, D, g3, by show D.length + p ≤ nx n X q.1; omega, g5, g6⟩
    · rw [if_neg c]
      exact flt_ok (by decide) (by decide)
set_option maxRecDepth 16384 in
theorem gd_par {n np nd : Nat} {X : Nat → Nat} (hv : VL n X) (h1 : 1 ≤ np) (h2 : 1 ≤ nd) : ∀ m p l, p ≤ n → tc n X p = 13 → Gd n np nd false (1 + 2 * m) (parG n X np nd m p l) p l
  | 0, p, l, _, _ => by
    unfold parG
    exact flt_ok (by decide) (by decide)
  | m + 1, p, l, hp, hc => by
    unfold parG
    have t1 := tc_nx (X := X) (b := p) (n := n) (by omega)
    refine gd_cls (by decide) t1.1 ?_
    exact gd_mono (by omega) (gd_sum hv h1 h2 (b := 1 + 2 * m) (by omega) (gd_par hv h1 h2 m) t1.2)
set_option maxRecDepth 16384 in
theorem gd_rSum {n np nd : Nat} {X : Nat → Nat} (hv : VL n X) (h1 : 1 ≤ np) (h2 : 1 ≤ nd) (m : Nat) {p : Nat} {l : List Nat} (hp : p ≤ n) : Gd n np nd false (3 + 2 * m) (rSum n X np nd m p l) p l := by
  unfold rSum
  exact gd_mono (by omega) (gd_sum hv h1 h2 (b := 1 + 2 * m) (by omega) (gd_par hv h1 h2 m) hp)
set_option maxRecDepth 16384 in
theorem gd_cmp {n np nd b : Nat} {X : Nat → Nat} {sm : Nat → List Nat → Rz} (hs : ∀ p l, p ≤ n → Gd n np nd false b (sm p l) p l) {p : Nat} {l : List Nat} (hp : p ≤ n) : Gd n np nd true (b + 1) (cmpG n X sm p l) p l := by
  unfold cmpG
  have g := hs p l hp
  cases hq : sm p l with
  | inl e =>
    rw [hq] at g
    exact g
  | inr q =>
    rw [hq] at g
    obtain ⟨g1, g2, D, g3, g4, g5, g6⟩ := g
    show Gd n np nd true (b + 1) (if opC n X q.1 = 0 then _ else _) p l
    by_cases c : opC n X q.1 = 0
    · rw [if_pos c]
      exact flt_ok (by decide) (by decide)
    · rw [if_neg c]
      obtain ⟨o1, o2⟩ := opC_ok c
      have t1 := tc_nx o1
      have g' := hs (nx n X q.1) q.2 t1.2
      cases hr : sm (nx n X q.1) q.2 with
      | inl e =>
        rw [hr] at g'
        exact g'
      | inr r =>
        rw [hr] at g'
        obtain ⟨i1, i2, E, i3, i4, i5, i6⟩ := g'
        refine ⟨by show p < r.1; omega, i2, D ++ (E ++ [opC n X q.1]), ?_, ?_, fun s hs' => ?_, fun st hst => ?_⟩
        · show r.2 ++ [opC n X q.1] = _
          rw [i3, g3, List.append_assoc, List.append_assoc]
        · simp only [List.length_append, List.length_singleton]
          show D.length + (E.length + 1) + p ≤ r.1
          omega
        · rcases List.mem_append.mp hs' with hs' | hs'
          · exact g5 s hs'
          · rcases List.mem_append.mp hs' with hs' | hs'
            · exact i5 s hs'
            · rw [List.mem_singleton.mp hs']
              exact Or.inl (by omega)
        · rw [tyr_app, g6 st (by omega)]
          show tyr (E ++ [opC n X q.1]) (false :: st) = _
          rw [tyr_app, i6 (false :: st) (by simp only [List.length_cons]; omega)]
          show tyr [opC n X q.1] (false :: false :: st) = _
          rw [tyr_one]
          exact ty_cm o2
set_option maxRecDepth 16384 in
theorem gd_truth {n np nd b : Nat} {X : Nat → Nat} {u : Nat → List Nat → Rz} (hu : ∀ p l, p ≤ n → Gd n np nd true b (u p l) p l) {p : Nat} {l : List Nat} (hp : p ≤ n) : Gd n np nd true (b + 2) (truthG n X u p l) p l := by
  have hb : ∀ p l, p ≤ n → Gd n np nd true (b + 1) (bothG n X u p l) p l := fun p l hp' => by
    unfold bothG
    exact gd_bnd (hu p l hp') (fun q g => gd_rep opB_ok hu 901 q.1 q.2 p l (gd_mono (by omega) g))
  unfold truthG
  exact gd_bnd (hb p l hp) (fun q g => gd_rep opO_ok hb 901 q.1 q.2 p l (gd_mono (by omega) g))
set_option maxRecDepth 16384 in
theorem gd_unit {n np nd : Nat} {X : Nat → Nat} (hv : VL n X) (h1 : 1 ≤ np) (h2 : 1 ≤ nd) : ∀ m p l, p ≤ n → Gd n np nd true (4 + 2 * m) (rUnit n X np nd m p l) p l
  | 0, p, l, hp => by
    unfold rUnit
    by_cases c1 : tc n X p = 11
    · rw [if_pos c1]
      exact flt_ok (by decide) (by decide)
    · rw [if_neg c1]
      by_cases c2 : tc n X p = 12
      · rw [if_pos c2]
        exact flt_ok (by decide) (by decide)
      · rw [if_neg c2]
        exact gd_cmp (b := 3) (fun p l hp' => gd_rSum hv h1 h2 0 hp') hp
  | m + 1, p, l, hp => by
    unfold rUnit
    by_cases c1 : tc n X p = 11
    · rw [if_pos c1]
      have t1 := tc_nx (X := X) (b := p) (n := n) (by omega)
      have g := gd_unit hv h1 h2 m (nx n X p) l t1.2
      cases hq : rUnit n X np nd m (nx n X p) l with
      | inl e =>
        rw [hq] at g
        exact g
      | inr q =>
        rw [hq] at g
        obtain ⟨g1, g2, D, g3, g4, g5, g6⟩ := g
        refine ⟨by show p < q.1; omega, g2, D ++ [18], ?_, ?_, fun s hs => ?_, fun st hst => ?_⟩
        · show q.2 ++ [18] = _
          rw [g3, List.append_assoc]
        · simp only [List.length_append, List.length_singleton]
          show D.length + 1 + p ≤ q.1
          omega
        · rcases List.mem_append.mp hs with hs | hs
          · exact g5 s hs
          · rw [List.mem_singleton.mp hs]
            exact Or.inl (by omega)
        · rw [tyr_app, g6 st (by omega)]
          show tyr [18] (true :: st) = _
          rw [tyr_one]
          exact ty_no
    · rw [if_neg c1]
      by_cases c2 : tc n X p = 12
      · rw [if_pos c2]
        have t1 := tc_nx (X := X) (b := p) (n := n) (by omega)
        exact gd_cls (by decide) t1.1 (gd_mono (by omega) (gd_truth (gd_unit hv h1 h2 m) t1.2))
      · rw [if_neg c2]
        exact gd_mono (by omega) (gd_cmp (b := 3 + 2 * (m + 1)) (fun p l hp' => gd_rSum hv h1 h2 (m + 1) hp') hp)
set_option maxRecDepth 16384 in
theorem gd_rTruth {n np nd : Nat} {X : Nat → Nat} (hv : VL n X) (h1 : 1 ≤ np) (h2 : 1 ≤ nd) (m : Nat) {p : Nat} {l : List Nat} (hp : p ≤ n) : Gd n np nd true (6 + 2 * m) (rTruth n X np nd m p l) p l := by
  unfold rTruth
  exact gd_mono (by omega) (gd_truth (gd_unit hv h1 h2 m) hp)

/-! ===== brackets, comparisons, units, truths ===== -/
set_option maxRecDepth 16384 in
theorem au_par {n : Nat} {X : Nat → Nat} {np nd p cm : Nat} {W C : List Nat} (hA : nA n X p) (hc : 0 < c0 W) : AU n X np nd 3 p W C cm = if tc n X p = 21 then closeA n X 0 3 p W C cm else .inl (flt n X 2 p) := by
  unfold AU
  obtain ⟨a1, a2, a3⟩ := hA
  rw [if_neg (by decide), if_neg (fun z => by omega), if_pos ⟨rfl, hc⟩]
set_option maxRecDepth 16384 in
theorem closeA_ok {n : Nat} {X : Nat → Nat} {code next p cm : Nat} {V W C : List Nat} (hV : ∀ v, v ∈ V → 1 ≤ tgh v) (hc : tgh code < 1) : closeA n X code next p (V ++ code :: W) C cm = .inr (next, nx n X p, W, C ++ V.map (fun v => v * 4096), cm) := by
  unfold closeA
  rw [stl_app V (code :: W) C hV hc]
  exact if_pos rfl
set_option maxRecDepth 16384 in
theorem big_par {n : Nat} {X : Nat → Nat} {np nd : Nat} (hn9 : n ≤ 900) (hv : VL n X) (h1 : 1 ≤ np) (h2 : 1 ≤ nd) : ∀ m st p l W C cm, st = 1 ∨ st = 2 → p ≤ n → tc n X p = 13 → cO W + m = 6 → Big n X np nd 7 (G3 (if st = 1 then 0 else cm)) (st, p, W, C, cm) (parG n X np nd m p l) l W C := by
  intro m
  induction m with
  | zero =>
    intro st p l W C cm hst hp hc hO
    have hau : AUc n X np nd (st, p, W, C, cm) = .inl (flt n X 4 p) := by
      show AU n X np nd st p W C cm = _
      unfold AU
      rw [if_pos hst, if_neg (fun z => by omega), if_neg (fun z => by omega), if_pos hc]
      unfold opnA
      rw [if_neg (by omega)]
    unfold parG
    exact ⟨0, _, rfl, hau⟩
  | succ m ih =>
    intro st p l W C cm hst hp hc hO
    have hnx := tc_nx (X := X) (b := p) (n := n) (by omega)
    have hau : AUc n X np nd (st, p, W, C, cm) = .inr (2, nx n X p, 0 :: W, C, if st = 1 then 0 else cm) := by
      show AU n X np nd st p W C cm = _
      unfold AU
      rw [if_pos hst, if_neg (fun z => by omega), if_neg (fun z => by omega), if_pos hc]
      unfold opnA
      rw [if_pos (by omega)]
    unfold parG
    refine Big_pre (i := 1) (d := (2, nx n X p, 0 :: W, C, if st = 1 then 0 else cm)) (by rw [iter_1 hau]; rfl) ?_
    generalize (if st = 1 then 0 else cm) = cm' at *
    have hO1 : cO (0 :: W) + m = 6 := by
      unfold cO at hO ⊢
      rw [List.countP_cons_of_pos (by decide)]
      omega
    have hs := big_sum (np := np) (nd := nd) (b := 1 + 2 * m) (par := parG n X np nd m) (W0 := 0 :: W) (st := 2) (p := nx n X p) (cm := cm') (l := l) (W := 0 :: W) (C := C) hn9 hv h1 h2 (by omega) (gd_par hv h1 h2 m) (fun st p l W' C cm a b c d => ih st p l W' C cm a b c (by omega)) (Or.inr rfl) (fun z => by omega) hnx.2 (by show tgh 0 < 5; decide) rfl
    rw [if_neg (show ¬ (2 = 1) by decide)] at hs
    unfold cls

    cases hq : sumG n X np nd (parG n X np nd m) (nx n X p) l with
    | inl e =>
      rw [hq] at hs
      exact hs
    | inr q =>
      rw [hq] at hs
      obtain ⟨j, st', V, C2, cm2, D, i1, ⟨⟨g1, g2⟩, g3⟩, i3, i4, i5⟩ := hs
      subst g1
      subst g2
      have hc0 : 0 < c0 (V ++ 0 :: W) := by
        rw [c0_app (fun v hv => by have := i5 v hv; omega)]
        unfold c0
        rw [List.countP_cons_of_pos (by decide)]
        omega
      have hau2 := au_par (np := np) (nd := nd) (cm := cm2) (C := C2) g3 hc0
      show Big n X np nd 7 (G3 cm2) _ (if tc n X q.1 = 21 then .inr (nx n X q.1, q.2) else .inl (flt n X 2 q.1)) l W C
      by_cases c21 : tc n X q.1 = 21
      · rw [if_pos c21] at hau2 ⊢
        rw [closeA_ok (fun v hv => by have := i5 v hv; omega) (by decide), i4] at hau2
        have hau2 : AUc n X np nd (3, q.1, V ++ 0 :: W, C2, cm2) = .inr (3, nx n X q.1, W, C ++ D.map (eN np nd), cm2) := hau2
        refine ⟨j + 1, 3, [], C ++ D.map (eN np nd), cm2, D, ?_, ⟨rfl, rfl⟩, i3, by simp, fun v hv => absurd hv (by simp)⟩
        rw [iter_add j _ i1, iter_1 hau2]
        rfl
      · rw [if_neg c21] at hau2 ⊢
        exact ⟨j, _, i1, hau2⟩
set_option maxRecDepth 16384 in
theorem big_rSum {n : Nat} {X : Nat → Nat} {np nd : Nat} (hn9 : n ≤ 900) (hv : VL n X) (h1 : 1 ≤ np) (h2 : 1 ≤ nd) {m st p cm : Nat} {l W C : List Nat} (hst : st = 1 ∨ st = 2) (h11 : st = 1 → tc n X p ≠ 11 ∧ tc n X p ≠ 12) (hp : p ≤ n) (hW : tlt 5 W) (hO : cO W + m = 6) : Big n X np nd 5 (fun a c q => G3 (if st = 1 then 0 else cm) a c q ∧ nA n X q) (st, p, W, C, cm) (rSum n X np nd m p l) l W C := by
  unfold rSum
  exact big_sum (b := 1 + 2 * m) (W0 := W) hn9 hv h1 h2 (by omega) (gd_par hv h1 h2 m) (fun st p l W' C cm a b c d => big_par hn9 hv h1 h2 m st p l W' C cm a b c (by omega)) hst h11 hp hW rfl
def GU (n : Nat) (X : Nat → Nat) (st c p : Nat) : Prop := (st = 3 ∧ c = 1 ∧ nA n X p) ∨ st = 4
set_option maxRecDepth 16384 in
theorem opC_0 {n : Nat} {X : Nat → Nat} {p : Nat} : opC n X p = 0 ↔ ¬ (tc n X p = 22 ∨ tc n X p = 23 ∨ tc n X p = 24) := by
  unfold opC
  by_cases c : tc n X p = 22
  · rw [if_pos c]
    exact ⟨fun h => by omega, fun h => absurd (Or.inl c) h⟩
  · rw [if_neg c]
    by_cases c2 : tc n X p = 23
    · rw [if_pos c2]
      exact ⟨fun h => by omega, fun h => absurd (Or.inr (Or.inl c2)) h⟩
    · rw [if_neg c2]
      by_cases c3 : tc n X p = 24
      · rw [if_pos c3]
        exact ⟨fun h => by omega, fun h => absurd (Or.inr (Or.inr c3)) h⟩
      · rw [if_neg c3]
        exact ⟨fun _ => by omega, fun _ => rfl⟩
set_option maxRecDepth 16384 in
theorem opC_c {n : Nat} {X : Nat → Nat} {np nd p : Nat} (h : tc n X p = 22 ∨ tc n X p = 23 ∨ tc n X p = 24) : eN np nd (opC n X p) = (tc n X p - 17) * 4096 ∧ tgh (tc n X p - 17) = 4 ∧ tc n X p - 17 ≠ 0 ∧ tc n X p - 17 ≠ 1 ∧ tc n X p - 17 ≠ 4 := by
  unfold opC
  rcases h with c | c | c
  · rw [if_pos c, c, eN_op ⟨by omega, by omega⟩]
    exact ⟨rfl, rfl, by decide, by decide, by decide⟩
  · rw [if_neg (by omega), if_pos c, c, eN_op ⟨by omega, by omega⟩]
    exact ⟨rfl, rfl, by decide, by decide, by decide⟩
  · rw [if_neg (by omega), if_neg (by omega), if_pos c, c, eN_op ⟨by omega, by omega⟩]
    exact ⟨rfl, rfl, by decide, by decide, by decide⟩
set_option maxRecDepth 16384 in
theorem big_cmp {n : Nat} {X : Nat → Nat} {np nd : Nat} (hn9 : n ≤ 900) (hv : VL n X) (h1 : 1 ≤ np) (h2 : 1 ≤ nd) {m p cm : Nat} {l W C : List Nat} (h11 : tc n X p ≠ 11 ∧ tc n X p ≠ 12) (hp : p ≤ n) (hW : tlt 4 W) (hz : c0 W = 0) (hO : cO W + m = 6) : Big n X np nd 3 (GU n X) (1, p, W, C, cm) (cmpG n X (rSum n X np nd m) p l) l W C := by
  have hs := big_rSum (np := np) (nd := nd) (m := m) (st := 1) (p := p) (cm := cm) (l := l) (W := W) (C := C) hn9 hv h1 h2 (Or.inl rfl) (fun _ => h11) hp (tlt_mono (by omega) hW) hO
  rw [if_pos (show 1 = 1 from rfl)] at hs
  have g0 := gd_rSum (l := l) hv h1 h2 m hp
  unfold cmpG
  refine Big_bnd hs (fun q st V C2 cm2 D hq hG hl hC hV => ?_)
  rw [hq] at g0
  obtain ⟨⟨g1, g2⟩, g3⟩ := hG
  subst g1
  subst g2
  have hc0 : c0 (V ++ W) = 0 := by
    rw [c0_app (fun v hv => by have := hV v hv; omega)]
    exact hz
  have hau : AU n X np nd 3 q.1 (V ++ W) C2 0 = if tc n X q.1 = 22 ∨ tc n X q.1 = 23 ∨ tc n X q.1 = 24 then joinA n X (tc n X q.1 - 17) 2 q.1 (V ++ W) C2 1 else .inl (flt n X 2 q.1) := by
    unfold AU
    obtain ⟨a1, a2, a3⟩ := g3
    rw [if_neg (by decide), if_neg (fun z => by omega), if_neg (fun z => by omega), if_pos ⟨rfl, rfl⟩]
  by_cases c : opC n X q.1 = 0
  · rw [if_pos c]
    rw [if_neg (opC_0.mp c)] at hau
    exact ⟨0, _, rfl, hau⟩
  · rw [if_neg c]
    have ht : tc n X q.1 = 22 ∨ tc n X q.1 = 23 ∨ tc n X q.1 = 24 := by
      rcases Classical.em (tc n X q.1 = 22 ∨ tc n X q.1 = 23 ∨ tc n X q.1 = 24) with z | z
      · exact z
      · exact absurd (opC_0.mpr z) c
    obtain ⟨o1, o2, o3, o4, o5⟩ := opC_c (np := np) (nd := nd) ht
    have hnx := tc_nx (X := X) (b := q.1) (n := n) (by omega)
    rw [if_pos ht] at hau
    unfold joinA at hau
    rw [o2, stl_app V W C2 (fun v hv => by have := hV v hv; omega) hW, hC] at hau
    have hau : AUc n X np nd (3, q.1, V ++ W, C2, 0) = .inr (2, nx n X q.1, (tc n X q.1 - 17) :: W, C ++ D.map (eN np nd), 1) := hau
    refine Big_pre (i := 1) (d := (2, nx n X q.1, (tc n X q.1 - 17) :: W, C ++ D.map (eN np nd), 1)) (by rw [iter_1 hau]; rfl) ?_
    have hO2 : cO ((tc n X q.1 - 17) :: W) + m = 6 := by
      unfold cO at hO ⊢
      rw [List.countP_cons_of_neg (by simp only [decide_eq_true_eq]; omega)]
      exact hO
    have hs2 := big_rSum (np := np) (nd := nd) (m := m) (st := 2) (p := nx n X q.1) (cm := 1) (l := q.2) (W := (tc n X q.1 - 17) :: W) (C := C ++ D.map (eN np nd)) hn9 hv h1 h2 (Or.inr rfl) (fun z => by omega) hnx.2 (by show tgh (tc n X q.1 - 17) < 5; omega) hO2
    rw [if_neg (show ¬ (2 = 1) by decide)] at hs2
    cases hr : rSum n X np nd m (nx n X q.1) q.2 with
    | inl e =>
      rw [hr] at hs2
      exact hs2
    | inr r =>
      rw [hr] at hs2
      obtain ⟨j, st', V2, C3, cm3, D2, i1, ⟨⟨g1, g2⟩, g4⟩, i3, i4, i5⟩ := hs2
      refine ⟨j, st', V2 ++ [tc n X q.1 - 17], C3, cm3, D ++ (D2 ++ [opC n X q.1]), ?_, Or.inl ⟨g1, g2, g4⟩, ?_, ?_, fun v hv => ?_⟩
      · rw [i1]
        simp
      · show r.2 ++ [opC n X q.1] = _
        rw [i3, hl]
        simp
      · rw [List.map_append, ← List.append_assoc, i4]
        simp [o1]
      · rcases List.mem_append.mp hv with hv | hv
        · have := i5 v hv
          omega
        · rw [List.mem_singleton.mp hv, o2]
          decide
set_option maxRecDepth 16384 in
theorem big_truth {n : Nat} {X : Nat → Nat} {np nd b : Nat} {u : Nat → List Nat → Rz} {W0 : List Nat} (hn9 : n ≤ 900) (gu : ∀ p l, p ≤ n → Gd n np nd true b (u p l) p l) (hu : ∀ p l W C cm, p ≤ n → tlt 4 W → c0 W = 0 → cO W = cO W0 → Big n X np nd 3 (GU n X) (1, p, W, C, cm) (u p l) l W C) {p cm : Nat} {l W C : List Nat} (hp : p ≤ n) (hW : tlt 1 W) (hz : c0 W = 0) (hO : cO W = cO W0) : Big n X np nd 1 (fun a c q => (GU n X a c q ∧ opB n X q = 0) ∧ opO n X q = 0) (1, p, W, C, cm) (truthG n X u p l) l W C := by
  have gb : ∀ p l, p ≤ n → Gd n np nd true (b + 1) (bothG n X u p l) p l := fun p l hpn => by
    unfold bothG
    exact gd_bnd (gu p l hpn) (fun q g => gd_rep opB_ok gu 901 q.1 q.2 p l (gd_mono (by omega) g))

  have hau : ∀ (st p : Nat) (W' C : List Nat) (cm : Nat), GU n X st cm p → c0 W' = 0 → (tc n X p = 25 → AU n X np nd st p W' C cm = joinA n X 3 1 p W' C cm) ∧ (tc n X p = 26 → AU n X np nd st p W' C cm = joinA n X 2 1 p W' C cm) := by
    intro st p W' C cm hG hc
    constructor
    · intro ht
      unfold AU
      rcases hG with ⟨g1, g2, g3⟩ | g1
      · rw [if_neg (by omega), if_neg (fun z => by omega), if_neg (fun z => by omega), if_neg (fun z => by omega), if_pos ht]
      · rw [if_neg (by omega), if_neg (fun z => by omega), if_neg (fun z => by omega), if_neg (fun z => by omega), if_pos ht]
    · intro ht
      unfold AU
      rcases hG with ⟨g1, g2, g3⟩ | g1
      · rw [if_neg (by omega), if_neg (fun z => by omega), if_neg (fun z => by omega), if_neg (fun z => by omega), if_neg (by omega), if_pos ht]
      · rw [if_neg (by omega), if_neg (fun z => by omega), if_neg (fun z => by omega), if_neg (fun z => by omega), if_neg (by omega), if_pos ht]
  have hboth : ∀ (p cm : Nat) (l W C : List Nat), p ≤ n → tlt 2 W → c0 W = 0 → cO W = cO W0 → Big n X np nd 2 (fun a c q => GU n X a c q ∧ opB n X q = 0) (1, p, W, C, cm) (bothG n X u p l) l W C := by
    intro p cm l W C hp hW hz hO
    have g0 := gu p l hp
    unfold bothG
    refine Big_bnd (hu p l W C cm hp (tlt_mono (by omega) hW) hz hO) (fun q st V C2 cm2 D hq hG hl hC hV => ?_)
    rw [hq] at g0
    refine big_rep (t := 2) (ti := 3) (nxt := 1) (G := GU n X) (op := opB n X) (code := fun _ => 3) hW (by omega) (fun p c => (opB_ok p c).1) gu (fun p c => ⟨rfl, ?_⟩) (fun st1 p1 W' C' cm1 hG1 c1 hW' => ?_) (fun p1 p0 l1 C1 cm1 c1 hp1 hG1 => ?_) 901 q.1 q.2 st V C2 cm2 D l C (by omega) g0.2.1 hG hl hC (fun v hv => by have := hV v hv; omega)
    · have : opB n X p = 16 := by
        unfold opB at c ⊢
        by_cases z : tc n X p = 25
        · rw [if_pos z]
        · rw [if_neg z] at c
          exact absurd rfl c
      rw [this, eN_op ⟨by omega, by omega⟩]
      rfl
    · have z : tc n X p1 = 25 := by
        rcases Classical.em (tc n X p1 = 25) with q | q
        · exact q
        · exact absurd (opB_0.mpr q) c1
      obtain ⟨V', rfl, hV'⟩ := hW'
      exact (hau st1 p1 (V' ++ W) C' cm1 hG1 (by rw [c0_app (fun v hv => by have := hV' v hv; omega)]; exact hz)).1 z
    · refine hu p1 l1 (3 :: W) C1 cm1 hp1 (by show tgh 3 < 4; decide) ?_ ?_
      · unfold c0 at hz ⊢
        rw [List.countP_cons_of_neg (by decide)]
        exact hz
      · rw [← hO]
        unfold cO
        rw [List.countP_cons_of_neg (by decide)]
  have g0 := gb p l hp
  unfold truthG
  refine Big_bnd (hboth p cm l W C hp (tlt_mono (by omega) hW) hz hO) (fun q st V C2 cm2 D hq hG hl hC hV => ?_)
  rw [hq] at g0
  refine big_rep (t := 1) (ti := 2) (nxt := 1) (G := fun a c q => GU n X a c q ∧ opB n X q = 0) (op := opO n X) (code := fun _ => 2) hW (by omega) (fun p c => (opO_ok p c).1) gb (fun p c => ⟨rfl, ?_⟩) (fun st1 p1 W' C' cm1 hG1 c1 hW' => ?_) (fun p1 p0 l1 C1 cm1 c1 hp1 hG1 => ?_) 901 q.1 q.2 st V C2 cm2 D l C (by omega) g0.2.1 hG hl hC (fun v hv => by have := hV v hv; omega)
  · have : opO n X p = 17 := by
      unfold opO at c ⊢
      by_cases z : tc n X p = 26
      · rw [if_pos z]
      · rw [if_neg z] at c
        exact absurd rfl c
    rw [this, eN_op ⟨by omega, by omega⟩]
    rfl
  · have z : tc n X p1 = 26 := by
      rcases Classical.em (tc n X p1 = 26) with q | q
      · exact q
      · exact absurd (opO_0.mpr q) c1
    obtain ⟨V', rfl, hV'⟩ := hW'
    exact (hau st1 p1 (V' ++ W) C' cm1 hG1.1 (by rw [c0_app (fun v hv => by have := hV' v hv; omega)]; exact hz)).2 z
  · refine hboth p1 cm1 l1 (2 :: W) C1 hp1 (by show tgh 2 < 2; decide) ?_ ?_
    · unfold c0 at hz ⊢
      rw [List.countP_cons_of_neg (by decide)]
      exact hz
    · rw [← hO]
      unfold cO
      rw [List.countP_cons_of_neg (by decide)]
set_option maxRecDepth 16384 in
theorem big_unit {n : Nat} {X : Nat → Nat} {np nd : Nat} (hn9 : n ≤ 900) (hv : VL n X) (h1 : 1 ≤ np) (h2 : 1 ≤ nd) : ∀ m p l W C cm, p ≤ n → tlt 4 W → c0 W = 0 → cO W + m = 6 → Big n X np nd 3 (GU n X) (1, p, W, C, cm) (rUnit n X np nd m p l) l W C := by
  intro m
  induction m with
  | zero =>
    intro p l W C cm hp hW hz hO
    unfold rUnit
    by_cases c11 : tc n X p = 11
    · rw [if_pos c11]
      refine ⟨0, _, rfl, ?_⟩
      show AU n X np nd 1 p W C cm = _
      unfold AU
      rw [if_pos (by omega), if_pos ⟨rfl, c11⟩]
      unfold opnA
      rw [if_neg (by omega)]
    · rw [if_neg c11]
      by_cases c12 : tc n X p = 12
      · rw [if_pos c12]
        refine ⟨0, _, rfl, ?_⟩
        show AU n X np nd 1 p W C cm = _
        unfold AU
        rw [if_pos (by omega), if_neg (fun z => by omega), if_pos ⟨rfl, c12⟩]
        unfold opnA
        rw [if_neg (by omega)]
      · rw [if_neg c12]
        exact big_cmp hn9 hv h1 h2 ⟨c11, c12⟩ hp hW hz hO
  | succ m ih =>
    intro p l W C cm hp hW hz hO
    unfold rUnit
    by_cases c11 : tc n X p = 11
    · rw [if_pos c11]
      have hnx := tc_nx (X := X) (b := p) (n := n) (by omega)
      have hau : AUc n X np nd (1, p, W, C, cm) = .inr (1, nx n X p, 4 :: W, C, 0) := by
        show AU n X np nd 1 p W C cm = _
        unfold AU
        rw [if_pos (by omega), if_pos ⟨rfl, c11⟩]
        unfold opnA
        rw [if_pos (by omega), if_pos rfl]
      refine Big_pre (i := 1) (d := (1, nx n X p, 4 :: W, C, 0)) (by rw [iter_1 hau]; rfl) ?_
      have hz2 : c0 (4 :: W) = 0 := by
        unfold c0 at hz ⊢
        rw [List.countP_cons_of_neg (by decide)]
        exact hz
      have hO2 : cO (4 :: W) + m = 6 := by
        unfold cO at hO ⊢
        rw [List.countP_cons_of_pos (by decide)]
        omega
      have hi := ih (nx n X p) l (4 :: W) C 0 hnx.2 (by show tgh 4 < 4; decide) hz2 hO2
      cases hq : rUnit n X np nd m (nx n X p) l with
      | inl e =>
        rw [hq] at hi
        exact hi
      | inr q =>
        rw [hq] at hi
        obtain ⟨j, st, V, C2, cm2, D, i1, i2, i3, i4, i5⟩ := hi
        refine ⟨j, st, V ++ [4], C2, cm2, D ++ [18], ?_, i2, ?_, ?_, fun v hv => ?_⟩
        · rw [i1]
          simp
        · show q.2 ++ [18] = _
          rw [i3]
          simp
        · rw [List.map_append, ← List.append_assoc, i4]
          simp [eN_18]
        · rcases List.mem_append.mp hv with hv | hv
          · exact i5 v hv
          · rw [List.mem_singleton.mp hv]
            decide
    · rw [if_neg c11]
      by_cases c12 : tc n X p = 12
      · rw [if_pos c12]
        have hnx := tc_nx (X := X) (b := p) (n := n) (by omega)
        have hau : AUc n X np nd (1, p, W, C, cm) = .inr (1, nx n X p, 1 :: W, C, 0) := by
          show AU n X np nd 1 p W C cm = _
          unfold AU
          rw [if_pos (by omega), if_neg (fun z => by omega), if_pos ⟨rfl, c12⟩]
          unfold opnA
          rw [if_pos (by omega), if_pos rfl]
        refine Big_pre (i := 1) (d := (1, nx n X p, 1 :: W, C, 0)) (by rw [iter_1 hau]; rfl) ?_
        have hz2 : c0 (1 :: W) = 0 := by
          unfold c0 at hz ⊢
          rw [List.countP_cons_of_neg (by decide)]
          exact hz
        have hO2 : cO (1 :: W) + m = 6 := by
          unfold cO at hO ⊢
          rw [List.countP_cons_of_pos (by decide)]
          omega
        have ht := big_truth (np := np) (nd := nd) (W0 := 1 :: W) (cm := 0) (l := l) (C := C) hn9 (gd_unit hv h1 h2 m) (fun p l W' C cm a b c d => ih p l W' C cm a b c (by omega)) hnx.2 (W := 1 :: W) (by show tgh 1 < 1; decide) hz2 rfl
        unfold cls
        cases hq : truthG n X (rUnit n X np nd m) (nx n X p) l with
        | inl e =>
          rw [hq] at ht
          exact ht
        | inr q =>
          rw [hq] at ht
          obtain ⟨j, st, V, C2, cm2, D, i1, ⟨⟨g1, g2⟩, g3⟩, i3, i4, i5⟩ := ht
          have b1 := opB_0.mp g2
          have b2 := opO_0.mp g3
          have hc0 : c0 (V ++ 1 :: W) = 0 := by
            rw [c0_app (fun v hv => i5 v hv)]
            exact hz2
          have hc1 : 0 < c1 (V ++ 1 :: W) := by
            rw [c1_app (fun v hv => i5 v hv)]
            unfold c1
            rw [List.countP_cons_of_pos (by decide)]
            omega
          have hau2 : AU n X np nd st q.1 (V ++ 1 :: W) C2 cm2 = if tc n X q.1 = 27 then closeA n X 1 4 q.1 (V ++ 1 :: W) C2 cm2 else .inl (flt n X 2 q.1) := by
            unfold AU
            rcases g1 with ⟨g1, g4, g5⟩ | g1
            · obtain ⟨a1, a2, a3⟩ := g5
              rw [if_neg (by omega), if_neg (fun z => by omega), if_neg (fun z => by omega), if_neg (fun z => by omega), if_neg b1, if_neg b2, if_pos hc1]
            · rw [if_neg (by omega), if_neg (fun z => by omega), if_neg (fun z => by omega), if_neg (fun z => by omega), if_neg b1, if_neg b2, if_pos hc1]
          show Big n X np nd 3 (GU n X) _ (if tc n X q.1 = 27 then .inr (nx n X q.1, q.2) else .inl (flt n X 2 q.1)) l W C
          by_cases c27 : tc n X q.1 = 27
          · rw [if_pos c27] at hau2 ⊢
            rw [closeA_ok i5 (by decide), i4] at hau2
            have hau2 : AUc n X np nd (st, q.1, V ++ 1 :: W, C2, cm2) = .inr (4, nx n X q.1, W, C ++ D.map (eN np nd), cm2) := hau2
            refine ⟨j + 1, 4, [], C ++ D.map (eN np nd), cm2, D, ?_, Or.inr rfl, i3, by simp, fun v hv => absurd hv (by simp)⟩
            rw [iter_add j _ i1, iter_1 hau2]
            rfl
          · rw [if_neg c27] at hau2 ⊢
            exact ⟨j, _, i1, hau2⟩
      · rw [if_neg c12]
        exact big_cmp hn9 hv h1 h2 ⟨c11, c12⟩ hp hW hz hO
/- a wish's truth -/
set_option maxRecDepth 16384 in
theorem big_rTruth {n : Nat} {X : Nat → Nat} {np nd : Nat} (hn9 : n ≤ 900) (hv : VL n X) (h1 : 1 ≤ np) (h2 : 1 ≤ nd) {p cm : Nat} {l C : List Nat} (hp : p ≤ n) : Big n X np nd 1 (fun a c q => (GU n X a c q ∧ opB n X q = 0) ∧ opO n X q = 0) (1, p, [], C, cm) (rTruth n X np nd 6 p l) l [] C := by
  unfold rTruth
  exact big_truth (W0 := []) hn9 (gd_unit hv h1 h2 6) (fun p l W C cm a b c d => big_unit hn9 hv h1 h2 6 p l W C cm a b c (by rw [d]; rfl)) hp trivial rfl rfl

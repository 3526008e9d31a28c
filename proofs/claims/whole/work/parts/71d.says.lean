/- in how many of the numbered cases, weighed -/
set_option maxRecDepth 16384 in
theorem sum_pick {f : Nat → Bool} {l : List Nat} {g : Nat → Nat} {n : Nat} (hg : ∀ p, p ∈ l → g p < n) : sumTo n (fun c => (if f c then 1 else 0) * l.countP (fun p => decide (g p = c))) = l.countP (fun p => f (g p)) := by
  induction l with
  | nil =>
    refine sumTo_0 n (fun i hi => ?_)
    rw [List.countP_nil, Nat.mul_zero]
  | cons a l ih =>
    have ih := ih (fun p hp => hg p (List.mem_cons_of_mem _ hp))
    have ha := hg a List.mem_cons_self
    have split : ∀ m, sumTo m (fun c => (if f c then 1 else 0) * (a :: l).countP (fun p => decide (g p = c))) = sumTo m (fun c => (if f c then 1 else 0) * l.countP (fun p => decide (g p = c))) + (if g a < m then (if f (g a) then 1 else 0) else 0) := by
      intro m
      induction m with
      | zero => rfl
      | succ m ihm =>
        show sumTo m _ + _ = sumTo m _ + _ + _
        rw [ihm]
        dsimp only
        by_cases e : g a = m
        · rw [List.countP_cons_of_pos (p := fun p => decide (g p = m)) (by rw [decide_eq_true_eq]; exact e), if_neg (show ¬ g a < m by omega), if_pos (show g a < m + 1 by omega), e, Nat.mul_add, Nat.mul_one, Nat.add_zero, Nat.add_assoc]
        · rw [List.countP_cons_of_neg (p := fun p => decide (g p = m)) (by rw [decide_eq_true_eq]; exact e)]
          by_cases e2 : g a < m
          · rw [if_pos e2, if_pos (show g a < m + 1 by omega), Nat.add_right_comm]
          · rw [if_neg e2, if_neg (show ¬ g a < m + 1 by omega), Nat.add_zero, Nat.add_zero]
    rw [split n, ih, if_pos ha]
    by_cases c : f (g a) = true
    · rw [List.countP_cons_of_pos (p := fun p => f (g p)) c, if_pos c]
    · rw [List.countP_cons_of_neg (p := fun p => f (g p)) c, if_neg c]
      rfl
set_option maxRecDepth 16384 in
theorem c_plansOf {A : Nat → Nat} {P k : Nat} {L : List Nat} {F : Nat → Nat} {h : PH} (h1 : 1 ≤ P) (h5 : P ≤ 5) (v7 : h.1 42 7 = nI P) (r : RW A (P - 1) L h) (hk : k < L.length) (hL : L.length ≤ 14) (hF : ∀ c, c < 32 → h.1 45 c = nI (F c)) (hF2 : ∀ c, F c ≤ 5000) : f_X1_plansOf 42 (nI k) h = some (nI (sumTo 32 (fun c => (if (L.getD k 0).testBit (A c) then 1 else 0) * F c)), h) := by
  unfold f_X1_plansOf
  simp only [r_42_5]
  have hs : nI P - (1 : Int32) = nI (P - 1) := by rw [pw_lit, pw_sub h1]
  rw [v7, hs, pw_ldR (by omega) (by omega), r_46 (by omega), pw_ldI (by omega) (by omega)]
  simp only [pw_lt]
  have hb := r.2 k hk
  generalize h.1 (47 + (P - 1)) k = row at *
  have hsum : ∀ m, m ≤ 32 → sumTo m (fun c => (if (L.getD k 0).testBit (A c) then 1 else 0) * F c) ≤ m * 5000 := fun m _ => sumTo_le (fun c => by
    have := hF2 c
    by_cases q : (L.getD k 0).testBit (A c) = true
    · rw [if_pos q]; omega
    · rw [if_neg q]; omega) m
  refine lp_run (fun c => (nI (sumTo c (fun c => (if (L.getD k 0).testBit (A c) then 1 else 0) * F c)), nI c)) (fun _ => h) 32 _ ?_ ?_ FU (fu_lt (by omega))
  · intro c hc rec
    unfold b_X1_plansOf_19
    simp only [r_42_4]
    rw [if_neg (show ¬ (32 : Int32) ≤ nI c by rw [pw_lit, pw_leI (by omega) (by omega)]; omega), pw_ldI hc (by omega), hF c hc]
    have hbit : (row >>> (nI c &&& 31)) &&& (1 : Int32) = nI (if (L.getD k 0).testBit (A c) then 1 else 0) := by
      refine b_ext (fun i hi => ?_)
      rw [b_and, b_sshr c (by omega) row hi, bt_1, bt_nI hi]
      by_cases z : i = 0
      · rw [z, Nat.add_zero, if_pos (by omega), hb c hc, decide_eq_true rfl, Bool.and_true]
        cases (L.getD k 0).testBit (A c) <;> rfl
      · rw [decide_eq_false z, Bool.and_false]
        have h2 : (if (L.getD k 0).testBit (A c) then 1 else 0) < 2 ^ i := by
          have : 2 ^ 1 ≤ 2 ^ i := Nat.pow_le_pow_right (by decide) (by omega)
          split <;> omega
        exact (Nat.testBit_lt_two_pow h2).symm
    have h1 := hsum c (by omega)
    simp only [pw_lt]
    rw [hbit, pw_mul, nI_add, pw_oi, nI_add]
    rfl
  · intro rec
    unfold b_X1_plansOf_19
    dsimp only
    rw [if_pos (show (32 : Int32) ≤ nI 32 by decide)]
/- the most or the fewest -/
def fm (mx : Bool) (g : Nat → Nat) : Nat → Nat
  | 0 => g 0
  | k + 1 => if mx then (if fm mx g k < g (k + 1) then g (k + 1) else fm mx g k) else (if g (k + 1) < fm mx g k then g (k + 1) else fm mx g k)
set_option maxRecDepth 16384 in
theorem fm_le {mx : Bool} {g : Nat → Nat} {b : Nat} (h : ∀ k, g k ≤ b) : ∀ k, fm mx g k ≤ b
  | 0 => h 0
  | k + 1 => by
    have h1 := fm_le (mx := mx) h k
    have h2 := h (k + 1)
    rw [fm]
    split
    · split <;> omega
    · split <;> omega
set_option maxRecDepth 16384 in
theorem c_heldIn {K T : Nat → Int32} {A : Nat → Nat} {P : Nat} {l L : List Nat} {mx : Bool} {h : PH} (H : RK K) (S : SK (h.1 3) K) (ct : CT2 K T (gv K 7) h) (ce : CE l h) (hl : l.length ≤ 5) (hlv : ∀ k, k < l.length → l.getD k 0 < 12) (h1 : 1 ≤ P) (h5 : P ≤ 5) (v7 : h.1 42 7 = nI P) (r : RW A (P - 1) L h) (hL : L.length ≤ 14) (hL1 : 1 ≤ L.length) : ok (f_X1_heldIn 42 (bI mx) h) (fun x h' => eqx [45] h h' ∧ x = nI (fm mx (fun k => (aL K T (gv K 7) (ga K + 1)).countP (fun p => (L.getD k 0).testBit (A (csW l (wx K p))))) (L.length - 1))) := by
  have hb := rk_b H
  have hal := aL_len K T (gv K 7) (ga K + 1)
  unfold f_X1_heldIn
  refine ok_cb (c_sortPlans H S ct ce hl hlv) ?_
  rintro r1 h2 ⟨e2, y2⟩
  have v72 : h2.1 42 7 = nI P := by rw [(e2 42 (by decide)).1]; exact v7
  have r2 : RW A (P - 1) L h2 := r.of (by rw [(e2 72 (by decide)).1]) ((e2 _ (by simp; omega)).1)
  have hpl : ∀ k, k < L.length → f_X1_plansOf 42 (nI k) h2 = some (nI ((aL K T (gv K 7) (ga K + 1)).countP (fun p => (L.getD k 0).testBit (A (csW l (wx K p))))), h2) := fun k hk => by
    rw [c_plansOf h1 h5 v72 r2 hk hL y2 (fun c => by
      have := List.countP_le_length (p := fun p => decide (csW l (wx K p) = c)) (l := aL K T (gv K 7) (ga K + 1))
      omega)]
    rw [sum_pick (f := fun c => (L.getD k 0).testBit (A c)) (g := fun p => csW l (wx K p)) (fun p _ => csW_lt hl _)]
  have hp0 : f_X1_plansOf 42 (0 : Int32) h2 = _ := hpl 0 (by omega)
  rw [hp0]
  simp only [pw_cb]
  refine ok_lt (ok_lt ?_)
  generalize hgg : (fun k => (aL K T (gv K 7) (ga K + 1)).countP (fun p => (L.getD k 0).testBit (A (csW l (wx K p))))) = g at *
  have hgv : ∀ k, (aL K T (gv K 7) (ga K + 1)).countP (fun p => (L.getD k 0).testBit (A (csW l (wx K p)))) = g k := fun k => by rw [← hgg]
  simp only [hgv] at hpl ⊢
  have hg5 : ∀ k, g k ≤ 5000 := fun k => by
    rw [← hgv k]
    have := List.countP_le_length (p := fun p => (L.getD k 0).testBit (A (csW l (wx K p)))) (l := aL K T (gv K 7) (ga K + 1))
    omega
  refine lp_ok (fun m s h3 => ∃ k, k + m + 1 = L.length ∧ s = (nI (fm mx g k), nI (k + 1)) ∧ h3 = h2) ?_ FU (L.length - 1) _ h2 ⟨0, by omega, rfl, rfl⟩ (fu_lt (by omega))
  rintro m rec s h3 ⟨k, hk, rfl, rfl⟩ hrec
  unfold b_X1_heldIn_12
  rw [c_all1 h1 h5 v72 r2]
  simp only [pw_cb]
  by_cases h0 : m = 0
  · rw [if_pos ((nI_leI (by omega) (by omega)).mpr (by omega))]
    rw [show L.length - 1 = k by omega]
    exact ok_some ⟨e2, rfl⟩
  · rw [if_neg (fun z => by have := (nI_leI (by omega) (by omega)).mp z; omega), hpl (k + 1) (by omega)]
    simp only [pw_cb]
    have hf := fm_le (mx := mx) hg5 k
    have hg1 := hg5 (k + 1)
    refine ok_lt ?_
    refine ok_joinT (fun t h13 => h13 = h3 ∧ t = nI (fm mx g (k + 1))) ?_ (fun j46 hj46 => ?_)
    · rintro t h13 ⟨rfl, rfl⟩
      refine ok_lt (ok_lt ?_)
      rw [pw_oi, nI_add]
      exact hrec (m - 1) _ _ (by omega) ⟨k + 1, by omega, rfl, rfl⟩
    · have l1 : (nI (g (k + 1)) < nI (fm mx g k)) = (g (k + 1) < fm mx g k) := pw_ltI (by omega) (by omega)
      have l2 : (nI (fm mx g k) < nI (g (k + 1))) = (fm mx g k < g (k + 1)) := pw_ltI (by omega) (by omega)
      simp only [l1, l2]
      cases mx with
      | false =>
        rw [if_pos (show bI false = (0 : Int32) from rfl)]
        refine hj46 _ _ ⟨rfl, ?_⟩
        have hz : fm false g (k + 1) = if g (k + 1) < fm false g k then g (k + 1) else fm false g k := rfl
        rw [hz]
        split <;> rfl
      | true =>
        rw [if_neg (show ¬ bI true = (0 : Int32) by decide)]
        refine hj46 _ _ ⟨rfl, ?_⟩
        have hz : fm true g (k + 1) = if fm true g k < g (k + 1) then g (k + 1) else fm true g k := rfl
        rw [hz]
        split <;> rfl

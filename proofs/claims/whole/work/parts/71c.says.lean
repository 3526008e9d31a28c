/-! ===== readings: the class counts ===== -/
/- two readings that say the same in every case -/
def eqC (A : Nat → Nat) (a b : Nat) : Bool := allN 32 (fun c => a.testBit (A c) == b.testBit (A c))
set_option maxRecDepth 16384 in
theorem RW_eq {A : Nat → Nat} {i j k : Nat} {L : List Nat} {h : PH} (r : RW A i L h) (hj : j < L.length) (hk : k < L.length) : (h.1 (47 + i) j = h.1 (47 + i) k) ↔ eqC A (L.getD j 0) (L.getD k 0) = true := by
  unfold eqC
  rw [allN_iff]
  constructor
  · intro e c hc
    rw [← r.2 j hj c hc, ← r.2 k hk c hc, e]
    exact beq_self_eq_true _
  · intro e
    refine b_ext (fun c hc => ?_)
    rw [r.2 j hj c hc, r.2 k hk c hc]
    exact eq_of_beq (e c hc)
set_option maxRecDepth 16384 in
theorem c_all1 {A : Nat → Nat} {P : Nat} {L : List Nat} {h : PH} (h1 : 1 ≤ P) (h5 : P ≤ 5) (v7 : h.1 42 7 = nI P) (r : RW A (P - 1) L h) : f_X1_all 42 h = some (nI L.length, h) := by
  unfold f_X1_all
  simp only [r_42_6]
  have hs : nI P - (1 : Int32) = nI (P - 1) := by rw [pw_lit, pw_sub h1]
  rw [v7, hs, pw_ldI (by omega) (by omega), r.1]
set_option maxRecDepth 16384 in
theorem c_isNew {A : Nat → Nat} {P k : Nat} {L : List Nat} {h : PH} (h1 : 1 ≤ P) (h5 : P ≤ 5) (v7 : h.1 42 7 = nI P) (r : RW A (P - 1) L h) (hL : L.length ≤ 14) (hk : k < L.length) : f_X1_isNew 42 (nI k) h = some (bI (!anyTo k (fun j => eqC A (L.getD j 0) (L.getD k 0))), h) := by
  unfold f_X1_isNew
  simp only [r_42_5]
  have hs : nI P - (1 : Int32) = nI (P - 1) := by rw [pw_lit, pw_sub h1]
  rw [v7, hs, pw_ldR (by omega) (by omega), r_46 (by omega)]
  obtain ⟨r1, x, hx, y1, y2⟩ : ok (lp (b_X1_isNew_14 (nI k) (47 + (P - 1))) FU (0 : Int32) h) (fun r h' => r = bI (!anyTo k (fun j => eqC A (L.getD j 0) (L.getD k 0))) ∧ h' = h) := by
    refine lp_ok (fun m s h1 => ∃ j, j + m = k ∧ s = nI j ∧ h1 = h ∧ ∀ i, i < j → eqC A (L.getD i 0) (L.getD k 0) = false) ?_ FU k _ h ⟨0, by omega, rfl, rfl, fun i hi => absurd hi (Nat.not_lt_zero i)⟩ (fu_lt (by omega))
    rintro m rec s h2 ⟨j, hj, rfl, rfl, y⟩ hrec
    unfold b_X1_isNew_14
    by_cases h0 : m = 0
    · rw [if_pos ((nI_leI (by omega) (by omega)).mpr (by omega)), show zr (1 : Int32) h2 = some (bI true, h2) from zr_1 h2]
      have hf : anyTo k (fun j => eqC A (L.getD j 0) (L.getD k 0)) = false := by
        cases hq : anyTo k (fun j => eqC A (L.getD j 0) (L.getD k 0))
        · rfl
        · obtain ⟨i, hi, q⟩ := anyTo_iff.mp hq
          rw [y i (by omega)] at q
          cases q
      exact ok_some ⟨by rw [hf]; rfl, rfl⟩
    · rw [if_neg (fun z => by have := (nI_leI (by omega) (by omega)).mp z; omega), pw_ldI (by omega) (by omega), pw_ldI (by omega) (by omega)]
      have he := RW_eq r (j := j) (k := k) (by omega) hk
      by_cases e : h2.1 (47 + (P - 1)) j = h2.1 (47 + (P - 1)) k
      · rw [if_pos e, show zr (0 : Int32) h2 = some (bI false, h2) from zr_0 h2]
        have ht : anyTo k (fun j => eqC A (L.getD j 0) (L.getD k 0)) = true := anyTo_iff.mpr ⟨j, by omega, he.mp e⟩
        exact ok_some ⟨by rw [ht]; rfl, rfl⟩
      · rw [if_neg e]
        refine ok_lt ?_
        rw [pw_oi, nI_add]
        refine hrec (m - 1) _ _ (by omega) ⟨j + 1, by omega, rfl, rfl, fun i hi => ?_⟩
        by_cases ei : i = j
        · rw [ei]
          cases hq : eqC A (L.getD j 0) (L.getD k 0)
          · rfl
          · exact absurd (he.mpr hq) e
        · exact y i (by omega)
  simp only [pw_lt]
  rw [hx, y1, y2]
/- how many are unlike all before -/
def ulk (E : Nat → Nat → Bool) (L : List Nat) (n : Nat) : Nat := sumTo n (fun k => if anyTo k (fun j => E (L.getD j 0) (L.getD k 0)) then 0 else 1)
set_option maxRecDepth 16384 in
theorem ulk_s (E : Nat → Nat → Bool) (L : List Nat) (n : Nat) : ulk E L (n + 1) = ulk E L n + (if anyTo n (fun j => E (L.getD j 0) (L.getD n 0)) then 0 else 1) := rfl
set_option maxRecDepth 16384 in
theorem ulk_le (E : Nat → Nat → Bool) (L : List Nat) (n : Nat) : ulk E L n ≤ n := sumTo_b (fun i => by split <;> omega) n
set_option maxRecDepth 16384 in
theorem c_unlike {A : Nat → Nat} {P : Nat} {L : List Nat} {h : PH} (h1 : 1 ≤ P) (h5 : P ≤ 5) (v7 : h.1 42 7 = nI P) (r : RW A (P - 1) L h) (hL : L.length ≤ 14) : f_X1_unlike 42 h = some (nI (ulk (eqC A) L L.length), h) := by
  unfold f_X1_unlike
  simp only [pw_lt]
  refine lp_run (fun k => (nI (ulk (eqC A) L k), nI k)) (fun _ => h) L.length _ ?_ ?_ FU (fu_lt (by omega))
  · intro k hk rec
    have hu := ulk_s (eqC A) L k
    unfold b_X1_unlike_4
    rw [c_all1 h1 h5 v7 r]
    simp only [pw_cb]
    rw [if_neg (fun z => by have := (nI_leI (by omega) (by omega)).mp z; omega), c_isNew h1 h5 v7 r hL hk]
    simp only [pw_cb, pw_lt]
    cases hq : anyTo k (fun j => eqC A (L.getD j 0) (L.getD k 0))
    · rw [hq, if_neg (by decide)] at hu
      rw [hu, if_neg (show ¬ bI (!false) = (0 : Int32) by decide), pw_oi, nI_add, nI_add]
    · rw [hq, if_pos rfl] at hu
      simp only [Nat.add_zero] at hu
      rw [hu, if_pos (show bI (!true) = (0 : Int32) from rfl), pw_oi, nI_add]
  · intro rec
    unfold b_X1_unlike_4
    rw [c_all1 h1 h5 v7 r]
    simp only [pw_cb]
    rw [if_pos ((nI_leI (by omega) (by omega)).mpr (Nat.le_refl _))]
/- the case of a weather -/
def csW (l : List Nat) (w : Nat) : Nat := orTo l.length (fun j => w.testBit (l.getD j 0))
set_option maxRecDepth 16384 in
theorem csW_lt {l : List Nat} (h : l.length ≤ 5) (w : Nat) : csW l w < 32 := by
  have h1 := orTo_lt (fun j => w.testBit (l.getD j 0)) l.length
  have h2 : 2 ^ l.length ≤ 2 ^ 5 := Nat.pow_le_pow_right (by decide) h
  exact Nat.lt_of_lt_of_le h1 h2
set_option maxRecDepth 16384 in
theorem csW_s {l : List Nat} {w j : Nat} : orTo (j + 1) (fun j => w.testBit (l.getD j 0)) = orTo j (fun j => w.testBit (l.getD j 0)) ||| ((if w.testBit (l.getD j 0) then 1 else 0) <<< j) := by
  rw [orTo]
  cases w.testBit (l.getD j 0)
  · simp
  · simp [Nat.shiftLeft_eq]
set_option maxRecDepth 16384 in
theorem and1_tb (w c : Nat) : (w >>> c) &&& 1 = if w.testBit c then 1 else 0 := by
  rw [Nat.and_one_is_mod, Nat.shiftRight_eq_div_pow]
  have := Nat.testBit_eq_decide_div_mod_eq (x := w) (i := c)
  rw [this]
  rcases (by omega : w / 2 ^ c % 2 = 0 ∨ w / 2 ^ c % 2 = 1) with z | z <;> rw [z] <;> rfl
set_option maxRecDepth 16384 in
theorem c_sortPlans {K T : Nat → Int32} {l : List Nat} {h : PH} (H : RK K) (S : SK (h.1 3) K) (ct : CT2 K T (gv K 7) h) (ce : CE l h) (hl : l.length ≤ 5) (hlv : ∀ k, k < l.length → l.getD k 0 < 12) : ok (f_X1_sortPlans 42 h) (fun _ h' => eqx [45] h h' ∧ ∀ c, c < 32 → h'.1 45 c = nI ((aL K T (gv K 7) (ga K + 1)).countP (fun p => decide (csW l (wx K p) = c)))) := by
  have hb := rk_b H
  obtain ⟨ct1, ct2, -⟩ := ct
  have hal := aL_len K T (gv K 7) (ga K + 1)
  generalize hLL : aL K T (gv K 7) (ga K + 1) = AL at *
  have hel : ∀ i, i < AL.length → AL.getD i 0 ≤ ga K := fun i hi => by
    have := aL_el (K := K) (T := T) (o := gv K 7) (N := ga K + 1) (i := i) (by rw [hLL]; exact hi)
    rw [hLL] at this
    omega
  unfold f_X1_sortPlans
  simp only [r_42_4]
  refine ok_cb (c_fill (a := 45) (n := 32) (v := (0 : Int32)) (by omega)) ?_
  rintro r1 h2 ⟨e2, y2⟩
  refine ok_lt ?_
  refine lp_ok (fun m s h1 => ∃ i, i + m = AL.length ∧ s = nI i ∧ eqx [45] h h1 ∧ ∀ c, c < 32 → h1.1 45 c = nI ((AL.take i).countP (fun p => decide (csW l (wx K p) = c)))) ?_ FU AL.length _ h2 ⟨0, by omega, rfl, e2, fun c hc => by rw [y2 c hc]; rfl⟩ (fu_lt (by omega))
  rintro m rec s h1 ⟨i, hi, rfl, e1, y1⟩ hrec
  have k4 : h1.1 33 4 = nI AL.length := by rw [(e1 33 (by decide)).1]; exact ct1
  unfold b_X1_sortPlans_10
  simp only [r_42_0, r_42_1, r_42_3, r_42_4, r_33_3]
  rw [k4]
  by_cases h0 : m = 0
  · rw [if_pos ((nI_leI (by omega) (by omega)).mpr (by omega))]
    rw [show i = AL.length by omega, List.take_length] at y1
    exact ok_some ⟨e1, y1⟩
  · rw [if_neg (fun z => by have := (nI_leI (by omega) (by omega)).mp z; omega), pw_ldI (by omega) (by omega), (e1 34 (by decide)).1, ct2 i (by omega)]
    have hp := hel i (by omega)
    rw [c_weatherOf (a := 3) H (by rw [(e1 3 (by decide)).1]; exact S) hp]
    simp only [pw_cb]
    have hw : wx K (AL.getD i 0) < 4096 := by
      have := wx_le K (AL.getD i 0)
      omega
    generalize hwx : wx K (AL.getD i 0) = w at *
    refine ok_lt (ok_lt (ok_lt ?_))
    refine ok_joinT (fun y h11 => h11 = h1 ∧ y = nI (csW l w)) ?_ (fun j75 hj75 => ?_)
    · rintro y h11 ⟨rfl, rfl⟩
      have hcs := csW_lt hl w
      have hcount : ∀ c, (AL.take i).countP (fun p => decide (csW l (wx K p) = c)) ≤ i := fun c => by
        have h1 := List.countP_le_length (p := fun p => decide (csW l (wx K p) = c)) (l := AL.take i)
        rw [List.length_take] at h1
        omega
      rw [pw_ldI hcs (by omega), y1 _ hcs, pw_stI hcs (by omega)]
      refine ok_lt ?_
      rw [pw_oi, nI_add]
      refine hrec (m - 1) _ _ (by omega) ⟨i + 1, by omega, rfl, eqx_trans e1 (eqx_pI (by decide)), fun c hc => ?_⟩
      have htk : AL.take (i + 1) = AL.take i ++ [AL.getD i 0] := by
        rw [List.take_add_one, List.getElem?_eq_getElem (show i < AL.length by omega), List.getD_eq_getElem?_getD, List.getElem?_eq_getElem (show i < AL.length by omega)]
        rfl
      rw [htk, List.countP_append]
      by_cases ec : c = csW l w
      · rw [ec, pw_pIs, List.countP_cons_of_pos (by rw [hwx]; exact decide_eq_true rfl)]
        exact nI_add _ 1
      · rw [pw_pIo (by omega), List.countP_cons_of_neg (by rw [hwx, decide_eq_true_eq]; exact fun z => ec z.symm), List.countP_nil, Nat.add_zero]
        exact y1 c hc
    · have k8 : h1.1 42 8 = nI l.length := by rw [(e1 42 (by decide)).1]; exact ce.1
      refine lp_ok (fun q s h3 => ∃ j, j + q = l.length ∧ s = (nI (orTo j (fun j => w.testBit (l.getD j 0))), nI j) ∧ h3 = h1) ?_ FU l.length _ h1 ⟨0, by omega, rfl, rfl⟩ (fu_lt (by omega))
      rintro q rec2 s h3 ⟨j, hj, rfl, rfl⟩ hrec2
      unfold b_X1_sortPlans_43
      simp only [r_42_3]
      rw [k8]
      by_cases h0' : q = 0
      · rw [if_pos ((nI_leI (by omega) (by omega)).mpr (by omega))]
        rw [show j = l.length by omega]
        exact hj75 _ _ ⟨rfl, rfl⟩
      · rw [if_neg (fun z => by have := (nI_leI (by omega) (by omega)).mp z; omega), pw_ldI (by omega) (by omega), (e1 44 (by decide)).1, ce.2 j (by omega)]
        have hlj := hlv j (by omega)
        refine ok_lt ?_
        have hv : ((nI w >>> (nI (l.getD j 0) &&& 31)) &&& (1 : Int32)) <<< (nI j &&& 31) = nI ((if w.testBit (l.getD j 0) then 1 else 0) <<< j) := by
          rw [pw_lit, pw_lit, pw_and, pw_shr (by omega) (by omega), pw_and, and1_tb, pw_and]
          exact pw_shl _ (by omega)
        refine ok_lt ?_
        rw [hv, pw_or, ← csW_s, pw_oi, nI_add]
        exact hrec2 (q - 1) _ _ (by omega) ⟨j + 1, by omega, rfl, rfl⟩

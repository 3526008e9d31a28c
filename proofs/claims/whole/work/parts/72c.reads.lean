/-! ===== readings: the reference answers ===== -/
set_option maxRecDepth 16384 in
theorem lim_c : ∀ g, g < 13 → ((2 : Int64) * (nI g).toInt64 - (1 : Int64)).toInt = 2 * (g : Int) - 1 := by decide +kernel
set_option maxRecDepth 16384 in
theorem okN_ref {g k : Nat} {x : Int64} (hg : g ≤ 12) (lim : Int64) (hl : lim.toInt = (if k % 2 = 1 then 2 else 2 * g : Nat) - 1) {h : PH} : ∃ b : Bool, f_X12_within x (0 : Int64) lim h = some (bI b, h) ∧ (b = true ↔ okN g k x) := by
  refine ⟨decide ((0 : Int64) ≤ x) && decide (x ≤ lim), e_within, ?_⟩
  rw [Bool.and_eq_true, decide_eq_true_eq, decide_eq_true_eq, Int64.le_iff_toInt_le, Int64.le_iff_toInt_le, hl, show (0 : Int64).toInt = 0 from by decide]
  have hb : (if k % 2 = 1 then 2 else 2 * g) < 100 := by split <;> omega
  unfold okN
  generalize (if k % 2 = 1 then 2 else 2 * g) = B at *
  constructor
  · rintro ⟨h1, h2⟩
    refine ⟨x.toInt.toNat, Int64.toInt_inj.mp ?_, by omega⟩
    rw [lN_tI (by omega)]
    omega
  · rintro ⟨v, rfl, hv⟩
    rw [lN_tI (by omega)]
    omega
set_option maxRecDepth 16384 in
theorem e_sayFault {t m : Nat} {b : Int32} {N : Nat → Int64} {h : PH} (H : RK (h.1 153)) (ht : t < 4) (hm : m ≤ 30) (r : f_X12_trayFault 152 (nI t) h = some (nI 0, h)) (m5 : h.1 175 t = nI m) (hnum : ∀ k, k < 30 → h.2 176 (30 * t + k) = N k) : ok (f_X12_sayFault 152 (nI t) b h) (fun x h' => h' = h ∧ (inN 4 b ∧ sayOk (gc (h.1 153)) m N → x = nI 0) ∧ (¬ (inN 4 b ∧ sayOk (gc (h.1 153)) m N) → x = nI 3)) := by
  have hb := rk_b H
  have hg : gc (h.1 153) ≤ 12 := hb.2.2.2.1
  have nz2 : ∀ o : Option (Int32 × PH), nz (2 : Int32) o = o := fun o => pw_nz (k := 2) (by omega) (by omega)
  unfold f_X12_sayFault
  rw [r]
  simp only [pw_cb, r_152_37, r_152_38]
  refine ok_lt ?_
  rw [if_pos (show nI 0 = (0 : Int32) from rfl), pw_ldI ht (by omega), m5]
  refine ok_lt ?_
  have hin : ∃ q : Bool, f_X12_within b.toInt64 (0 : Int64) (3 : Int64) h = some (bI q, h) ∧ (q = true ↔ inN 4 b) := by
    by_cases q : inN 4 b
    · exact ⟨true, e_withinI (n := 3) (by decide) q, by simp [q]⟩
    · exact ⟨false, e_withinI1 (n := 3) (by decide) q, by simp [q]⟩
  obtain ⟨q, hq, hq2⟩ := hin
  rw [hq]
  simp only [pw_cb]
  refine ok_join (fun h8 => h8 = h ∧ ¬ (inN 4 b ∧ sayOk (gc (h.1 153)) m N)) (fun h8 z => ok_some ⟨z.1, fun y => absurd y z.2, fun _ => rfl⟩) (fun j46 hj46 => ?_)
  cases q with
  | false =>
    rw [if_pos (show bI false = (0 : Int32) from rfl)]
    exact hj46 h ⟨rfl, fun y => by have := hq2.mpr y.1; cases this⟩
  | true =>
    have hb4 := hq2.mp rfl
    rw [if_neg (show ¬ bI true = (0 : Int32) by decide), nz2]
    have hmod : nI m - nI m / (2 : Int32) * (2 : Int32) = nI (m % 2) := by
      rw [pw_lit, pw_dv (by omega) (by omega) (by omega), pw_mul, pw_sub (by omega), show m - m / 2 * 2 = m % 2 by omega]
    rw [hmod]
    by_cases q1 : m % 2 = 0
    · rw [if_pos (by rw [q1]; rfl)]
      exact hj46 h ⟨rfl, fun y => by have := y.2.1; omega⟩
    · rw [if_neg (nI_ne0 (by omega) (by omega))]
      by_cases q2 : m ≤ 9
      · rw [if_pos (show nI m ≤ (9 : Int32) by rw [pw_lit, pw_leI (by omega) (by omega)]; exact q2)]
        refine ok_lt ?_
        refine lp_ok (fun n s h1 => ∃ k, k + n = m ∧ s = nI k ∧ h1 = h ∧ ∀ i, i < k → okN (gc (h.1 153)) i (N i)) ?_ FU m _ h ⟨0, by omega, rfl, rfl, fun i hi => absurd hi (Nat.not_lt_zero i)⟩ (fu_lt (by omega))
        rintro n rec s h1 ⟨k, hk, rfl, rfl, y⟩ hrec
        unfold b_X12_sayFault_51
        simp only [r_152_38]
        by_cases h0 : n = 0
        · rw [if_pos ((nI_leI (by omega) (by omega)).mpr (by omega))]
          have hall : sayOk (gc (h1.1 153)) m N := ⟨by omega, q2, fun i hi => y i (by omega)⟩
          exact ok_some ⟨rfl, fun _ => rfl, fun z => absurd ⟨hb4, hall⟩ z⟩
        · rw [if_neg (fun z => by have := (nI_leI (by omega) (by omega)).mp z; omega)]
          have a1 : (30 : Int32) * nI t + nI k = nI (30 * t + k) := by rw [pw_lit, pw_mul, nI_add]
          rw [a1, pw_ldL (by omega) (by omega), hnum k (by omega), nz2]
          have hkm : nI k - nI k / (2 : Int32) * (2 : Int32) = nI (k % 2) := by
            rw [pw_lit, pw_dv (by omega) (by omega) (by omega), pw_mul, pw_sub (by omega), show k - k / 2 * 2 = k % 2 by omega]
          refine ok_joinT (fun t11 h12 => h12 = h1 ∧ t11.toInt = (if k % 2 = 1 then 2 else 2 * gc (h1.1 153) : Nat) - 1) ?_ (fun j93 hj93 => ?_)
          · rintro t11 h12 ⟨rfl, hl⟩
            obtain ⟨bb, e1, e2⟩ := okN_ref (k := k) (x := N k) hg t11 hl (h := h12)
            rw [e1]
            simp only [pw_cb]
            cases bb with
            | false =>
              rw [if_pos (show bI false = (0 : Int32) from rfl)]
              exact ok_some ⟨rfl, fun z => (by have := e2.mpr (z.2.2.2 k (by omega)); cases this), fun _ => rfl⟩
            | true =>
              rw [if_neg (show ¬ bI true = (0 : Int32) by decide)]
              refine ok_lt ?_
              rw [pw_oi, nI_add]
              refine hrec (n - 1) _ _ (by omega) ⟨k + 1, by omega, rfl, rfl, fun i hi => ?_⟩
              by_cases ei : i = k
              · rw [ei]; exact e2.mp rfl
              · exact y i (by omega)
          · rw [hkm]
            by_cases c3 : k % 2 = 1
            · rw [if_neg (nI_ne0 (by omega) (by omega))]
              refine hj93 _ _ ⟨rfl, ?_⟩
              rw [if_pos c3]
              decide
            · rw [if_pos (show nI (k % 2) = (0 : Int32) by rw [show k % 2 = 0 by omega]; rfl), e_cells H]
              simp only [pw_cb]
              refine hj93 _ _ ⟨rfl, ?_⟩
              rw [if_neg c3, lim_c _ (by omega)]
              omega
      · rw [if_neg (show ¬ nI m ≤ (9 : Int32) by rw [pw_lit, pw_leI (by omega) (by omega)]; exact q2)]
        exact hj46 h ⟨rfl, fun y => q2 y.2.2.1⟩
/- two readings that say the same in all weathers -/
def eqW (K : Nat → Int32) (B : Nat → Nat) (a b : Nat) : Bool := allN (ga K + 1) (fun w => a.testBit (B w) == b.testBit (B w))
set_option maxRecDepth 16384 in
theorem e_areLike {K : Nat → Int32} {B : Nat → Nat} {i F j k : Nat} {L : List Nat} {h : PH} (H : RK K) (r : RR K B i L F h) (hF : F + L.length ≤ 39) (hj : j < L.length) (hk : k < L.length) : f_X12_areLike 152 (nI (F + j)) (nI (F + k)) h = some (bI (eqW K B (L.getD j 0) (L.getD k 0)), h) := by
  have hb := rk_b H
  have hga : ga K < 4096 := hb.2.2.2.2.2.2.2.2.2.1
  have hall : eqW K B (L.getD j 0) (L.getD k 0) = true ↔ ∀ q, q < 64 → h.2 170 (64 * (F + j) + q) = h.2 170 (64 * (F + k) + q) := by
    unfold eqW
    rw [allN_iff]
    constructor
    · intro e q hq
      refine b6_ext (fun i hi => ?_)
      have r1 := r.2.2 j hj (64 * q + i) (by omega)
      have r2 := r.2.2 k hk (64 * q + i) (by omega)
      unfold rb at r1 r2
      rw [show (64 * q + i) / 64 = q by omega, show (64 * q + i) % 64 = i by omega] at r1 r2
      rw [r1, r2]
      by_cases c : 64 * q + i ≤ ga K
      · rw [eq_of_beq (e _ (by omega))]
      · rw [decide_eq_false c, Bool.false_and, Bool.false_and]
    · intro e w hw
      have r1 := r.2.2 j hj w (by omega)
      have r2 := r.2.2 k hk w (by omega)
      unfold rb at r1 r2
      rw [e (w / 64) (by omega), r2, decide_eq_true (by omega), Bool.true_and, Bool.true_and] at r1
      rw [r1]
      exact beq_self_eq_true _
  obtain ⟨r1, x, hx, y1, y2⟩ : ok (f_X12_areLike 152 (nI (F + j)) (nI (F + k)) h) (fun r h' => r = bI (eqW K B (L.getD j 0) (L.getD k 0)) ∧ h' = h) := by
    unfold f_X12_areLike
    refine ok_lt ?_
    refine lp_ok (fun m s h1 => ∃ q, q + m = 64 ∧ s = nI q ∧ h1 = h ∧ ∀ i, i < q → h.2 170 (64 * (F + j) + i) = h.2 170 (64 * (F + k) + i)) ?_ FU 64 _ h ⟨0, by omega, rfl, rfl, fun i hi => absurd hi (Nat.not_lt_zero i)⟩ (fu_lt (by omega))
    rintro m rec s h1 ⟨q, hq, rfl, rfl, y⟩ hrec
    unfold b_X12_areLike_2
    simp only [r_152_30]
    by_cases h0 : m = 0
    · rw [if_pos (show (64 : Int32) ≤ nI q by rw [pw_lit, pw_leI (by omega) (by omega)]; omega), show zr (1 : Int32) h1 = some (bI true, h1) from zr_1 h1]
      rw [hall.mpr (fun i hi => y i (by omega))]
      exact ok_some ⟨rfl, rfl⟩
    · have a1 : (64 : Int32) * nI (F + j) + nI q = nI (64 * (F + j) + q) := by rw [pw_lit, pw_mul, nI_add]
      have a2 : (64 : Int32) * nI (F + k) + nI q = nI (64 * (F + k) + q) := by rw [pw_lit, pw_mul, nI_add]
      rw [if_neg (show ¬ (64 : Int32) ≤ nI q by rw [pw_lit, pw_leI (by omega) (by omega)]; omega), a1, pw_ldL (by omega) (by omega), a2, pw_ldL (by omega) (by omega)]
      have hce : (lg_cmp (h1.2 170 (64 * (F + j) + q)) (h1.2 170 (64 * (F + k) + q)) = (0 : Int32)) = (h1.2 170 (64 * (F + j) + q) = h1.2 170 (64 * (F + k) + q)) := pw_ce _ _
      simp only [hce]
      by_cases e : h1.2 170 (64 * (F + j) + q) = h1.2 170 (64 * (F + k) + q)
      · rw [if_pos e]
        refine ok_lt ?_
        rw [pw_oi, nI_add]
        refine hrec (m - 1) _ _ (by omega) ⟨q + 1, by omega, rfl, rfl, fun i hi => ?_⟩
        by_cases ei : i = q
        · rw [ei]; exact e
        · exact y i (by omega)
      · rw [if_neg e, show zr (0 : Int32) h1 = some (bI false, h1) from zr_0 h1]
        have hf : eqW K B (L.getD j 0) (L.getD k 0) = false := by
          cases hq2 : eqW K B (L.getD j 0) (L.getD k 0)
          · rfl
          · exact absurd (hall.mp hq2 q (by omega)) e
        rw [hf]
        exact ok_some ⟨rfl, rfl⟩
  rw [hx, y1, y2]
set_option maxRecDepth 16384 in
theorem eqW_comm (K : Nat → Int32) (B : Nat → Nat) (a b : Nat) : eqW K B a b = eqW K B b a := by
  have h1 : eqW K B a b = true ↔ eqW K B b a = true := by
    unfold eqW
    rw [allN_iff, allN_iff]
    exact ⟨fun h i hi => by have := h i hi; rw [eq_of_beq this]; exact beq_self_eq_true _, fun h i hi => by have := h i hi; rw [eq_of_beq this]; exact beq_self_eq_true _⟩
  cases q1 : eqW K B a b <;> cases q2 : eqW K B b a
  · rfl
  · rw [h1.mpr q2] at q1; cases q1
  · rw [h1.mp q1] at q2; cases q2
  · rfl
set_option maxRecDepth 16384 in
theorem e_unlike {K : Nat → Int32} {B : Nat → Nat} {i F : Nat} {L : List Nat} {h : PH} (H : RK K) (r : RR K B i L F h) (hF : F + L.length ≤ 39) : f_X12_unlike 152 (nI F) (nI L.length) h = some (nI (ulk (eqW K B) L L.length), h) := by
  unfold f_X12_unlike
  simp only [pw_lt]
  refine lp_run (fun k => (nI (ulk (eqW K B) L k), nI k)) (fun _ => h) L.length _ ?_ ?_ FU (fu_lt (by omega))
  · intro a ha rec
    have hu := ulk_s (eqW K B) L a
    unfold b_X12_unlike_5
    dsimp only
    rw [if_neg (fun z => by have := (nI_leI (by omega) (by omega)).mp z; omega)]
    simp only [pw_lt]
    have hin : ∀ (j57 : Int32 → PH → Option (Int32 × PH)), lp (b_X12_unlike_17 152 (nI F) (nI (ulk (eqW K B) L a), nI a) j57) FU ((1 : Int32), (0 : Int32)) h = j57 (bI (!anyTo a (fun j => eqW K B (L.getD j 0) (L.getD a 0)))) h := by
      intro j57
      have hrun := lp_run (body := b_X12_unlike_17 152 (nI F) (nI (ulk (eqW K B) L a), nI a) j57) (fun b => (bI (!anyTo b (fun j => eqW K B (L.getD j 0) (L.getD a 0))), nI b)) (fun _ => h) a (j57 (bI (!anyTo a (fun j => eqW K B (L.getD j 0) (L.getD a 0)))) h) ?_ ?_ FU (fu_lt (by omega))
      · exact hrun
      · intro b hb rec2
        unfold b_X12_unlike_17
        dsimp only
        rw [if_neg (fun z => by have := (nI_leI (by omega) (by omega)).mp z; omega)]
        simp only [pw_lt, nI_add]
        rw [e_areLike H r hF ha (by omega), eqW_comm]
        simp only [pw_cb, pw_oi, nI_add, anyTo]
        cases q1 : anyTo b (fun j => eqW K B (L.getD j 0) (L.getD a 0))
        · rw [if_neg (show ¬ bI (!false) = (0 : Int32) by decide)]
          cases q2 : eqW K B (L.getD b 0) (L.getD a 0)
          · rw [if_pos (show bI false = (0 : Int32) from rfl)]
            rfl
          · rw [if_neg (show ¬ bI true = (0 : Int32) by decide)]
            rfl
        · rw [if_pos (show bI (!true) = (0 : Int32) from rfl)]
          rfl
      · intro rec2
        unfold b_X12_unlike_17
        dsimp only
        rw [if_pos ((nI_leI (by omega) (by omega)).mpr (Nat.le_refl _))]
    rw [hin]
    cases hq : anyTo a (fun j => eqW K B (L.getD j 0) (L.getD a 0))
    · rw [hq, if_neg (by decide)] at hu
      rw [hu, if_neg (show ¬ bI (!false) = (0 : Int32) by decide), pw_oi, nI_add]
      exact congrArg (fun z => rec (z, nI (a + 1)) h) (nI_add _ 1)
    · rw [hq, if_pos rfl] at hu
      rw [hu, if_pos (show bI (!true) = (0 : Int32) from rfl), pw_oi, nI_add]
      exact congrArg (fun z => rec (z, nI (a + 1)) h) (nI_add _ 0)
  · intro rec
    unfold b_X12_unlike_5
    dsimp only
    rw [if_pos ((nI_leI (by omega) (by omega)).mpr (Nat.le_refl _))]

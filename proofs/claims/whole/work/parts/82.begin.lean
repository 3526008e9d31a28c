/-! ===== what the constructors leave ===== -/
set_option maxRecDepth 16384 in
theorem ex_pI {S : List Nat} {h0 h : PH} {a j : Nat} {v : Int32} (e : eqx S h0 h) (ha : a ∈ S) : eqx S h0 (pI h a j v) := eqx_trans e (eqx_pI ha)
set_option maxRecDepth 16384 in
theorem ex_flI {S : List Nat} {h0 h : PH} {a n : Nat} {v : Int32} (e : eqx S h0 h) (ha : a ∈ S) : eqx S h0 (flI h a n v) := eqx_trans e (fun c hc => ⟨funext fun j => by
  show (if c = a ∧ j < n then v else h.1 c j) = h.1 c j
  exact if_neg (fun (q : c = a ∧ j < n) => hc (q.1 ▸ ha)), rfl⟩)
set_option maxRecDepth 16384 in
theorem fl_o {h : PH} {a n c j : Nat} {v : Int32} (hc : c ≠ a) : (flI h a n v).1 c j = h.1 c j := by
  show (if c = a ∧ j < n then v else h.1 c j) = h.1 c j
  exact if_neg (fun q => hc q.1)
set_option maxRecDepth 16384 in
theorem st_eqx : eqx staL hz0 h12 := by
  unfold h12 h11 h_X12_init h_X11_init h_X6_init h_X3_init h_X7_init h_X5_init h_X4_init h_X2_init h_X1_init h_X9_init h_X0_init h_X8_init h_X10_init
  repeat (first | refine ex_pI ?_ (by decide) | refine ex_flI ?_ (by decide))
  exact eqx_rfl _ _
set_option maxRecDepth 16384 in
theorem sta_153 (j : Nat) : h12.1 153 j = if j = 3 then 3 else 0 := by
  unfold h12 h11 h_X12_init h_X11_init h_X6_init h_X3_init h_X7_init h_X5_init h_X4_init h_X2_init h_X1_init h_X9_init h_X0_init h_X8_init h_X10_init
  by_cases hj : j = 3
  · subst hj
    rw [if_pos rfl]
    simp (disch := omega) only [pw_pIs]
  · rw [if_neg hj]
    simp (disch := omega) only [pw_pIo, fl_o]
    rfl
set_option maxRecDepth 16384 in
theorem sta_3 (j : Nat) : h12.1 3 j = if j = 3 then 3 else 0 := by
  unfold h12 h11 h_X12_init h_X11_init h_X6_init h_X3_init h_X7_init h_X5_init h_X4_init h_X2_init h_X1_init h_X9_init h_X0_init h_X8_init h_X10_init
  by_cases hj : j = 3
  · subst hj
    rw [if_pos rfl]
    simp (disch := omega) only [pw_pIs, pw_pIo, fl_o]
  · rw [if_neg hj]
    simp (disch := omega) only [pw_pIo, fl_o]
    rfl
set_option maxRecDepth 16384 in
theorem st_h12 : STA h12 := by
  refine ⟨fun c hc j => ?_, fun c j => rfl, sta_153, sta_3, ⟨by decide +kernel, by decide +kernel⟩, by decide +kernel, by decide +kernel, by decide +kernel, by decide +kernel, by decide +kernel⟩
  rw [(st_eqx c hc).1]
  rfl

set_option maxRecDepth 16384 in
theorem r_undo {K T : Nat → Int32} {h : PH} {n d : Nat} (R : RX K T h) (n1 : 1 ≤ n) (n2 : gv K 6 = d + n) : ok (f_X12_undo 152 (nI n) h) (fun b h3 => b = nI d ∧ h3.1 152 5 = nI 0 ∧ eqx (153 :: rfL) h h3 ∧ f152 h h3 ∧ h3.1 153 = unN K d 17) := by
  have h6l := (rk_b R.1).2.2.2.2.2.2.2.1
  have hk6 := (rk_e R.1).2.2.2.2.2.2.1
  have hew : ∀ h3 : PH, f_X12_within (nI n).toInt64 (lN 1) (lN 10) h3 = some (bI true, h3) := fun h3 => e_withinR (by decide) (by decide) ⟨n, n1, by omega, rfl⟩
  have q153 := (RX_pI (j := 5) (v := nI 0) R).2.1
  have hsub : nI (d + n) - nI n = nI d := by rw [pw_sub (by omega), Nat.add_sub_cancel]
  have hth : (pI h 152 5 (nI 0)).1 152 5 = nI 0 := th_pI
  have hx : eqx [152] h (pI h 152 5 (nI 0)) := eqx_pI (by decide)
  have hf : f152 h (pI h 152 5 (nI 0)) := f152_pI (by decide) (by decide) (by decide)
  unfold f_X12_undo
  refine ok_lt ?_
  simp only [pw_lit, pw_litL, hew, pw_cb]
  generalize pI h 152 5 (nI 0) = h1 at *
  have v6 : h1.1 153 6 = nI (d + n) := by rw [q153, ← n2]; exact hk6
  refine ok_join (fun _ => False) (fun _ q => q.elim) (fun j hj => ?_)
  have hle : n ≤ d + n := by omega
  simp (disch := omega) only [bI_0', Bool.true_eq_false, if_false, r_152_0, pw_ldI, pw_stI, v6, pw_leI, hle, if_true, hsub]
  refine ok_lt ?_
  have hu := e_undo_lp (K := K) (h := pI h1 153 6 (nI d)) (d := d) (by omega) (by rw [pI_upd, q153, unN_0])
  refine ok_mono hu ?_
  rintro r h3 ⟨rfl, e3, k3⟩
  have e13 : eqx [153] h1 h3 := eqx_trans (eqx_pI (by decide)) e3
  exact ⟨rfl, by rw [(e13 152 (by decide)).1]; exact hth, eqx_trans (eqx_mono hx (by decide)) (eqx_mono e13 (by decide)), f152_trans hf (f152_eq e13 (by decide)), k3⟩

set_option maxRecDepth 16384 in
theorem call_undo {h : PH} {a : Int32} (I : INV h) : PC hs_L_undo (f_X11_undo 0 a) (f_X12_undo 152 a) h := by
  have H := I.1.1
  have h6l := (rk_b H).2.2.2.2.2.2.2.1
  have hk6 := (rk_e H).2.2.2.2.2.2.1
  have hd : h.1 16 3 = nI (gv (h.1 153) 6) := by rw [I.2.2.2.2.1.2.2.2.1]; exact hk6
  by_cases q : inR 1 (gv (h.1 153) 6) a
  · obtain ⟨n, n1, n2, rfl⟩ := q
    obtain ⟨G, s, g6⟩ := unK_ok I.1 n1 n2
    refine PC_ch I (nI (gv (h.1 153) 6 - n)) (unK (h.1 153) n) s ?_ (fun h2 R2 => by rw [← unN_17]; exact r_undo R2 n1 (by omega))
    unfold f_X11_undo
    refine ok_join (fun _ => False) (fun _ q => q.elim) (fun j hj => ?_)
    simp (disch := omega) only [pw_lit, pw_ltI, r_0_5, hd, pw_leI, if_neg, if_pos]
    refine ok_cb (c_takeBack I.cs n1 n2) ?_
    rintro r h1 ⟨e1, C1, v3⟩
    rw [v3]
    exact ok_some ⟨rfl, eqx_mono e1 (by decide), C1⟩
  · refine PC_q (.inr 0) ?_ (fun h2 R2 I2 k2 => ?_)
    · unfold f_X11_undo
      simp only [pw_lt, pw_lit, r_0_5, hd]
      rw [c_rngR (by decide) (by omega) q]
      exact ok_some ⟨rfl, CQ_rfl I⟩
    · have v6 : (pI h2 152 5 (nI 0)).1 153 6 = nI (gv (h.1 153) 6) := by rw [pw_pIo (by omega), k2]; exact hk6
      have hfail : ok (cb (f_X12_fails 152 (nI 1) (pI h2 152 5 (nI 0))) (fun r5 h6 => some (r5, h6))) (fun b h3 => agr hs_L_undo (.inr 0 : Int32 ⊕ Nat) (h3.1 152 5) b ∧ RQ h2 h3) := by
        rw [e_fails]
        exact ok_some ⟨⟨(0, 1), rfl, by decide, th_pI⟩, r_fails⟩
      unfold f_X12_undo
      refine ok_lt ?_
      simp only [pw_lit, pw_litL]
      by_cases q10 : inR 1 10 a
      · rw [e_withinR (by decide) (by decide) q10]
        obtain ⟨n, n1, n2, rfl⟩ := q10
        have hn : ¬ n ≤ gv (h.1 153) 6 := fun z => q ⟨n, n1, z, rfl⟩
        simp only [pw_cb]
        refine ok_join (fun h3 => h3 = pI h2 152 5 (nI 0)) (fun h3 q3 => by rw [q3]; exact hfail) (fun j hj => ?_)
        simp (disch := omega) only [bI_0', Bool.true_eq_false, if_false, r_152_0, pw_ldI, v6, pw_leI, hn]
        exact hj _ rfl
      · rw [e_withinR1 (by decide) (by decide) q10]
        simp only [pw_cb]
        refine ok_join (fun h3 => h3 = pI h2 152 5 (nI 0)) (fun h3 q3 => by rw [q3]; exact hfail) (fun j hj => ?_)
        simp only [bI_0', if_true]
        exact hj _ rfl

set_option maxRecDepth 16384 in
theorem r_86 {t : Nat} (h : t < 4) : rt (85 + 2 * t) 2 = 86 + 2 * t := r_tr h
set_option maxRecDepth 16384 in
theorem call_tray {h : PH} {a b c : Int32} (I : INV h) : PC hs_L_tray (f_X11_tray 0 a b c) (f_X12_tray 152 a b c) h := by
  by_cases qa : inN 4 a
  · have het := fun h2 : PH => e_isTrayQ (h := h2) qa
    by_cases qb : inN 4 b ∧ inN 31 c
    · obtain ⟨qb, qc⟩ := qb
      have heb : ∀ h3 : PH, f_X12_within b.toInt64 (lN 0) (lN 3) h3 = some (bI true, h3) := fun h3 => e_withinI (by decide) qb
      have hec : ∀ h3 : PH, f_X12_within c.toInt64 (lN 0) (lN 30) h3 = some (bI true, h3) := fun h3 => e_withinI (by decide) qc
      obtain ⟨t, ht, rfl⟩ := qa
      obtain ⟨s, hs, rfl⟩ := qb
      obtain ⟨m, hm, rfl⟩ := qc
      refine ok_mono (P := fun (x : Unit ⊕ Nat) h' => x = .inl () ∧ eqx [85 + 2 * t, 86 + 2 * t] h h' ∧ h'.1 (85 + 2 * t) 0 = nI s ∧ h'.1 (85 + 2 * t) 1 = nI m ∧ ∀ k, k < 30 → h'.2 (86 + 2 * t) k = lN 0) ?_ ?_
      · unfold f_X11_tray
        refine ok_join (fun _ => False) (fun _ q => q.elim) (fun j hj => ?_)
        simp (disch := omega) only [pw_lit, pw_ltI, if_neg, if_pos]
        refine ok_join (fun _ => False) (fun _ q => q.elim) (fun j2 hj2 => ?_)
        simp (disch := omega) only [pw_leI, if_neg, if_pos, r_0_12, pw_ldR, r_84]
        unfold f_X10_lay
        simp (disch := omega) only [pw_lt, r_86, pw_litL]
        refine ok_cb (P := fun _ h' => eqx [85 + 2 * t, 86 + 2 * t] h h' ∧ h'.1 (85 + 2 * t) 0 = nI s ∧ h'.1 (85 + 2 * t) 1 = nI m ∧ ∀ k, k < 30 → h'.2 (86 + 2 * t) k = lN 0) (ok_cb (c_fillL (by omega)) ?_) ?_
        · rintro r h1 ⟨e1, y1⟩
          refine ok_some ⟨eqx_trans (eqx_pI (by simp)) (eqx_trans (eqx_pI (by simp)) (eqx_mono e1 (fun x hx => by simp at hx; simp [hx]))), ?_, ?_, y1⟩
          · rw [(e1 _ (by simp)).1, pw_pIo (by omega), pw_pIs]
          · rw [(e1 _ (by simp)).1, pw_pIs]
        · rintro r h1 ⟨e1, y0, y1, y2⟩
          exact ok_some ⟨rfl, e1, y0, y1, y2⟩
      · rintro x h1 ⟨rfl, e1, y0, y1, y2⟩ h2 e2
        have tm := trL_m t ht
        have e02 : eqx (trL ++ 174 :: 175 :: 176 :: scL) h h2 := eqx_trans (eqx_mono e1 (fun x hx => by simp only [List.mem_cons, List.not_mem_nil, or_false] at hx; rcases hx with rfl | rfl; exact List.mem_append_left _ tm.1; exact List.mem_append_left _ tm.2)) (eqx_mono e2 (by decide))
        have f02 : f152 h h2 := f152_trans (f152_eq e1 (by simp; omega)) (f152_eq e2 (by decide))
        have z0 : h2.1 (85 + 2 * t) 0 = nI s := by rw [(e2 _ (by simp; omega)).1]; exact y0
        have z1 : h2.1 (85 + 2 * t) 1 = nI m := by rw [(e2 _ (by simp; omega)).1]; exact y1
        have z2 : ∀ k, k < 30 → h2.2 (86 + 2 * t) k = lN 0 := by rw [(e2 _ (by simp; omega)).2]; exact y2
        unfold f_X12_tray
        rw [het]
        simp only [pw_cb]
        refine ok_joinT (fun v h4 => v = nI 0 ∧ h4 = h2) ?_ (fun j hj => ?_)
        · rintro v h4 ⟨rfl, rfl⟩
          refine ok_lt ?_
          simp (disch := omega) only [pw_lit, th_pI, Int32.le_refl, if_true, r_152_36, r_152_37, pw_stI]
          refine ok_lt ?_
          refine ok_mono (e_tray_lp ht) ?_
          rintro r h5 ⟨e5, w1, w2⟩
          have e25 : eqx [152, 174, 175, 176] h4 h5 := eqx_trans (eqx_pI (by decide)) (eqx_trans (eqx_pI (by decide)) (eqx_trans (eqx_pI (by decide)) (eqx_mono e5 (by decide))))
          have v174 : ∀ k, h5.1 174 k = if k = t then nI s else h4.1 174 k := fun k => by
            rw [(e5 174 (by decide)).1, pw_pIo (by omega)]
            by_cases ek : k = t
            · subst ek
              rw [pw_pIs, if_pos rfl]
            · rw [pw_pIo (by omega), pw_pIo (by omega), if_neg ek]
          have v175 : ∀ k, h5.1 175 k = if k = t then nI m else h4.1 175 k := fun k => by
            rw [(e5 175 (by decide)).1]
            by_cases ek : k = t
            · subst ek
              rw [pw_pIs, if_pos rfl]
            · rw [pw_pIo (by omega), pw_pIo (by omega), pw_pIo (by omega), if_neg ek]
          have th5 : h5.1 152 5 = nI 0 := by rw [lays_th e5 (by decide), pw_pIo (by omega), pw_pIo (by omega), th_pI]
          have f45 : f152 h4 h5 := f152_trans (f152_pI (j := 5) (v := nI 0) (by decide) (by decide) (by decide)) (f152_trans (f152_eq (eqx_pI (S := [174]) (by decide)) (by decide)) (f152_trans (f152_eq (eqx_pI (S := [175]) (by decide)) (by decide)) (f152_eq e5 (by decide))))
          have e05' : eqx (trL ++ [152, 174, 175, 176, 177]) h h5 := eqx_trans (eqx_mono e1 (fun x hx => by simp only [List.mem_cons, List.not_mem_nil, or_false] at hx; rcases hx with rfl | rfl; exact List.mem_append_left _ tm.1; exact List.mem_append_left _ tm.2)) (eqx_trans (eqx_mono e2 (by decide)) (eqx_mono e25 (by decide)))
          have e05 : eqx (trL ++ 174 :: 175 :: 176 :: scL) h h5 := eqx_mono e05' (by decide)
          refine ⟨by rw [(e25 177 (by decide)).2], ⟨th5, rfl⟩, I.t e05 (f152_trans f02 f45) (by rw [(e05' 31 (by decide)).1]; exact I.2.2.2.2.2.1) (CHc_to e05' (by decide) (by decide) (by decide) I.2.2.2.2.2.2.1) (fun t2 ht2 => ?_)⟩
          have e45 : ∀ c, c ≤ 92 → 85 ≤ c → h5.1 c = h4.1 c ∧ h5.2 c = h4.2 c := fun c q1 q2 => e25 c (by simp; omega)
          by_cases et : t2 = t
          · subst et
            refine Or.inr ⟨s, m, by omega, by omega, ?_, ?_, ?_, ?_, fun k hk => ?_⟩
            · rw [(e45 _ (by omega) (by omega)).1]; exact z0
            · rw [v174, if_pos rfl]
            · rw [(e45 _ (by omega) (by omega)).1]; exact z1
            · rw [v175, if_pos rfl]
            · rw [(e45 _ (by omega) (by omega)).2, z2 k hk, w1 k hk]
          · have eo : ∀ c, c ≤ 92 → 85 ≤ c → c ≠ 85 + 2 * t → c ≠ 86 + 2 * t → h5.1 c = h.1 c ∧ h5.2 c = h.2 c := fun c q1 q2 q3 q4 => by
              have a1 := e45 c q1 q2
              have a2 := e2 c (by simp; omega)
              have a3 := e1 c (by simp; omega)
              exact ⟨a1.1.trans (a2.1.trans a3.1), a1.2.trans (a2.2.trans a3.2)⟩
            have k174 : h4.1 174 = h.1 174 := by rw [(e2 174 (by decide)).1, (e1 174 (by simp; omega)).1]
            have k175 : h4.1 175 = h.1 175 := by rw [(e2 175 (by decide)).1, (e1 175 (by simp; omega)).1]
            have k176 : h4.2 176 = h.2 176 := by rw [(e2 176 (by decide)).2, (e1 176 (by simp; omega)).2]
            have old := I.2.2.2.2.2.2.2.2.2.1 t2 ht2
            unfold TR1
            rw [(eo (85 + 2 * t2) (by omega) (by omega) (by omega) (by omega)).1, (eo (86 + 2 * t2) (by omega) (by omega) (by omega) (by omega)).2, v174, if_neg et, k174, v175, if_neg et, k175]
            rcases old with o | ⟨s', m', o1, o2, o3, o4, o5, o6, o7⟩
            · exact Or.inl o
            · refine Or.inr ⟨s', m', o1, o2, o3, o4, o5, o6, fun k hk => ?_⟩
              rw [w2 _ (by omega)]
              show _ = h4.2 176 _
              rw [k176]
              exact o7 k hk
        · simp only [pw_lit, pw_litL, bI_0', Bool.true_eq_false, if_false, heb, hec, pw_cb, pw_lt]
          exact hj _ _ ⟨rfl, rfl⟩
    · refine PC_q (.inr 0) ?_ (fun h2 R2 I2 k2 => ?_)
      · obtain ⟨t, ht, rfl⟩ := qa
        unfold f_X11_tray
        refine ok_join (fun _ => False) (fun _ q => q.elim) (fun j hj => ?_)
        simp (disch := omega) only [pw_lit, pw_ltI, if_neg, if_pos]
        refine ok_join (fun h1 => h1 = h) (fun h1 q1 => by rw [q1]; exact ok_some ⟨rfl, CQ_rfl I⟩) (fun j2 hj2 => ?_)
        by_cases qb1 : inN 4 b
        · have qc : ¬ inN 31 c := fun z => qb ⟨qb1, z⟩
          obtain ⟨s, hs, rfl⟩ := qb1
          simp (disch := omega) only [pw_ltI, pw_leI, if_neg]
          rw [c_rngle (by decide) (fun z => qc (inN_le.mpr z))]
          exact hj2 h rfl
        · by_cases c1 : b < nI 0
          · rw [if_pos c1]
            exact hj2 h rfl
          · rw [if_neg c1]
            by_cases c2 : nI 4 ≤ b
            · rw [if_pos c2]
              exact hj2 h rfl
            · exact absurd ((nI_rng (by decide)).mp ⟨c1, Int32.not_le.mp c2⟩) qb1
      · unfold f_X12_tray
        rw [het]
        simp only [pw_cb]
        refine ok_joinT (fun t h4 => t = nI 2 ∧ h4 = h2) ?_ (fun j hj => ?_)
        · rintro t h4 ⟨rfl, rfl⟩
          refine ok_lt ?_
          simp only [pw_lit, th_pI]
          rw [if_neg (by decide)]
          exact ok_some ⟨⟨(0, 2), rfl, by decide, th_pI⟩, RQ_th⟩
        · simp only [pw_lit, pw_litL, bI_0', Bool.true_eq_false, if_false]
          by_cases qb1 : inN 4 b
          · have qc : ¬ inN 31 c := fun z => qb ⟨qb1, z⟩
            have heb : f_X12_within b.toInt64 (lN 0) (lN 3) h2 = some (bI true, h2) := e_withinI (by decide) qb1
            have hec : f_X12_within c.toInt64 (lN 0) (lN 30) h2 = some (bI false, h2) := e_withinI1 (by decide) qc
            simp only [heb, hec, pw_cb, pw_lt, bI_0', Bool.true_eq_false, if_false, if_true]
            exact hj _ _ ⟨rfl, rfl⟩
          · have heb : f_X12_within b.toInt64 (lN 0) (lN 3) h2 = some (bI false, h2) := e_withinI1 (by decide) qb1
            simp only [heb, pw_cb, pw_lt, bI_0', if_true]
            exact hj _ _ ⟨rfl, rfl⟩
  · refine PC_q (.inr 1) ?_ (fun h2 R2 I2 k2 => ?_)
    · unfold f_X11_tray
      refine ok_join (fun h1 => h1 = h) (fun h1 q1 => by rw [q1]; exact ok_some ⟨rfl, CQ_rfl I⟩) (fun j hj => ?_)
      simp only [pw_lit]
      rw [c_rng (by decide) qa]
      exact hj _ rfl
    · unfold f_X12_tray
      rw [e_isTrayQ1 qa]
      simp only [pw_cb]
      refine ok_joinT (fun t h4 => t = nI 1 ∧ h4 = h2) ?_ (fun j hj => ?_)
      · rintro t h4 ⟨rfl, rfl⟩
        refine ok_lt ?_
        simp only [pw_lit, th_pI]
        rw [if_neg (by decide)]
        exact ok_some ⟨⟨(1, 1), rfl, by decide, th_pI⟩, RQ_th⟩
      · simp only [pw_lit, bI_0', if_true]
        exact hj _ _ ⟨rfl, rfl⟩

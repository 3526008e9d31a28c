set_option maxRecDepth 16384 in
theorem eqx_pL2 {h h2 : PH} {S : List Nat} {a j : Nat} {v : Int64} (ha : a ∈ S) (e : eqx S h h2) : eqx S h (pL h2 a j v) := eqx_trans e (eqx_pL ha)
/- a number written by both -/
set_option maxRecDepth 16384 in
theorem tr_write {h h5 : PH} {t k s m : Nat} {V : Int64} (I : INV h) (ht : t < 4) (hk : k < 30) (d : trayIs t s m h) (e : eqx (trL ++ [152, 176, 177]) h h5) (c1 : ∀ c, c ≤ 92 → 85 ≤ c → h5.1 c = h.1 c) (c2 : ∀ c, c ≤ 92 → 85 ≤ c → ∀ x, h5.2 c x = if c = 86 + 2 * t ∧ x = k then V else h.2 c x) (c3 : ∀ x, h5.2 176 x = if x = 30 * t + k then V else h.2 176 x) : ∀ t2, t2 < 4 → TR1 t2 h5 := by
  intro t2 ht2
  have k174 : h5.1 174 = h.1 174 := (e 174 (by decide)).1
  have k175 : h5.1 175 = h.1 175 := (e 175 (by decide)).1
  unfold TR1
  rw [c1 (85 + 2 * t2) (by omega) (by omega), k174, k175]
  rcases I.2.2.2.2.2.2.2.2.2.1 t2 ht2 with o | ⟨s', m', o1, o2, o3, o4, o5, o6, o7⟩
  · exact Or.inl o
  · refine Or.inr ⟨s', m', o1, o2, o3, o4, o5, o6, fun x hx => ?_⟩
    rw [c2 (86 + 2 * t2) (by omega) (by omega), c3]
    by_cases q : 86 + 2 * t2 = 86 + 2 * t ∧ x = k
    · rw [if_pos q, if_pos (by omega)]
    · rw [if_neg q, if_neg (by omega)]
      exact o7 x hx
set_option maxRecDepth 16384 in
theorem call_write {h : PH} {a b : Int32} {v : Int64} (I : INV h) : PC hs_L_write (f_X11_write 0 a b v) (f_X12_write 152 a b v) h := by
  rcases tray_cases a I with ⟨c, r⟩ | ⟨c, r⟩ | ⟨t, s, m, ht, rfl, d, c, r⟩
  · refine PC_q2 (.inr 1) ?_ (fun h2 R2 I2 e2 => ?_)
    · unfold f_X11_write
      simp only [c, pw_cbxr]
      exact ok_some ⟨rfl, CQ_rfl I⟩
    · unfold f_X12_write
      simp only [r h2 (e2 174 (by decide)).1, pw_cb, pw_lit]
      refine ok_lt ?_
      simp only [th_pI]
      rw [if_neg (by decide)]
      exact ok_some ⟨⟨(1, 1), rfl, by decide, th_pI⟩, RQ_th⟩
  · refine PC_q2 (.inr 2) ?_ (fun h2 R2 I2 e2 => ?_)
    · unfold f_X11_write
      simp only [c, pw_cbxr]
      exact ok_some ⟨rfl, CQ_rfl I⟩
    · unfold f_X12_write
      simp only [r h2 (e2 174 (by decide)).1, pw_cb, pw_lit]
      refine ok_lt ?_
      simp only [th_pI]
      rw [if_neg (by decide)]
      exact ok_some ⟨⟨(2, 2), rfl, by decide, th_pI⟩, RQ_th⟩
  · obtain ⟨d1, d2, d3, d4, d5, d6, d7⟩ := id d
    by_cases qb : inN m b
    · obtain ⟨k, hk, rfl⟩ := qb
      have hew : ∀ h3 : PH, f_X12_within (nI k).toInt64 (lN 0) (lN (m - 1)) h3 = some (bI true, h3) := fun h3 => e_withinI (by omega) ⟨k, by omega, rfl⟩
      have hm1 : (nI m - nI 1).toInt64 = lN (m - 1) := by rw [pw_sub (by omega), nI_l (by omega)]
      refine ok_mono (P := fun (x : Int64 ⊕ Nat) h' => x = .inl (cutV s v) ∧ h' = pL h (86 + 2 * t) k (cutV s v)) ?_ ?_
      · unfold f_X11_write
        simp only [c, pw_cbx, gk_tr ht]
        refine ok_join (fun _ => False) (fun _ q => q.elim) (fun j hj => ?_)
        simp (disch := omega) only [pw_lit, pw_ltI, if_neg, if_pos, d5, c_put ht (show k < 30 by omega) (show s < 4 by omega) d3, pw_cb]
        exact ok_some ⟨rfl, rfl⟩
      · rintro x h1 ⟨rfl, rfl⟩ h2 e2
        have tm := trL_m t ht
        have ep : eqx [86 + 2 * t] h (pL h (86 + 2 * t) k (cutV s v)) := eqx_pL (by simp)
        have k174 : h2.1 174 = h.1 174 := by rw [(e2 174 (by decide)).1]; rfl
        have k175 : h2.1 175 = h.1 175 := by rw [(e2 175 (by decide)).1]; rfl
        have v175 : (pI h2 152 5 (nI 0)).1 175 t = nI m := by rw [pw_pIo (by omega), k175]; exact d6
        have v174 : (pI h2 152 5 (nI 0)).1 174 t = nI s := by rw [pw_pIo (by omega), k174]; exact d4
        unfold f_X12_write
        simp only [r h2 k174, pw_cb, pw_lit]
        refine ok_lt ?_
        simp (disch := omega) only [th_pI, Int32.le_refl, if_true, r_152_37, pw_ldI, v175, hm1, pw_litL, hew, pw_cb]
        refine ok_joinT (fun y h5 => y = cutV s v ∧ h5 = pL (pI h2 152 5 (nI 0)) 176 (30 * t + k) (cutV s v)) ?_ (fun j hj => ?_)
        · rintro y h5 ⟨rfl, rfl⟩
          have e05 : eqx (trL ++ [152, 176, 177]) h (pL (pI h2 152 5 (nI 0)) 176 (30 * t + k) (cutV s v)) := eqx_pL2 (by decide) (eqx_trans (eqx_mono ep (fun x hx => by simp only [List.mem_cons, List.not_mem_nil, or_false] at hx; rw [hx]; exact List.mem_append_left _ tm.2)) (eqx_trans (eqx_mono e2 (by decide)) (eqx_pI (by decide))))
          refine ok_some ⟨by rw [pw_pLo (by omega)]; rfl, ⟨by rw [pw_pL1, th_pI], rfl⟩, I.t (eqx_mono e05 (by decide)) ?_ (by rw [(e05 31 (by decide)).1]; exact I.2.2.2.2.2.1) (CHc_to e05 (by decide) (by decide) (by decide) I.2.2.2.2.2.2.1) (tr_write (V := cutV s v) I ht (show k < 30 by omega) d e05 (fun c q1 q2 => ?_) (fun c q1 q2 x => ?_) (fun x => ?_))⟩
          · refine f152_trans (f152_eq ep (by simp; omega)) (f152_trans (f152_eq e2 (by decide)) ?_)
            exact f152_pI (j := 5) (v := nI 0) (by decide) (by decide) (by decide)
          · rw [pw_pL1]
            funext z
            rw [pw_pIo (by omega), (e2 c (by simp; omega)).1]
            rfl
          · rw [pw_pLo (by omega), pw_pI2, (e2 c (by simp; omega)).2]
            by_cases q : c = 86 + 2 * t ∧ x = k
            · rw [if_pos q, q.1, q.2, pw_pLs]
            · rw [if_neg q, pw_pLo q]
          · by_cases q : x = 30 * t + k
            · rw [if_pos q, q, pw_pLs]
            · rw [if_neg q, pw_pLo (by omega), pw_pI2, (e2 176 (by decide)).2, pw_pLo (by omega)]
        · simp only [bI_0', Bool.true_eq_false, if_false, e_cut ht (show k < 30 by omega) (show s < 4 by omega) v174, pw_cb]
          exact hj _ _ ⟨rfl, rfl⟩
    · refine PC_q2 (.inr 3) ?_ (fun h2 R2 I2 e2 => ?_)
      · unfold f_X11_write
        simp only [c, pw_cbx, gk_tr ht]
        refine ok_join (fun h1 => h1 = h) (fun h1 q1 => by rw [q1]; exact ok_some ⟨rfl, CQ_rfl I⟩) (fun j hj => ?_)
        simp only [pw_lit, d5]
        rw [c_rng (by omega) qb]
        exact hj _ rfl
      · have v175 : (pI h2 152 5 (nI 0)).1 175 t = nI m := by rw [pw_pIo (by omega), (e2 175 (by decide)).1]; exact d6
        have hew : ∀ h3 : PH, f_X12_within b.toInt64 (lN 0) (nI m - nI 1).toInt64 h3 = some (bI false, h3) := by
          intro h3
          by_cases m0 : m = 0
          · subst m0
            have e1 : (nI 0 - nI 1).toInt64 = -1 := by decide +kernel
            rw [e1, e_within]
            cases hb : (decide (lN 0 ≤ b.toInt64) && decide (b.toInt64 ≤ -1))
            · rfl
            · exfalso
              simp only [Bool.and_eq_true, decide_eq_true_eq] at hb
              have := Int64.le_trans hb.1 hb.2
              exact absurd this (by decide +kernel)
          · rw [pw_sub (by omega), nI_l (by omega)]
            exact e_withinI1 (by omega) (by rw [show m - 1 + 1 = m by omega]; exact qb)
        unfold f_X12_write
        simp only [r h2 (e2 174 (by decide)).1, pw_cb, pw_lit]
        refine ok_lt ?_
        simp (disch := omega) only [th_pI, Int32.le_refl, if_true, r_152_37, pw_ldI, v175, pw_litL, hew, pw_cb]
        refine ok_joinT (fun y h5 => h5 = pI (pI h2 152 5 (nI 0)) 152 5 (nI 3)) ?_ (fun j hj => ?_)
        · rintro y h5 rfl
          exact ok_some ⟨⟨(3, 3), rfl, by decide, th_pI⟩, RQ_trans RQ_th RQ_th⟩
        · simp only [bI_0', if_true, e_fails, pw_cb]
          exact hj _ _ rfl

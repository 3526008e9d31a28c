/- what the reference's sky leaves -/
def SkR (r : (Nat × Nat) ⊕ (Nat × Nat × Nat × LnS)) (h : PH) (b : Int32) (h' : PH) : Prop := h'.1 152 5 = nI 0 ∧ h'.1 152 7 = nI 0 ∧ match r with
  | .inl e => eqx [152, 154] h h' ∧ b = (-10 : Int32) - nI e.1 ∧ h'.1 152 15 = nI e.1 ∧ h'.1 152 16 = nI e.2
  | .inr q => eqx [152, 153, 154, 159, 160, 161] h h' ∧ b = nI q.2.2.1 ∧ h'.1 152 15 = nI 0 ∧ h'.1 152 16 = mI ∧ KF q.1 q.2.1 q.2.2.1 q.2.2.2 (h'.1 153) ∧ GK (h'.1 153) ∧ WW (h'.1 153) (h'.1 160) ∧ EV (h'.1 153) (h'.1 159)
set_option maxRecDepth 16384 in
theorem e_skyAll {n : Nat} {X : Nat → Nat} {m : Nat} {h : PH} (T : TX n X h) (hv : VL n X) (t7 : h.1 152 7 = nI m) (hm : n ≤ m) (hm9 : m ≤ 900) : ok (f_X12_sky 152 (nI n) h) (SkR (skyG n X) h) := by
  obtain ⟨-, w52, w53, w54, w55, w56, w57, w58⟩ := ref_words
  have hn := T.1
  have hsg := skyG_gd (n := n) (X := X) hv
  unfold f_X12_sky
  simp only [r_152_0, r_152_1]
  refine ok_lt ?_
  have hw : f_X12_within (nI n).toInt64 (0 : Int64) ((pI h 152 5 (0 : Int32)).1 152 7).toInt64 (pI h 152 5 (0 : Int32)) = some (bI true, pI h 152 5 (0 : Int32)) := by
    rw [pw_pIo (by omega), t7, e_within, nI_l (by omega), nI_l (by omega), pw_litL, decide_eq_true (show lN 0 ≤ lN n by rw [lN_le (by omega) (by omega)]; exact Nat.zero_le _), decide_eq_true (show lN n ≤ lN m by rw [lN_le (by omega) (by omega)]; exact hm)]
    rfl
  rw [hw]
  simp only [pw_cb]
  rw [if_neg (show ¬ bI true = (0 : Int32) by decide)]
  refine ok_lt (ok_lt (ok_lt (ok_lt (ok_lt (ok_lt ?_)))))
  generalize hh8 : pI (pI (pI (pI (pI (pI h 152 5 (0 : Int32)) 152 8 (nI n)) 152 7 (0 : Int32)) 152 9 (0 : Int32)) 152 13 (0 : Int32)) 152 17 (0 : Int32) = h8
  have e8 : eqx [152] h h8 := by
    rw [← hh8]
    exact eqx_trans (eqx_pI (by simp)) (eqx_trans (eqx_pI (by simp)) (eqx_trans (eqx_pI (by simp)) (eqx_trans (eqx_pI (by simp)) (eqx_trans (eqx_pI (by simp)) (eqx_pI (by simp))))))
  have x5 : h8.1 152 5 = nI 0 := by rw [← hh8]; simp (disch := omega) only [pw_pIs, pw_pIo, pw_lit]
  have x8 : h8.1 152 8 = nI n := by rw [← hh8]; simp (disch := omega) only [pw_pIs, pw_pIo, pw_lit]
  have x7 : h8.1 152 7 = nI 0 := by rw [← hh8]; simp (disch := omega) only [pw_pIs, pw_pIo, pw_lit]
  have x9 : h8.1 152 9 = nI 0 := by rw [← hh8]; simp (disch := omega) only [pw_pIs, pw_pIo, pw_lit]
  have x13 : h8.1 152 13 = nI 0 := by rw [← hh8]; simp (disch := omega) only [pw_pIs, pw_pIo, pw_lit]
  have x17 : h8.1 152 17 = nI 0 := by rw [← hh8]; simp (disch := omega) only [pw_pIs, pw_pIo, pw_lit]
  clear hh8 hw
  refine ok_join (fun h10 => eqx [154] h8 h10 ∧ ∀ j, j < 1200 → h10.1 154 j = nI 0) ?_ (fun j72 hj72 => e_empty (j72 := j72) (fun rec s hh => by unfold b_X12_sky_52; simp only [r_152_1]) (fun h' e y => hj72 h' ⟨e, y⟩))
  rintro h10 ⟨e10, y10⟩
  have st3 : ∀ (g : PH → Option (Int32 × PH)), stI h10 154 1200 (3 : Int32) (3 : Int32) g = g (pI h10 154 3 (nI 3)) := fun g => by
    rw [pw_lit, pw_stI (by omega) (by omega)]
  rw [st3]
  have e11 : eqx [154] h8 (pI h10 154 3 (nI 3)) := eqx_trans e10 (eqx_pI (by simp))
  have z11 : Z4 0 0 (pI h10 154 3 (nI 3)) := ⟨by rw [pw_pIo (by omega)]; exact y10 1 (by decide), by rw [pw_pIo (by omega)]; exact y10 2 (by decide), pw_pIs, fun j h0 h1 h2 h3 => by rw [pw_pIo (by omega)]; exact y10 j h0⟩
  generalize pI h10 154 3 (nI 3) = h11 at *
  have d152 := (e11 152 (by decide)).1
  have T11 := TX_to e11 (by decide) (by decide) (TX_to e8 (by decide) (by decide) T)
  refine ok_cb (e_readsOn (e := 0) T11 (by rw [d152]; exact x8) (by rw [d152]; exact x9) (Nat.zero_le _)) ?_
  rintro r12 h13 ⟨f13, R13⟩
  have fo : ∀ j, j ≠ 9 → j ≠ 10 → j ≠ 11 → j ≠ 12 → h13.1 152 j = h8.1 152 j := fun j a b c d => by rw [f13.2 j a b c d, d152]
  have R13' : HR n X 0 0 (sk n X 0) h13 := ⟨TX_to f13.1 (by decide) (by decide) T11, R13, by rw [fo 13 (by decide) (by decide) (by decide) (by decide)]; exact x13, by rw [fo 17 (by decide) (by decide) (by decide) (by decide)]; exact x17, by unfold Z4; rw [(f13.1 154 (by decide)).1]; exact z11⟩
  have E13 : eqx [152, 154] h h13 := eqx_trans (eqx_mono e8 (by decide)) (eqx_trans (eqx_mono e11 (by decide)) (eqx_mono f13.1 (by decide)))
  have k5 : h13.1 152 5 = nI 0 := by rw [fo 5 (by decide) (by decide) (by decide) (by decide)]; exact x5
  have k7 : h13.1 152 7 = nI 0 := by rw [fo 7 (by decide) (by decide) (by decide) (by decide)]; exact x7
  clear fo x5 x7 x8 x9 x13 x17 e8 e10 e11 y10 z11 T11 d152 st3
  refine ok_cb (e_mustWord (w := 2) R13'.1 R13'.2.1 R13'.2.2.1 (by decide) (by decide) (by decide) w52 (by decide)) ?_
  rintro r14 h15 ⟨f15, y1, y2⟩
  have FLt4 : ∀ {e : Nat × Nat} {hh : PH} {j : Nat} {v : Int32}, FLt e hh → FLt e (pI hh 154 j v) := fun l => ⟨by rw [pw_pIo (by omega)]; exact l.1, by rw [pw_pIo (by omega)]; exact l.2⟩
  refine ok_cb (P := fun r h17 => FrW h13 h17 ∧ ((∃ e : Nat × Nat, skyG n X = .inl e ∧ 1 ≤ e.1 ∧ e.1 ≤ 4 ∧ FLt e h17) ∨ ∃ a : Nat × Nat, tc n X (sk n X 0) = 2 ∧ num n X 1 4 (nx n X (sk n X 0)) = .inr a ∧ r = nI a.2 ∧ HR n X 0 0 a.1 h17)) ?_ ?_
  · by_cases c2 : tc n X (sk n X 0) = 2
    · have hnx := tc_nx (X := X) (b := sk n X 0) (n := n) (by omega)
      obtain ⟨g15, R15⟩ := y1 c2
      have r15 := R13'.on g15 R15
      refine ok_mono (e_number (lo := 1) (hi := 4) r15.1 r15.2.1 r15.2.2.1 (by decide) (by decide) hv) ?_
      rintro r h17 ⟨f17, -, q⟩
      refine ⟨FrW_trans (FrW_R f15) (FrW_R f17), ?_⟩
      cases hq : num n X 1 4 (nx n X (sk n X 0)) with
      | inl e =>
        rw [hq] at q
        have hsk : skyG n X = .inl e := by
          unfold skyG skyH
          rw [if_pos c2, hq]
          rfl
        exact Or.inl ⟨e, hsk, (num_e hq).1, (num_e hq).2, q⟩
      | inr a =>
        rw [hq] at q
        obtain ⟨rfl, g17, R17, -⟩ := q
        exact Or.inr ⟨a, c2, rfl, rfl, r15.on g17 R17⟩
    · have l15 := y2 c2
      have hB : BX h15 := FLt_B (flt_ok (by decide) (by decide)) l15
      have hsk : skyG n X = .inl (flt n X 2 (sk n X 0)) := by
        unfold skyG skyH
        rw [if_neg c2]
        rfl
      rw [show f_X12_number 152 (1 : Int32) (4 : Int32) h15 = some ((1 : Int32), h15) from e_numberB hB]
      exact ok_some ⟨FrW_R f15, Or.inl ⟨_, hsk, (flt_ok (by decide) (by decide)).1, (flt_ok (by decide) (by decide)).2, l15⟩⟩
  · rintro r16 h17 ⟨F17, q17⟩
    have st1 : ∀ (g : PH → Option (Int32 × PH)), stI h17 154 1200 (1 : Int32) r16 g = g (pI h17 154 1 r16) := fun g => by
      rw [pw_lit, pw_stI (by omega) (by omega)]
    rw [st1]
    clear st1
    refine ok_joinT (fun t h20 => FrW h13 h20 ∧ ((∃ e : Nat × Nat, skyG n X = .inl e ∧ 1 ≤ e.1 ∧ e.1 ≤ 4 ∧ FLt e h20) ∨ ∃ a : Nat × Nat, tc n X (sk n X 0) = 2 ∧ num n X 1 4 (nx n X (sk n X 0)) = .inr a ∧ t = nI (mdN a.2) ∧ HR n X a.2 0 a.1 h20)) ?_ (fun j133 hj133 => ?_)
    · rintro t h20 ⟨F20, q20⟩
      refine ok_cb (P := fun r h22 => FrW h13 h22 ∧ ((∃ e : Nat × Nat, skyG n X = .inl e ∧ 1 ≤ e.1 ∧ e.1 ≤ 4 ∧ FLt e h22) ∨ ∃ a b : Nat × Nat, tc n X (sk n X 0) = 2 ∧ num n X 1 4 (nx n X (sk n X 0)) = .inr a ∧ num n X 1 (mdN a.2) a.1 = .inr b ∧ r = nI b.2 ∧ HR n X a.2 0 b.1 h22)) ?_ ?_
      · rcases q20 with ⟨e, hsk, he1, he2, l⟩ | ⟨a, c2, ha, rfl, r20⟩
        · have hB : BX h20 := FLt_B ⟨he1, he2⟩ l
          rw [e_numberB hB]
          exact ok_some ⟨F20, Or.inl ⟨e, hsk, he1, he2, l⟩⟩
        · obtain ⟨ha1, ha2, ha3, ha4⟩ := num_r ha
          have hb1 : 1 ≤ a.2 ∧ a.2 ≤ 4 := by rw [ha1]; exact ⟨ha3, ha4⟩
          have hmd := mdN_b hb1.1 hb1.2
          refine ok_mono (e_number (lo := 1) (hi := mdN a.2) r20.1 r20.2.1 r20.2.2.1 (by decide) (by omega) hv) ?_
          rintro r h22 ⟨f22, -, q⟩
          refine ⟨FrW_trans F20 (FrW_R f22), ?_⟩
          cases hq : num n X 1 (mdN a.2) a.1 with
          | inl e =>
            rw [hq] at q
            have hsk : skyG n X = .inl e := by
              unfold skyG skyH
              rw [if_pos c2, ha]
              show bnd (bnd (num n X 1 (mdN a.2) a.1) _) _ = _
              rw [hq]
              rfl
            exact Or.inl ⟨e, hsk, (num_e hq).1, (num_e hq).2, q⟩
          | inr b =>
            rw [hq] at q
            obtain ⟨rfl, g22, R22, -⟩ := q
            exact Or.inr ⟨a, b, c2, ha, hq, rfl, r20.on g22 R22⟩
      · rintro r21 h22 ⟨F22, q22⟩
        have st2 : ∀ (g : PH → Option (Int32 × PH)), stI h22 154 1200 (2 : Int32) r21 g = g (pI h22 154 2 r21) := fun g => by
          rw [pw_lit, pw_stI (by omega) (by omega)]
        rw [st2]
        clear st2
        refine ok_cb (P := fun _ h25 => FrW h13 h25 ∧ ((∃ e : Nat × Nat, skyG n X = .inl e ∧ 1 ≤ e.1 ∧ e.1 ≤ 4 ∧ FLt e h25) ∨ ∃ q : Nat × Nat × Nat, skyH n X = .inr q ∧ RLn n X q.2.1 q.2.2 q.1 s0 1 h25)) ?_ ?_
        · rcases q22 with ⟨e, hsk, he1, he2, l⟩ | ⟨a, b, c2, ha, hb, rfl, r22⟩
          · have l' := FLt4 (j := 2) (v := r21) l
            rw [e_stopB (FLt_B ⟨he1, he2⟩ l')]
            exact ok_some ⟨FrW_trans F22 FrW_4, Or.inl ⟨e, hsk, he1, he2, l'⟩⟩
          · have r23 : HR n X a.2 b.2 b.1 (pI h22 154 2 (nI b.2)) := r22.p2
            refine ok_mono (e_stop r23.rl (Nat.zero_le _)) ?_
            rintro r h25 ⟨F25, q⟩
            refine ⟨FrW_trans F22 (FrW_trans FrW_4 F25), ?_⟩
            have hyp : skyH n X = bnd (stopG n X b.1) (fun e => .inr (e, a.2, b.2)) := by
              unfold skyH
              rw [if_pos c2, ha]
              show bnd (num n X 1 (mdN a.2) a.1) _ = _
              rw [hb]
              rfl
            cases hs : stopG n X b.1 with
            | inl e =>
              rw [hs] at q hyp
              have hsk : skyG n X = .inl e := by
                unfold skyG
                rw [hyp]
                rfl
              exact Or.inl ⟨e, hsk, (stop_e hs).1, (stop_e hs).2, q⟩
            | inr e =>
              rw [hs] at q hyp
              exact Or.inr ⟨(e, a.2, b.2), hyp, q⟩
        · rintro r24 h25 ⟨F25, q25⟩
          refine ok_join (fun h26 => FrW h13 h26 ∧ match skyG n X with
            | .inl e => FLt e h26
            | .inr q => ∃ p', RLn n X q.1 q.2.1 p' q.2.2.2 q.2.2.1 h26) ?_ (fun j162 hj162 => ?_)
          · rintro h26 ⟨F26, m26⟩
            refine ok_lt ?_
            have k526 : h26.1 152 5 = nI 0 := by rw [F26.2 5 (by decide)]; exact k5
            have k726 : h26.1 152 7 = nI 0 := by rw [F26.2 7 (by decide)]; exact k7
            have E26 : eqx [152, 154] h h26 := eqx_trans E13 F26.1
            cases hs : skyG n X with
            | inl e =>
              rw [hs] at m26 hsg
              have b0 : ¬ ((pI h26 152 15 (h26.1 152 13)).1 152 13 = 0) := by
                rw [pw_pIo (by omega)]
                exact FLt_B hsg m26
              refine ok_joinT (fun t h29 => h29 = pI h26 152 15 (h26.1 152 13) ∧ t = nI e.2) ?_ (fun j186 hj186 => ?_)
              · rintro t h29 ⟨rfl, rfl⟩
                refine ok_lt ?_
                rw [if_neg (show ¬ ((pI (pI h26 152 15 (h26.1 152 13)) 152 16 (nI e.2)).1 152 13 = 0) by rw [pw_pIo (by omega)]; exact b0)]
                refine ok_some ⟨by rw [pw_pIo (by omega), pw_pIo (by omega)]; exact k526, by rw [pw_pIo (by omega), pw_pIo (by omega)]; exact k726, eqx_trans E26 (eqx_trans (eqx_pI (by simp)) (eqx_pI (by simp))), ?_, ?_, pw_pIs⟩
                · rw [pw_pIo (by omega), pw_pIo (by omega), m26.1]
                · rw [pw_pIo (by omega), pw_pIs]
                  exact m26.1
              · rw [if_neg b0]
                exact hj186 _ _ ⟨rfl, by rw [pw_pIo (by omega)]; exact m26.2⟩
            | inr q =>
              rw [hs] at m26 hsg
              obtain ⟨p', rl⟩ := m26
              obtain ⟨g1, g2, g3, g4, g5, g6, g7, g8⟩ := hsg
              have b0 : (pI h26 152 15 (h26.1 152 13)).1 152 13 = 0 := by
                rw [pw_pIo (by omega)]
                exact rl.1.2.2.1
              refine ok_joinT (fun t h29 => h29 = pI h26 152 15 (h26.1 152 13) ∧ t = mI) ?_ (fun j186 hj186 => ?_)
              · rintro t h29 ⟨rfl, rfl⟩
                refine ok_lt ?_
                rw [if_pos (show (pI (pI h26 152 15 (h26.1 152 13)) 152 16 mI).1 152 13 = 0 by rw [pw_pIo (by omega)]; exact b0)]
                have e30 : eqx [152] h26 (pI (pI h26 152 15 (h26.1 152 13)) 152 16 mI) := eqx_trans (eqx_pI (by simp)) (eqx_pI (by simp))
                have u5 : (pI (pI h26 152 15 (h26.1 152 13)) 152 16 mI).1 152 5 = nI 0 := by rw [pw_pIo (by omega), pw_pIo (by omega)]; exact k526
                have u7 : (pI (pI h26 152 15 (h26.1 152 13)) 152 16 mI).1 152 7 = nI 0 := by rw [pw_pIo (by omega), pw_pIo (by omega)]; exact k726
                have u15 : (pI (pI h26 152 15 (h26.1 152 13)) 152 16 mI).1 152 15 = nI 0 := by rw [pw_pIo (by omega), pw_pIs]; exact rl.1.2.2.1
                have u16 : (pI (pI h26 152 15 (h26.1 152 13)) 152 16 mI).1 152 16 = mI := pw_pIs
                generalize pI (pI h26 152 15 (h26.1 152 13)) 152 16 mI = h30 at *
                have K30 : ∀ j, h30.1 154 j = h26.1 154 j := fun j => by rw [(e30 154 (by decide)).1]
                refine ok_lt ?_
                refine ok_join (fun h32 => eqx [153] h30 h32 ∧ ∀ j, j < 1200 → h32.1 153 j = h30.1 154 j) ?_ (fun j231 hj231 => e_copy (j231 := j231) (fun rec s hh => by unfold b_X12_sky_206; simp only [r_152_0, r_152_1]) (fun h' e y => hj231 h' ⟨e, y⟩))
                rintro h32 ⟨e32, y32⟩
                have kf : KF q.1 q.2.1 q.2.2.1 q.2.2.2 (h32.1 153) := KF_of rl g7.2.2.1 (fun j hj => by rw [y32 j hj, K30])
                have gk := KF_GK kf g7 hn g6 g8 g1 g3 g2 g4 g5
                refine ok_cb (e_laysTruths gk.1 gk.2.2 rfl) ?_
                rintro r33 h34 ⟨e34, w34, v34⟩
                have e153 := (e34 153 (by decide)).1
                have f152 : h34.1 152 = h30.1 152 := by rw [(e34 152 (by decide)).1, (e32 152 (by decide)).1]
                have ld0 : ∀ (g : Int32 → Option (Int32 × PH)), ldI h34 153 1200 (0 : Int32) g = g (nI q.2.2.1) := fun g => by
                  rw [pw_lit, pw_ldI (by omega) (by omega), e153, kf.1]
                rw [ld0]
                refine ok_some ⟨by rw [f152]; exact u5, by rw [f152]; exact u7, eqx_trans (eqx_mono E26 (by decide)) (eqx_trans (eqx_mono e30 (by decide)) (eqx_trans (eqx_mono e32 (by decide)) (eqx_mono e34 (by decide)))), rfl, by rw [f152]; exact u15, by rw [f152]; exact u16, by rw [e153]; exact kf, by rw [e153]; exact gk, by rw [e153]; exact w34, by rw [e153]; exact v34⟩
              · rw [if_pos b0]
                exact hj186 _ _ ⟨rfl, rfl⟩
          · rcases q25 with ⟨e, hsk, he1, he2, l⟩ | ⟨q, hq, rl⟩
            · have hB : BX h25 := FLt_B ⟨he1, he2⟩ l
              have hFU : 1000 < FU := fu_lt (by omega)
              obtain ⟨F, hF⟩ : ∃ F, FU = F + 1 := ⟨FU - 1, by omega⟩
              rw [hF, lp_s]
              unfold b_X12_sky_141
              rw [if_neg hB]
              refine hj162 h25 ⟨F25, ?_⟩
              rw [hsk]
              exact l
            · have hy := skyH_gd n X
              rw [hq] at hy
              obtain ⟨z1, z2, z3, z4, z5, z6, z7⟩ := hy
              refine e_lines (j162 := j162) (fun rec hh => rfl) hv z3 z5 z4 z6 rl (OKS_0 _ _) (Nat.zero_le _) (fun h' R' => hj162 h' ⟨FrW_trans F25 R'.1, ?_⟩)
              have hsk : skyG n X = bnd (linesG n X q.2.1 q.2.2 901 q.1 1 s0) (fun r => .inr (q.2.1, q.2.2, r.1, r.2)) := by
                unfold skyG
                rw [hq]
                rfl
              rw [hsk]
              have R2 := R'.2
              cases hl : linesG n X q.2.1 q.2.2 901 q.1 1 s0 with
              | inl e =>
                rw [hl] at R2
                exact R2.2.2
              | inr r =>
                rw [hl] at R2
                exact R2
    · rcases q17 with ⟨e, hsk, he1, he2, l⟩ | ⟨a, c2, ha, rfl, r17⟩
      · have l' := FLt4 (j := 1) (v := r16) l
        rw [if_neg (FLt_B ⟨he1, he2⟩ l')]
        exact hj133 _ _ ⟨FrW_trans F17 FrW_4, Or.inl ⟨e, hsk, he1, he2, l'⟩⟩
      · obtain ⟨ha1, ha2, ha3, ha4⟩ := num_r ha
        have hb1 : 1 ≤ a.2 ∧ a.2 ≤ 4 := by rw [ha1]; exact ⟨ha3, ha4⟩
        have r18 : HR n X a.2 0 a.1 (pI h17 154 1 (nI a.2)) := r17.p1
        have F18 : FrW h13 (pI h17 154 1 (nI a.2)) := FrW_trans F17 FrW_4
        have v1 : (pI h17 154 1 (nI a.2)).1 154 1 = nI a.2 := pw_pIs
        generalize pI h17 154 1 (nI a.2) = h18 at *
        rw [if_pos (show h18.1 152 13 = 0 from r18.2.2.1)]
        have ld1 : ∀ (g : Int32 → Option (Int32 × PH)), ldI h18 154 1200 (1 : Int32) g = g (nI a.2) := fun g => by
          rw [pw_lit, pw_ldI (by omega) (by omega), v1]
        have hdv : (12 : Int32) / nI a.2 = nI (12 / a.2) := pw_dv (by decide) (by omega) (by omega)
        have hlt : (nI (12 / a.2) < (6 : Int32)) = (12 / a.2 < 6) := pw_ltI (a := 12 / a.2) (b := 6) (by have := Nat.div_le_self 12 a.2; omega) (by omega)
        rw [ld1, pw_nz (by omega) (by omega), hdv]
        simp only [hlt]
        refine hj133 _ _ ⟨F18, Or.inr ⟨a, c2, ha, ?_, r18⟩⟩
        unfold mdN
        by_cases cc : 12 / a.2 < 6
        · rw [if_pos cc, if_pos cc]
        · rw [if_neg cc, if_neg cc]
          rfl

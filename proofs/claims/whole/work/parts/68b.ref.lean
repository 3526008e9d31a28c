/-! ===== the reference: a wish ===== -/
set_option maxRecDepth 16384 in
theorem opn_s (i : Nat) (h : i < 10) : (2 ^ i - 1) ||| 2 ^ i = 2 ^ (i + 1) - 1 := (by decide : ∀ i, i < 10 → (2 ^ i - 1) ||| 2 ^ i = 2 ^ (i + 1) - 1) i h
/- a wish before its semicolon -/
def preW (n : Nat) (X : Nat → Nat) (np nd p : Nat) (s : LnS) : (Nat × Nat) ⊕ (Nat × LnS) :=
  bnd (headG n X p) (fun q => bnd (rTruth n X np nd 6 q.1 s.2.2.2) (fun r => .inr (r.1, s.1, s.2.1, s.2.2.1 ++ [(q.2.1, q.2.2.1, q.2.2.2, r.2.length)], r.2)))
set_option maxRecDepth 16384 in
theorem e_wishEnd {n : Nat} {X : Nat → Nat} {np nd p b w ln : Nat} {c : Prop} {hd : Decidable c} {s : LnS} {l : List Nat} {h : PH} (S : ST n X np nd 0 p l h) (F : FH s ln h) (hi : s.2.2.1.length < 10) : ok (ldI h 154 1200 (5 : Int32) (fun (x22 : Int32) => lt x22 (fun (x23 : Int32) => stI h 154 1200 ((24 : Int32) + x23) (nI b) (fun (h24 : PH) => stI h24 154 1200 ((34 : Int32) + x23) (nI w) (fun (h25 : PH) => lt (fun (t26 : Int32) (h27 : PH) => stI h27 154 1200 ((44 : Int32) + x23) t26 (fun (h28 : PH) => ldI h28 154 1200 (7 : Int32) (fun (x29 : Int32) => stI h28 154 1200 (7 : Int32) (x29 ||| ((1 : Int32) <<< (x23 &&& 31))) (fun (h30 : PH) => ldI h30 154 1200 (5 : Int32) (fun (x31 : Int32) => stI h30 154 1200 (5 : Int32) (x31 + (1 : Int32)) (fun (h32 : PH) => ldI h32 154 1200 (5 : Int32) (fun (x33 : Int32) => ldI h32 154 1200 (65 : Int32) (fun (x34 : Int32) => stI h32 154 1200 ((54 : Int32) + x33) x34 (fun (h35 : PH) => some ((), h35)))))))))) (fun (j135 : Int32 → PH → Option (Unit × PH)) => if bI (decide c) = 0 then (j135 (0 : Int32) h25) else (j135 (1 : Int32) h25))))))) (fun _ h' => FrW h h' ∧ ST n X np nd 0 p l h' ∧ FH (s.1, s.2.1, s.2.2.1 ++ [(b, w, (if c then 1 else 0), l.length)], l) ln h') := by
  obtain ⟨cl, wd, V, l0⟩ := s
  obtain ⟨s1, s2, s3, s4, s5, s6, s7, s8, s9⟩ := S
  obtain ⟨d1, d2, d3, d4, d5, d6, d7, d8, d9⟩ := F
  have hi : V.length < 10 := hi
  have d4 : h.1 154 5 = nI V.length := d4
  have d6 : h.1 154 7 = nI (2 ^ V.length - 1) := d6
  have hn := s1.1
  have hpn := s2.2.2.2.2.2
  simp only [pw_lit]
  have k24 : nI 24 + nI V.length = nI (24 + V.length) := nI_add 24 _
  have k34 : nI 34 + nI V.length = nI (34 + V.length) := nI_add 34 _
  have k44 : nI 44 + nI V.length = nI (44 + V.length) := nI_add 44 _
  have k54 : nI 54 + nI (V.length + 1) = nI (54 + (V.length + 1)) := nI_add 54 _
  have k1 : nI V.length + nI 1 = nI (V.length + 1) := nI_add _ 1
  have hsh : nI 1 <<< (nI V.length &&& nI 31) = nI (2 ^ V.length) := by
    rw [pw_and]
    exact pw_shl1 (by omega)
  rw [pw_ldI (k := 5) (by omega) (by omega), d4]
  refine ok_lt ?_
  rw [k24, pw_stI (by omega) (by omega), k34, pw_stI (by omega) (by omega)]
  have main : ∀ (m : Nat), m = (if c then 1 else 0) → ok (stI (pI (pI h 154 (24 + V.length) (nI b)) 154 (34 + V.length) (nI w)) 154 1200 (nI 44 + nI V.length) (nI m) (fun (h28 : PH) => ldI h28 154 1200 (nI 7) (fun (x29 : Int32) => stI h28 154 1200 (nI 7) (x29 ||| (nI 1 <<< (nI V.length &&& nI 31))) (fun (h30 : PH) => ldI h30 154 1200 (nI 5) (fun (x31 : Int32) => stI h30 154 1200 (nI 5) (x31 + nI 1) (fun (h32 : PH) => ldI h32 154 1200 (nI 5) (fun (x33 : Int32) => ldI h32 154 1200 (nI 65) (fun (x34 : Int32) => stI h32 154 1200 (nI 54 + x33) x34 (fun (h35 : PH) => some ((), h35)))))))))) (fun _ h' => FrW h h' ∧ ST n X np nd 0 p l h' ∧ FH (cl, wd, V ++ [(b, w, (if c then 1 else 0), l.length)], l) ln h') := by
    intro m hm
    rw [← hm, k44, pw_stI (by omega) (by omega)]
    generalize hh2 : pI (pI (pI h 154 (24 + V.length) (nI b)) 154 (34 + V.length) (nI w)) 154 (44 + V.length) (nI m) = h2
    have F2 : FrW h h2 := by
      rw [← hh2]
      exact FrW_trans FrW_4 (FrW_trans FrW_4 FrW_4)
    have x7 : h2.1 154 7 = nI (2 ^ V.length - 1) := by rw [← hh2, pw_pIo (by omega), pw_pIo (by omega), pw_pIo (by omega)]; exact d6
    have x5 : h2.1 154 5 = nI V.length := by rw [← hh2, pw_pIo (by omega), pw_pIo (by omega), pw_pIo (by omega)]; exact d4
    have x65 : h2.1 154 65 = nI l.length := by rw [← hh2, pw_pIo (by omega), pw_pIo (by omega), pw_pIo (by omega)]; exact s7
    have y24 : h2.1 154 (24 + V.length) = nI b := by rw [← hh2, pw_pIo (by omega), pw_pIo (by omega), pw_pIs]
    have y34 : h2.1 154 (34 + V.length) = nI w := by rw [← hh2, pw_pIo (by omega), pw_pIs]
    have y44 : h2.1 154 (44 + V.length) = nI m := by rw [← hh2, pw_pIs]
    have yo : ∀ j, j ≠ 24 + V.length → j ≠ 34 + V.length → j ≠ 44 + V.length → h2.1 154 j = h.1 154 j := fun j j1 j2 j3 => by rw [← hh2, pw_pIo (by omega), pw_pIo (by omega), pw_pIo (by omega)]
    rw [pw_ldI (k := 7) (by omega) (by omega), x7, hsh, pw_or, opn_s V.length hi, pw_stI (k := 7) (by omega) (by omega)]
    have z5 : (pI h2 154 7 (nI (2 ^ (V.length + 1) - 1))).1 154 5 = nI V.length := by rw [pw_pIo (by omega)]; exact x5
    rw [pw_ldI (k := 5) (by omega) (by omega), z5, k1, pw_stI (k := 5) (by omega) (by omega)]
    have w5 : (pI (pI h2 154 7 (nI (2 ^ (V.length + 1) - 1))) 154 5 (nI (V.length + 1))).1 154 5 = nI (V.length + 1) := pw_pIs
    have w65 : (pI (pI h2 154 7 (nI (2 ^ (V.length + 1) - 1))) 154 5 (nI (V.length + 1))).1 154 65 = nI l.length := by rw [pw_pIo (by omega), pw_pIo (by omega)]; exact x65
    rw [pw_ldI (k := 5) (by omega) (by omega), w5, pw_ldI (k := 65) (by omega) (by omega), w65, k54, pw_stI (by omega) (by omega)]
    generalize hh3 : pI (pI (pI h2 154 7 (nI (2 ^ (V.length + 1) - 1))) 154 5 (nI (V.length + 1))) 154 (54 + (V.length + 1)) (nI l.length) = h3
    have F3 : FrW h2 h3 := by
      rw [← hh3]
      exact FrW_trans FrW_4 (FrW_trans FrW_4 FrW_4)
    have v7 : h3.1 154 7 = nI (2 ^ (V.length + 1) - 1) := by rw [← hh3, pw_pIo (by omega), pw_pIo (by omega), pw_pIs]
    have v5 : h3.1 154 5 = nI (V.length + 1) := by rw [← hh3, pw_pIo (by omega), pw_pIs]
    have v54 : h3.1 154 (54 + (V.length + 1)) = nI l.length := by rw [← hh3, pw_pIs]
    have vo : ∀ j, j ≠ 7 → j ≠ 5 → j ≠ 54 + (V.length + 1) → h3.1 154 j = h2.1 154 j := fun j j1 j2 j3 => by rw [← hh3, pw_pIo (by omega), pw_pIo (by omega), pw_pIo (by omega)]
    have o : ∀ j, j ≠ 7 → j ≠ 5 → j ≠ 54 + (V.length + 1) → j ≠ 24 + V.length → j ≠ 34 + V.length → j ≠ 44 + V.length → h3.1 154 j = h.1 154 j := fun j j1 j2 j3 j4 j5 j6 => by rw [vo j j1 j2 j3, yo j j4 j5 j6]
    have FF := FrW_trans F2 F3
    have e152 : h3.1 152 = h.1 152 := by
      rw [← hh3, ← hh2]
      have e : eqx [154] h (pI (pI (pI (pI (pI (pI h 154 (24 + V.length) (nI b)) 154 (34 + V.length) (nI w)) 154 (44 + V.length) (nI m)) 154 7 (nI (2 ^ (V.length + 1) - 1))) 154 5 (nI (V.length + 1))) 154 (54 + (V.length + 1)) (nI l.length)) := eqx_trans (eqx_pI (by simp)) (eqx_trans (eqx_pI (by simp)) (eqx_trans (eqx_pI (by simp)) (eqx_trans (eqx_pI (by simp)) (eqx_trans (eqx_pI (by simp)) (eqx_pI (by simp))))))
      exact (e 152 (by decide)).1
    refine ok_some ⟨FF, ⟨TX_to FF.1 (by decide) (by decide) s1, by unfold TR; rw [e152]; exact s2, by rw [e152]; exact s3, by rw [e152]; exact s4, by rw [o 1 (by omega) (by omega) (by omega) (by omega) (by omega) (by omega)]; exact s5, by rw [o 2 (by omega) (by omega) (by omega) (by omega) (by omega) (by omega)]; exact s6, by rw [o 65 (by omega) (by omega) (by omega) (by omega) (by omega) (by omega)]; exact s7, fun k hk => by rw [o _ (by omega) (by omega) (by omega) (by omega) (by omega) (by omega)]; exact s8 k hk, s9⟩, by rw [o 0 (by omega) (by omega) (by omega) (by omega) (by omega) (by omega)]; exact d1, by rw [o 3 (by omega) (by omega) (by omega) (by omega) (by omega) (by omega)]; exact d2, by rw [o 4 (by omega) (by omega) (by omega) (by omega) (by omega) (by omega)]; exact d3, ?_, by rw [o 6 (by omega) (by omega) (by omega) (by omega) (by omega) (by omega)]; exact d5, ?_, fun i hi2 => ?_, fun i hi2 => ?_, fun j h1 h2 => by rw [o j (by omega) (by omega) (by omega) (by omega) (by omega) (by omega)]; exact d9 j h1 h2⟩
    · show h3.1 154 5 = nI (V ++ [(b, w, m, l.length)]).length
      rw [List.length_append, List.length_singleton]
      exact v5
    · show h3.1 154 7 = nI (2 ^ (V ++ [(b, w, m, l.length)]).length - 1)
      rw [List.length_append, List.length_singleton]
      exact v7
    · have hi2 : i < (V ++ [(b, w, m, l.length)]).length := hi2
      rw [List.length_append, List.length_singleton] at hi2
      show h3.1 154 (24 + i) = nI ((V ++ [(b, w, m, l.length)]).getD i wz).1 ∧ h3.1 154 (34 + i) = nI ((V ++ [(b, w, m, l.length)]).getD i wz).2.1 ∧ h3.1 154 (44 + i) = nI ((V ++ [(b, w, m, l.length)]).getD i wz).2.2.1
      rw [vo _ (by omega) (by omega) (by omega), vo _ (by omega) (by omega) (by omega), vo _ (by omega) (by omega) (by omega)]
      by_cases ci : i < V.length
      · rw [wd_app ci, yo _ (by omega) (by omega) (by omega), yo _ (by omega) (by omega) (by omega), yo _ (by omega) (by omega) (by omega)]
        exact d7 i ci
      · rw [show i = V.length by omega, wd_last]
        exact ⟨y24, y34, y44⟩
    · have hi2 : i ≤ (V ++ [(b, w, m, l.length)]).length := hi2
      rw [List.length_append, List.length_singleton] at hi2
      show h3.1 154 (54 + i) = nI (frm (V ++ [(b, w, m, l.length)]) i)
      by_cases ci : i ≤ V.length
      · rw [frm_app ci, o _ (by omega) (by omega) (by omega) (by omega) (by omega) (by omega)]
        exact d8 i ci
      · rw [show i = V.length + 1 by omega, frm_last]
        exact v54
  refine ok_joinT (fun t h27 => h27 = pI (pI h 154 (24 + V.length) (nI b)) 154 (34 + V.length) (nI w) ∧ t = nI (if c then 1 else 0)) ?_ (fun j hj => ?_)
  · rintro t h27 ⟨rfl, rfl⟩
    exact main _ rfl
  · by_cases q : c
    · rw [if_neg (show ¬ bI (decide c) = nI 0 by rw [decide_eq_true q]; decide)]
      exact hj _ _ ⟨rfl, by rw [if_pos q]⟩
    · rw [if_pos (show bI (decide c) = nI 0 by rw [decide_eq_false q]; rfl)]
      exact hj _ _ ⟨rfl, by rw [if_neg q]⟩

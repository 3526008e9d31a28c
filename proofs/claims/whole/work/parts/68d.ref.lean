/-! ===== the reference: all lines, the whole text ===== -/
set_option maxRecDepth 16384 in
theorem krf_0 {n : Nat} {X : Nat → Nat} {p : Nat} : krf n X p = 0 ↔ tkd n X p = 0 := by
  have hle := tkd_le n X p
  unfold krf
  by_cases q : tkd n X p = 4
  · rw [if_pos q]
    have := isG_b (tkd4 q).2.2
    omega
  · rw [if_neg q]
    split
    · omega
    · split
      · omega
      · split <;> omega
def EnR (n : Nat) (X : Nat → Nat) (np nd : Nat) (h : PH) (r : (Nat × Nat) ⊕ (Nat × LnS)) (h' : PH) : Prop := FrW h h' ∧ match r with
  | .inl e => 1 ≤ e.1 ∧ e.1 ≤ 4 ∧ FLt e h'
  | .inr q => ∃ p', RLn n X np nd p' q.2 q.1 h'
set_option maxRecDepth 16384 in
theorem e_lines {n : Nat} {X : Nat → Nat} {np nd p ln : Nat} {s : LnS} {h : PH} {α : Type} {Q : α → PH → Prop} {j162 : PH → Option (α × PH)} {body : (Unit → PH → Option (α × PH)) → Unit → PH → Option (α × PH)} (hbody : ∀ rec h, body rec () h = if (h.1 152 13) = 0 then (if (h.1 152 11) = 0 then (j162 h) else (cb (f_X12_readLine 152 h) (fun (_ : Unit) (h40 : PH) => rec () h40))) else (j162 h)) (hv : VL n X) (h1 : 1 ≤ np) (h2 : 1 ≤ nd) (hnp : np ≤ 4) (hnd : nd ≤ 6) (r : RLn n X np nd p s ln h) (o : OKS np nd s) (hl : s.2.2.2.length ≤ p) (hj : ∀ h', EnR n X np nd h (linesG n X np nd 901 p ln s) h' → ok (j162 h') Q) : ok (lp body FU () h) Q := by
  have hn := r.1.1.1
  refine lp_ok (fun m _ h' => FrW h h' ∧ ((∃ p1 ln1 s1, RLn n X np nd p1 s1 ln1 h' ∧ OKS np nd s1 ∧ s1.2.2.2.length ≤ p1 ∧ n - p1 < m ∧ linesG n X np nd m p1 ln1 s1 = linesG n X np nd 901 p ln s) ∨ (∃ e : Nat × Nat, linesG n X np nd 901 p ln s = .inl e ∧ 1 ≤ e.1 ∧ e.1 ≤ 4 ∧ FLt e h'))) ?_ FU 901 _ h ⟨FrW_rfl h, Or.inl ⟨p, ln, s, r, o, hl, by omega, rfl⟩⟩ (fu_lt (by omega))
  rintro m rec u h' ⟨F1, ⟨p1, ln1, s1, r1, o1, hl1, hm, he⟩ | ⟨e, he, he1, he2, l⟩⟩ hrec
  · obtain ⟨m, rfl⟩ : ∃ m', m = m' + 1 := ⟨m - 1, by omega⟩
    have hpn := ST_b r1.1
    have hkl := krf_lt (p := p1) r1.1.1
    rw [hbody, if_pos (show h'.1 152 13 = 0 from r1.1.2.2.1)]
    have k11 : h'.1 152 11 = nI (krf n X p1) := r1.1.2.1.2.2.2.1
    rw [linesG] at he
    by_cases t : tkd n X p1 = 0
    · rw [if_pos t] at he
      rw [if_pos (show h'.1 152 11 = 0 by rw [k11, krf_0.mpr t]; rfl)]
      refine hj h' ⟨F1, ?_⟩
      rw [← he]
      exact ⟨p1, r1⟩
    · rw [if_neg t] at he
      have hk0 : krf n X p1 ≠ 0 := fun z => t (krf_0.mp z)
      rw [if_neg (show ¬ h'.1 152 11 = 0 by rw [k11]; exact nI_ne0 (by omega) (by omega))]
      refine ok_cb (e_line hv h1 h2 hnp hnd r1 o1) ?_
      rintro r2 h3 ⟨F3, q3⟩
      have gd := line_gd hv h1 h2 o1 hl1 hpn
      cases hq : lineG n X np nd p1 s1 with
      | inl e =>
        rw [hq] at q3 gd he
        exact hrec 0 _ h3 (by omega) ⟨FrW_trans F1 F3, Or.inr ⟨e, he.symm, gd.1, gd.2, q3⟩⟩
      | inr q =>
        rw [hq] at q3 gd he
        obtain ⟨g1, g2, g3, g4⟩ := gd
        exact hrec m _ h3 (by omega) ⟨FrW_trans F1 F3, Or.inl ⟨q.1, ln1 + 1, q.2, q3, g3, g4, by omega, he⟩⟩
  · rw [hbody, if_neg (FLt_B ⟨he1, he2⟩ l)]
    refine hj h' ⟨F1, ?_⟩
    rw [he]
    exact ⟨he1, he2, l⟩
/- the known row behind a success -/
def KF (np nd ln : Nat) (s : LnS) (K : Nat → Int32) : Prop := K 0 = nI ln ∧ K 1 = nI np ∧ K 2 = nI nd ∧ K 3 = nI s.1 ∧ K 4 = nI s.2.1 ∧ K 5 = nI s.2.2.1.length ∧ K 6 = nI 0 ∧ K 7 = nI (2 ^ s.2.2.1.length - 1) ∧ (∀ i, i < s.2.2.1.length → K (24 + i) = nI (s.2.2.1.getD i wz).1 ∧ K (34 + i) = nI (s.2.2.1.getD i wz).2.1 ∧ K (44 + i) = nI (s.2.2.1.getD i wz).2.2.1) ∧ (∀ i, i ≤ s.2.2.1.length → K (54 + i) = nI (frm s.2.2.1 i)) ∧ (∀ j, 8 ≤ j → j < 24 → K j = nI 0) ∧ K 65 = nI s.2.2.2.length ∧ ∀ k, k < s.2.2.2.length → K (236 + k) = nI (s.2.2.2.getD k 0)
set_option maxRecDepth 16384 in
theorem KF_of {n : Nat} {X : Nat → Nat} {np nd p ln : Nat} {s : LnS} {h : PH} {K : Nat → Int32} (r : RLn n X np nd p s ln h) (hl : s.2.2.1.length ≤ 10) (hk : ∀ j, j < 1200 → K j = h.1 154 j) : KF np nd ln s K := by
  obtain ⟨⟨s1, s2, s3, s4, s5, s6, s7, s8, s9⟩, d1, d2, d3, d4, d5, d6, d7, d8, d9⟩ := r
  have hn := s1.1
  have hpn := s2.2.2.2.2.2
  exact ⟨by rw [hk 0 (by decide)]; exact d1, by rw [hk 1 (by decide)]; exact s5, by rw [hk 2 (by decide)]; exact s6, by rw [hk 3 (by decide)]; exact d2, by rw [hk 4 (by decide)]; exact d3, by rw [hk 5 (by decide)]; exact d4, by rw [hk 6 (by decide)]; exact d5, by rw [hk 7 (by decide)]; exact d6, fun i hi => by rw [hk _ (by omega), hk _ (by omega), hk _ (by omega)]; exact d7 i hi, fun i hi => by rw [hk _ (by omega)]; exact d8 i hi, fun j h1 h2 => by rw [hk _ (by omega)]; exact d9 j h1 h2, by rw [hk 65 (by decide)]; exact s7, fun k hk2 => by rw [hk _ (by omega)]; exact s8 k hk2⟩
set_option maxRecDepth 16384 in
theorem gvn {K : Nat → Int32} {j v : Nat} (h : K j = nI v) (hv : v < 2147483648) : gv K j = v := by
  unfold gv
  rw [h, pw_clamp hv]
/- segments of the steps -/
set_option maxRecDepth 16384 in
theorem rmS_seg {K : Nat → Int32} {l : List Nat} (hk : ∀ k, k < l.length → stp K k = l.getD k 0) : ∀ m a, a + m ≤ l.length → rmS K a m = seg l a m
  | 0, a, h => by
    unfold seg
    rw [rmS, List.take_zero]
  | m + 1, a, h => by
    have ih := rmS_seg hk m (a + 1) (by omega)
    have ha : a < l.length := by omega
    rw [rmS, ih, hk a ha]
    unfold seg
    rw [List.drop_eq_getElem_cons ha, List.take_succ_cons]
    congr 1
    rw [List.getD_eq_getElem?_getD, List.getElem?_eq_getElem ha]
    rfl
set_option maxRecDepth 16384 in
theorem sOk_lt {np nd x : Nat} (hnp : np ≤ 4) (hnd : nd ≤ 6) (hg : np * nd ≤ 12) (h : sOk np nd x) : x < 2000 := by
  unfold sOk at h
  omega
set_option maxRecDepth 16384 in
theorem getD_mem {l : List Nat} {k : Nat} (h : k < l.length) : l.getD k 0 ∈ l := by
  rw [List.getD_eq_getElem?_getD, List.getElem?_eq_getElem h]
  exact List.getElem_mem h
set_option maxRecDepth 16384 in
theorem KF_GK {n np nd ln : Nat} {s : LnS} {K : Nat → Int32} (f : KF np nd ln s K) (o : OKS np nd s) (hn : n ≤ 900) (hln : ln ≤ n) (hll : s.2.2.2.length ≤ n) (h1 : 1 ≤ np) (h2 : 1 ≤ nd) (hnp : np ≤ 4) (hnd : nd ≤ 6) (hg : np * nd ≤ 12) : GK K := by
  obtain ⟨f0, f1, f2, f3, f4, f5, f6, f7, f8', f9, f10, f11, f12⟩ := f
  obtain ⟨o1, o2, o3, o4, o5, o6, o7⟩ := o
  have hp2 : 2 ^ s.2.2.1.length ≤ 2 ^ 10 := Nat.pow_le_pow_right (by decide) o3
  have hp1 : 1 ≤ 2 ^ s.2.2.1.length := Nat.one_le_two_pow
  have e10 : 2 ^ 10 = 1024 := rfl
  have g0 := gvn f0 (by omega)
  have g1 := gvn f1 (by omega)
  have g2 := gvn f2 (by omega)
  have g3 := gvn f3 (by omega)
  have g4 := gvn f4 (by omega)
  have g5 := gvn f5 (by omega)
  have g6 := gvn f6 (by omega)
  have g7 := gvn f7 (by omega)
  have g65 := gvn f11 (by omega)
  have hgc : gc K = np * nd := by unfold gc; rw [g1, g2]
  have hfl : ∀ i, i ≤ s.2.2.1.length → frm s.2.2.1 i ≤ s.2.2.2.length := fun i hi => by
    by_cases c : i = 0
    · rw [c]
      exact Nat.zero_le _
    · have := (o7 (i - 1) (by omega)).2.1
      rw [show i - 1 + 1 = i by omega] at this
      exact this
  have gs : ∀ i, i ≤ s.2.2.1.length → srt K i = frm s.2.2.1 i := fun i hi => gvn (f9 i hi) (by have := hfl i hi; omega)
  have hst : ∀ k, k < s.2.2.2.length → stp K k = s.2.2.2.getD k 0 := fun k hk => gvn (f12 k hk) (by have := sOk_lt hnp hnd hg (o6 _ (getD_mem hk)); omega)
  refine ⟨⟨fun j hj => ?_, by omega, by omega, by omega, by omega, by omega, by omega, by omega, by omega, by rw [g7, g5]; omega, by rw [g1, g2]; omega, fun i hi => ?_⟩, fun k hk => by omega, by rw [g65]; exact f11, by omega, gs 0 (Nat.zero_le _), fun i hi => ?_, fun i hi => ?_, fun k hk => ?_, fun i hi => ?_⟩
  · rcases (by omega : j = 0 ∨ j = 1 ∨ j = 2 ∨ j = 3 ∨ j = 4 ∨ j = 5 ∨ j = 6 ∨ j = 7) with rfl | rfl | rfl | rfl | rfl | rfl | rfl | rfl
    · rw [g0]; exact f0
    · rw [g1]; exact f1
    · rw [g2]; exact f2
    · rw [g3]; exact f3
    · rw [g4]; exact f4
    · rw [g5]; exact f5
    · rw [g6]; exact f6
    · rw [g7]; exact f7
  · rw [g5] at hi
    obtain ⟨a1, a2, a3⟩ := f8' i hi
    obtain ⟨b1, b2, b3, b4⟩ := o4 i hi
    have q1 := gvn a1 (by omega)
    have q2 := gvn a2 (by omega)
    have q3 := gvn a3 (by omega)
    rw [q1, q2, q3]
    exact ⟨⟨a1, b1⟩, ⟨a2, b2, b3⟩, a3, b4⟩
  · rw [g5] at hi
    rw [gs i hi, g65]
    exact ⟨f9 i hi, hfl i hi⟩
  · rw [g5] at hi
    rw [gs i (by omega), gs (i + 1) (by omega)]
    exact (o7 i hi).1
  · rw [g65] at hk
    rw [hst k hk]
    refine ⟨f12 k hk, ?_⟩
    have := o6 _ (getD_mem hk)
    unfold sOk at this
    unfold okS okA
    rw [hgc, g1, g2]
    exact this
  · rw [g5] at hi
    obtain ⟨z1, z2, z3⟩ := o7 i hi
    rw [gs i (by omega), gs (i + 1) (by omega), rmS_seg hst _ _ (by omega)]
    exact z3

/-! ===== what the lines leave ===== -/
def seg (l : List Nat) (a m : Nat) : List Nat := (l.drop a).take m
set_option maxRecDepth 16384 in
theorem seg_app {l D : List Nat} {a m : Nat} (h : a + m ≤ l.length) : seg (l ++ D) a m = seg l a m := by
  unfold seg
  rw [List.drop_append_of_le_length (by omega), List.take_append_of_le_length (by rw [List.length_drop]; omega)]
set_option maxRecDepth 16384 in
theorem seg_last {l D : List Nat} : seg (l ++ D) l.length D.length = D := by
  unfold seg
  rw [List.drop_left, List.take_length]
def OKS (np nd : Nat) (s : LnS) : Prop := s.1 ≤ 6 ∧ s.2.1 ≤ 3 ∧ s.2.2.1.length ≤ 10 ∧ (∀ i, i < s.2.2.1.length → (s.2.2.1.getD i wz).1 < 6 ∧ 1 ≤ (s.2.2.1.getD i wz).2.1 ∧ (s.2.2.1.getD i wz).2.1 ≤ 9 ∧ (s.2.2.1.getD i wz).2.2.1 ≤ 1) ∧ s.2.2.2.length = frm s.2.2.1 s.2.2.1.length ∧ (∀ x, x ∈ s.2.2.2 → sOk np nd x) ∧ ∀ i, i < s.2.2.1.length → frm s.2.2.1 i ≤ frm s.2.2.1 (i + 1) ∧ frm s.2.2.1 (i + 1) ≤ s.2.2.2.length ∧ tyr (seg s.2.2.2 (frm s.2.2.1 i) (frm s.2.2.1 (i + 1) - frm s.2.2.1 i)) [] = some [true]
set_option maxRecDepth 16384 in
theorem stop_e {n : Nat} {X : Nat → Nat} {p : Nat} {e : Nat × Nat} (h : stopG n X p = .inl e) : 1 ≤ e.1 ∧ e.1 ≤ 4 := by
  unfold stopG at h
  by_cases c : tc n X p = 3
  · rw [if_pos c] at h
    cases h
  · rw [if_neg c] at h
    cases h
    exact flt_ok (by decide) (by decide)
set_option maxRecDepth 16384 in
theorem head_e {n : Nat} {X : Nat → Nat} {p : Nat} {e : Nat × Nat} (h : headG n X p = .inl e) : 1 ≤ e.1 ∧ e.1 ≤ 4 := by
  unfold headG at h
  by_cases c5 : tc n X (nx n X p) = 5
  · rw [if_pos c5] at h
    cases hq : num n X 0 5 (nx n X (nx n X p)) with
    | inl e' =>
      rw [hq] at h
      have h : (Sum.inl e' : (Nat × Nat) ⊕ (Nat × Nat × Nat × Nat)) = .inl e := h
      cases h
      exact num_e hq
    | inr a =>
      rw [hq] at h
      have h : bnd (wtG n X a.1) (fun b => bnd (clnG n X (muP n X b.1)) (fun q => .inr (q, a.2, b.2, muV n X b.1))) = .inl e := h
      cases hw : wtG n X a.1 with
      | inl e' =>
        rw [hw] at h
        have h : (Sum.inl e' : (Nat × Nat) ⊕ (Nat × Nat × Nat × Nat)) = .inl e := h
        cases h
        unfold wtG at hw
        by_cases c6 : tc n X a.1 = 6
        · rw [if_pos c6] at hw
          exact num_e hw
        · rw [if_neg c6] at hw
          cases hw
      | inr b =>
        rw [hw] at h
        have h : bnd (clnG n X (muP n X b.1)) (fun q => .inr (q, a.2, b.2, muV n X b.1)) = .inl e := h
        unfold clnG at h
        by_cases c8 : tc n X (muP n X b.1) = 8
        · rw [if_pos c8] at h
          have h : (Sum.inr (nx n X (muP n X b.1), a.2, b.2, muV n X b.1) : (Nat × Nat) ⊕ (Nat × Nat × Nat × Nat)) = .inl e := h
          cases h
        · rw [if_neg c8] at h
          have h : (Sum.inl (flt n X 2 (muP n X b.1)) : (Nat × Nat) ⊕ (Nat × Nat × Nat × Nat)) = .inl e := h
          cases h
          exact flt_ok (by decide) (by decide)
  · rw [if_neg c5] at h
    cases h
    exact flt_ok (by decide) (by decide)
def LG (n np nd p : Nat) (r : (Nat × Nat) ⊕ (Nat × LnS)) : Prop := match r with
  | .inl e => 1 ≤ e.1 ∧ e.1 ≤ 4
  | .inr q => p < q.1 ∧ q.1 ≤ n ∧ OKS np nd q.2 ∧ q.2.2.2.2.length ≤ q.1
set_option maxRecDepth 16384 in
theorem line_gd {n : Nat} {X : Nat → Nat} {np nd p : Nat} {s : LnS} (hv : VL n X) (h1 : 1 ≤ np) (h2 : 1 ≤ nd) (o : OKS np nd s) (hl : s.2.2.2.length ≤ p) (hp : p ≤ n) : LG n np nd p (lineG n X np nd p s) := by
  obtain ⟨cl, wd, V, l⟩ := s
  obtain ⟨o1, o2, o3, o4, o5, o6, o7⟩ := o
  have o1 : cl ≤ 6 := o1
  have o2 : wd ≤ 3 := o2
  have o3 : V.length ≤ 10 := o3
  have o5 : l.length = frm V V.length := o5
  have hl : l.length ≤ p := hl
  unfold lineG
  by_cases t4 : tc n X p = 4
  · rw [if_pos t4]
    by_cases c10 : 10 ≤ V.length
    · rw [if_pos c10]
      exact flt_ok (by decide) (by decide)
    · rw [if_neg c10]
      unfold wishG
      cases hh : headG n X p with
      | inl e => exact head_e hh
      | inr q =>
        obtain ⟨g1, g2, g3, g4, g5, g6⟩ := head_on (by omega) hh
        have gd := gd_rTruth (np := np) (nd := nd) (l := l) hv h1 h2 6 g2
        show LG n np nd p (bnd (rTruth n X np nd 6 q.1 l) (fun r => bnd (stopG n X r.1) (fun e => .inr (e, cl, wd, V ++ [(q.2.1, q.2.2.1, q.2.2.2, r.2.length)], r.2))))
        cases hr : rTruth n X np nd 6 q.1 l with
        | inl e =>
          rw [hr] at gd
          exact gd
        | inr r =>
          rw [hr] at gd
          obtain ⟨gd1, gd2, D, gd3, gd4, gd5, gd6⟩ := gd
          show LG n np nd p (bnd (stopG n X r.1) (fun e => .inr (e, cl, wd, V ++ [(q.2.1, q.2.2.1, q.2.2.2, r.2.length)], r.2)))
          cases hs : stopG n X r.1 with
          | inl e => exact stop_e hs
          | inr e =>
            obtain ⟨q3, rfl⟩ := stop_on hs
            have hnx := tc_nx (X := X) (b := r.1) (n := n) (by omega)
            have hrl : r.2.length = l.length + D.length := by rw [gd3, List.length_append]
            refine ⟨by show p < nx n X r.1; omega, hnx.2, ⟨o1, o2, ?_, fun i hi => ?_, ?_, fun x hx => ?_, fun i hi => ?_⟩, ?_⟩
            · show (V ++ [(q.2.1, q.2.2.1, q.2.2.2, r.2.length)]).length ≤ 10
              rw [List.length_append, List.length_singleton]
              omega
            · have hi : i < (V ++ [(q.2.1, q.2.2.1, q.2.2.2, r.2.length)]).length := hi
              rw [List.length_append, List.length_singleton] at hi
              show ((V ++ [(q.2.1, q.2.2.1, q.2.2.2, r.2.length)]).getD i wz).1 < 6 ∧ 1 ≤ ((V ++ [(q.2.1, q.2.2.1, q.2.2.2, r.2.length)]).getD i wz).2.1 ∧ ((V ++ [(q.2.1, q.2.2.1, q.2.2.2, r.2.length)]).getD i wz).2.1 ≤ 9 ∧ ((V ++ [(q.2.1, q.2.2.1, q.2.2.2, r.2.length)]).getD i wz).2.2.1 ≤ 1
              by_cases ci : i < V.length
              · rw [wd_app ci]
                exact o4 i ci
              · rw [show i = V.length by omega, wd_last]
                exact ⟨by show q.2.1 < 6; omega, g4, g5, g6⟩
            · show r.2.length = frm (V ++ [(q.2.1, q.2.2.1, q.2.2.2, r.2.length)]) (V ++ [(q.2.1, q.2.2.1, q.2.2.2, r.2.length)]).length
              rw [List.length_append, List.length_singleton, frm_last]
            · have hx : x ∈ r.2 := hx
              rw [gd3] at hx
              rcases List.mem_append.mp hx with hx | hx
              · exact o6 x hx
              · exact gd5 x hx
            · have hi : i < (V ++ [(q.2.1, q.2.2.1, q.2.2.2, r.2.length)]).length := hi
              rw [List.length_append, List.length_singleton] at hi
              show frm (V ++ [(q.2.1, q.2.2.1, q.2.2.2, r.2.length)]) i ≤ frm (V ++ [(q.2.1, q.2.2.1, q.2.2.2, r.2.length)]) (i + 1) ∧ frm (V ++ [(q.2.1, q.2.2.1, q.2.2.2, r.2.length)]) (i + 1) ≤ r.2.length ∧ tyr (seg r.2 (frm (V ++ [(q.2.1, q.2.2.1, q.2.2.2, r.2.length)]) i) (frm (V ++ [(q.2.1, q.2.2.1, q.2.2.2, r.2.length)]) (i + 1) - frm (V ++ [(q.2.1, q.2.2.1, q.2.2.2, r.2.length)]) i)) [] = some [true]
              by_cases ci : i < V.length
              · obtain ⟨z1, z2, z3⟩ := o7 i ci
                have z1 : frm V i ≤ frm V (i + 1) := z1
                have z2 : frm V (i + 1) ≤ l.length := z2
                rw [frm_app (show i ≤ V.length by omega), frm_app (show i + 1 ≤ V.length by omega)]
                refine ⟨z1, by omega, ?_⟩
                rw [gd3, seg_app (by omega)]
                exact z3
              · rw [show i = V.length by omega, frm_last, frm_app (Nat.le_refl _), ← o5]
                refine ⟨by show l.length ≤ r.2.length; omega, Nat.le_refl _, ?_⟩
                show tyr (seg r.2 l.length (r.2.length - l.length)) [] = some [true]
                rw [hrl, Nat.add_sub_cancel_left, gd3, seg_last]
                exact gd6 [] (by decide)
            · show r.2.length ≤ nx n X r.1
              omega
  · rw [if_neg t4]
    have fin : ∀ (hi : Nat) (bx : Bool), hi = (if bx then 6 else 3) → tc n X p ≠ 0 → LG n np nd p (bnd (num n X 0 hi (nx n X p)) (fun a => bnd (stopG n X a.1) (fun e => (.inr (e, upS bx a.2 (cl, wd, V, l)) : (Nat × Nat) ⊕ (Nat × LnS))))) := by
      intro hi bx hhi ht
      have hnx := tc_nx ht
      cases hq : num n X 0 hi (nx n X p) with
      | inl e => exact num_e hq
      | inr a =>
        have ha := num_on hq
        obtain ⟨ha1, ha2, ha3, ha4⟩ := num_r hq
        have ha5 : a.2 ≤ hi := by rw [ha1]; exact ha4
        show LG n np nd p (bnd (stopG n X a.1) (fun e => (.inr (e, upS bx a.2 (cl, wd, V, l)) : (Nat × Nat) ⊕ (Nat × LnS))))
        cases hs : stopG n X a.1 with
        | inl e => exact stop_e hs
        | inr e =>
          obtain ⟨q3, rfl⟩ := stop_on hs
          have hnx2 := tc_nx (X := X) (b := a.1) (n := n) (by omega)
          cases bx with
          | true => exact ⟨by show p < nx n X a.1; omega, hnx2.2, ⟨by rw [hhi] at ha5; exact ha5, o2, o3, o4, o5, o6, o7⟩, by show l.length ≤ nx n X a.1; omega⟩
          | false => exact ⟨by show p < nx n X a.1; omega, hnx2.2, ⟨o1, by rw [hhi] at ha5; exact ha5, o3, o4, o5, o6, o7⟩, by show l.length ≤ nx n X a.1; omega⟩
    by_cases t9 : tc n X p = 9
    · rw [if_pos t9]
      exact fin 6 true rfl (by omega)
    · rw [if_neg t9]
      by_cases t10 : tc n X p = 10
      · rw [if_pos t10]
        exact fin 3 false rfl (by omega)
      · rw [if_neg t10]
        exact flt_ok (by decide) (by decide)
def linesG (n : Nat) (X : Nat → Nat) (np nd : Nat) : Nat → Nat → Nat → LnS → (Nat × Nat) ⊕ (Nat × LnS)
  | 0, _, ln, s => .inr (ln, s)
  | f + 1, p, ln, s => if tkd n X p = 0 then .inr (ln, s) else bnd (lineG n X np nd p s) (fun q => linesG n X np nd f q.1 (ln + 1) q.2)
/- what is left at the end of all lines -/
def LF (n np nd : Nat) (r : (Nat × Nat) ⊕ (Nat × LnS)) : Prop := match r with
  | .inl e => 1 ≤ e.1 ∧ e.1 ≤ 4
  | .inr q => q.1 ≤ n ∧ OKS np nd q.2 ∧ q.2.2.2.2.length ≤ n
set_option maxRecDepth 16384 in
theorem lines_gd {n : Nat} {X : Nat → Nat} {np nd : Nat} (hv : VL n X) (h1 : 1 ≤ np) (h2 : 1 ≤ nd) : ∀ (f p ln : Nat) (s : LnS), OKS np nd s → s.2.2.2.length ≤ p → p ≤ n → ln ≤ p → LF n np nd (linesG n X np nd f p ln s)
  | 0, p, ln, s, o, hl, hp, hln => ⟨by show ln ≤ n; omega, o, by show s.2.2.2.length ≤ n; omega⟩
  | f + 1, p, ln, s, o, hl, hp, hln => by
    rw [linesG]
    by_cases t : tkd n X p = 0
    · rw [if_pos t]
      exact ⟨by show ln ≤ n; omega, o, by show s.2.2.2.length ≤ n; omega⟩
    · rw [if_neg t]
      have g := line_gd hv h1 h2 o hl hp
      cases hq : lineG n X np nd p s with
      | inl e =>
        rw [hq] at g
        exact g
      | inr q =>
        rw [hq] at g
        obtain ⟨g1, g2, g3, g4⟩ := g
        exact lines_gd hv h1 h2 f q.1 (ln + 1) q.2 g3 g4 g2 (by omega)
def mdN (a : Nat) : Nat := if 12 / a < 6 then 12 / a else 6
set_option maxRecDepth 16384 in
theorem mdN_b {a : Nat} (h : 1 ≤ a) (h4 : a ≤ 4) : mdN a ≤ 6 ∧ mdN a * a ≤ 12 ∧ 1 ≤ mdN a := (by decide : ∀ a, a < 5 → 1 ≤ a → mdN a ≤ 6 ∧ mdN a * a ≤ 12 ∧ 1 ≤ mdN a) a (by omega) h
def skyH (n : Nat) (X : Nat → Nat) : (Nat × Nat) ⊕ (Nat × Nat × Nat) :=
  if tc n X (sk n X 0) = 2 then bnd (num n X 1 4 (nx n X (sk n X 0))) (fun a => bnd (num n X 1 (mdN a.2) a.1) (fun b => bnd (stopG n X b.1) (fun e => .inr (e, a.2, b.2))))
  else .inl (flt n X 2 (sk n X 0))
def s0 : LnS := (3, 0, [], [])
def skyG (n : Nat) (X : Nat → Nat) : (Nat × Nat) ⊕ (Nat × Nat × Nat × LnS) := bnd (skyH n X) (fun q => bnd (linesG n X q.2.1 q.2.2 901 q.1 1 s0) (fun r => .inr (q.2.1, q.2.2, r.1, r.2)))
def HyG (n : Nat) (r : (Nat × Nat) ⊕ (Nat × Nat × Nat)) : Prop := match r with
  | .inl e => 1 ≤ e.1 ∧ e.1 ≤ 4
  | .inr q => 3 ≤ q.1 ∧ q.1 ≤ n ∧ 1 ≤ q.2.1 ∧ q.2.1 ≤ 4 ∧ 1 ≤ q.2.2 ∧ q.2.2 ≤ 6 ∧ q.2.1 * q.2.2 ≤ 12
set_option maxRecDepth 16384 in
theorem skyH_gd (n : Nat) (X : Nat → Nat) : HyG n (skyH n X) := by
  unfold skyH
  by_cases c : tc n X (sk n X 0) = 2
  · rw [if_pos c]
    have h0 := tc_nx (X := X) (b := sk n X 0) (n := n) (by omega)
    cases hq : num n X 1 4 (nx n X (sk n X 0)) with
    | inl e => exact num_e hq
    | inr a =>
      have ha := num_on hq
      obtain ⟨ha1, ha2, ha3, ha4⟩ := num_r hq
      have ha5 : 1 ≤ a.2 ∧ a.2 ≤ 4 := by rw [ha1]; exact ⟨ha3, ha4⟩
      show HyG n (bnd (num n X 1 (mdN a.2) a.1) (fun b => bnd (stopG n X b.1) (fun e => .inr (e, a.2, b.2))))
      cases hq2 : num n X 1 (mdN a.2) a.1 with
      | inl e => exact num_e hq2
      | inr b =>
        have hb := num_on hq2
        obtain ⟨hb1, hb2, hb3, hb4⟩ := num_r hq2
        have hb5 : 1 ≤ b.2 ∧ b.2 ≤ mdN a.2 := by rw [hb1]; exact ⟨hb3, hb4⟩
        show HyG n (bnd (stopG n X b.1) (fun e => .inr (e, a.2, b.2)))
        cases hs : stopG n X b.1 with
        | inl e => exact stop_e hs
        | inr e =>
          obtain ⟨q3, rfl⟩ := stop_on hs
          have hnx := tc_nx (X := X) (b := b.1) (n := n) (by omega)
          obtain ⟨m1, m2, m3⟩ := mdN_b ha5.1 ha5.2
          have hm : a.2 * b.2 ≤ a.2 * mdN a.2 := Nat.mul_le_mul_left _ hb5.2
          rw [Nat.mul_comm a.2 (mdN a.2)] at hm
          exact ⟨by show 3 ≤ nx n X b.1; omega, hnx.2, ha5.1, ha5.2, hb5.1, by show b.2 ≤ 6; omega, by show a.2 * b.2 ≤ 12; omega⟩
  · rw [if_neg c]
    exact flt_ok (by decide) (by decide)

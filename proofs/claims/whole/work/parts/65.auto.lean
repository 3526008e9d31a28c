/-! ===== the class's way of reading, as steps on a stack ===== -/
def KN (np nd : Nat) (j : Nat) : Int32 := if j = 1 then nI np else if j = 2 then nI nd else 0
def eN (np nd s : Nat) : Nat := enc (KN np nd) s
def tgh (w : Nat) : Nat := [0, 0, 1, 2, 3, 4, 4, 4, 5, 5, 6].getD w 0
/- (state, place, waiting, codes, compared) -/
abbrev Cfg : Type := Nat × Nat × List Nat × List Nat × Nat
def stl (t : Nat) : List Nat → List Nat → List Nat × List Nat
  | [], C => ([], C)
  | w :: W, C => if t ≤ tgh w then stl t W (C ++ [w * 4096]) else (w :: W, C)
def cO (W : List Nat) : Nat := W.countP (fun w => decide (w = 0 ∨ w = 1 ∨ w = 4))
def c0 (W : List Nat) : Nat := W.countP (fun w => decide (w = 0))
def c1 (W : List Nat) : Nat := W.countP (fun w => decide (w = 1))
def opnA (n : Nat) (X : Nat → Nat) (code next p : Nat) (W C : List Nat) (cm : Nat) : (Nat × Nat) ⊕ Cfg := if cO W < 6 then .inr (next, nx n X p, code :: W, C, cm) else .inl (flt n X 4 p)
def joinA (n : Nat) (X : Nat → Nat) (code next p : Nat) (W C : List Nat) (cm : Nat) : (Nat × Nat) ⊕ Cfg := .inr (next, nx n X p, code :: (stl (tgh code) W C).1, (stl (tgh code) W C).2, cm)
def closeA (n : Nat) (X : Nat → Nat) (code next p : Nat) (W C : List Nat) (cm : Nat) : (Nat × Nat) ⊕ Cfg := match (stl 1 W C).1 with
  | [] => .inl (0, 0)
  | w :: W' => if w = code then .inr (next, nx n X p, W', (stl 1 W C).2, cm) else .inl (0, 0)
def atomA (n : Nat) (X : Nat → Nat) (np nd p : Nat) (W C : List Nat) (cm : Nat) : (Nat × Nat) ⊕ Cfg :=
  if tc n X p = 40 then .inr (3, nx n X p, W, C ++ [eN np nd (1000 + vl n X p)], cm)
  else if tc n X p = 14 then .inr (3, nx n X p, W, C ++ [eN np nd 400], cm)
  else if tc n X p = 15 then bnd (num n X 0 (np - 1) (nx n X p)) (fun a => bnd (num n X 0 (nd - 1) a.1) (fun d => .inr (3, d.1, W, C ++ [eN np nd (100 + nd * a.2 + d.2)], cm)))
  else if tc n X p = 16 then bnd (num n X 0 (nd - 1) (nx n X p)) (fun a => .inr (3, a.1, W, C ++ [eN np nd (300 + a.2)], cm))
  else if tc n X p = 17 then bnd (num n X 0 (np - 1) (nx n X p)) (fun a => .inr (3, a.1, W, C ++ [eN np nd (200 + a.2)], cm))
  else .inl (flt n X 2 p)
def AU (n : Nat) (X : Nat → Nat) (np nd st p : Nat) (W C : List Nat) (cm : Nat) : (Nat × Nat) ⊕ Cfg :=
  if st = 1 ∨ st = 2 then
    (if st = 1 ∧ tc n X p = 11 then opnA n X 4 1 p W C (if st = 1 then 0 else cm)
    else if st = 1 ∧ tc n X p = 12 then opnA n X 1 1 p W C (if st = 1 then 0 else cm)
    else if tc n X p = 13 then opnA n X 0 2 p W C (if st = 1 then 0 else cm)
    else atomA n X np nd p W C (if st = 1 then 0 else cm))
  else
    (if st = 3 ∧ (tc n X p = 18 ∨ tc n X p = 19 ∨ tc n X p = 20) then joinA n X (tc n X p - 10) 2 p W C cm
    else if st = 3 ∧ 0 < c0 W then (if tc n X p = 21 then closeA n X 0 3 p W C cm else .inl (flt n X 2 p))
    else if st = 3 ∧ cm = 0 then (if tc n X p = 22 ∨ tc n X p = 23 ∨ tc n X p = 24 then joinA n X (tc n X p - 17) 2 p W C 1 else .inl (flt n X 2 p))
    else if tc n X p = 25 then joinA n X 3 1 p W C cm
    else if tc n X p = 26 then joinA n X 2 1 p W C cm
    else if 0 < c1 W then (if tc n X p = 27 then closeA n X 1 4 p W C cm else .inl (flt n X 2 p))
    else .inl (0, 0))
def AUc (n : Nat) (X : Nat → Nat) (np nd : Nat) (c : Cfg) : (Nat × Nat) ⊕ Cfg := AU n X np nd c.1 c.2.1 c.2.2.1 c.2.2.2.1 c.2.2.2.2
def iter (n : Nat) (X : Nat → Nat) (np nd : Nat) : Nat → Cfg → Option Cfg
  | 0, c => some c
  | j + 1, c => match AUc n X np nd c with
    | .inl _ => none
    | .inr c' => iter n X np nd j c'
set_option maxRecDepth 16384 in
theorem iter_1 {n : Nat} {X : Nat → Nat} {np nd j : Nat} {c c' : Cfg} (h : AUc n X np nd c = .inr c') : iter n X np nd (j + 1) c = iter n X np nd j c' := by
  rw [iter, h]
set_option maxRecDepth 16384 in
theorem iter_add {n : Nat} {X : Nat → Nat} {np nd : Nat} {j : Nat} {d : Cfg} : ∀ i c, iter n X np nd i c = some d → iter n X np nd (i + j) c = iter n X np nd j d
  | 0, c, h => by
    cases h
    rw [Nat.zero_add]
  | i + 1, c, h => by
    rw [show i + 1 + j = (i + j) + 1 by omega, iter]
    rw [iter] at h
    cases hq : AUc n X np nd c with
    | inl e =>
      rw [hq] at h
      cases h
    | inr c' =>
      rw [hq] at h
      exact iter_add i c' h
def tlt (t : Nat) : List Nat → Prop
  | [] => True
  | w :: _ => tgh w < t
set_option maxRecDepth 16384 in
theorem tlt_mono {t t' : Nat} {W : List Nat} (h : t ≤ t') (a : tlt t W) : tlt t' W := by
  cases W with
  | nil => trivial
  | cons w W => exact Nat.lt_of_lt_of_le a h
set_option maxRecDepth 16384 in
theorem stl_app {t : Nat} : ∀ (V W C : List Nat), (∀ v, v ∈ V → t ≤ tgh v) → tlt t W → stl t (V ++ W) C = (W, C ++ V.map (fun v => v * 4096))
  | [], W, C, _, hW => by
    simp only [List.nil_append, List.map_nil, List.append_nil]
    cases W with
    | nil => rfl
    | cons w W =>
      have : tgh w < t := hW
      rw [stl, if_neg (by omega)]
  | v :: V, W, C, hV, hW => by
    rw [List.cons_append, stl, if_pos (hV v List.mem_cons_self), stl_app V W (C ++ [v * 4096]) (fun x hx => hV x (List.mem_cons_of_mem _ hx)) hW]
    simp
def Big (n : Nat) (X : Nat → Nat) (np nd t : Nat) (G : Nat → Nat → Nat → Prop) (c : Cfg) (r : Rz) (l W C : List Nat) : Prop := match r with
  | .inl e => ∃ j c', iter n X np nd j c = some c' ∧ AUc n X np nd c' = .inl e
  | .inr q => ∃ j st V C2 cm D, iter n X np nd j c = some (st, q.1, V ++ W, C2, cm) ∧ G st cm q.1 ∧ q.2 = l ++ D ∧ C2 ++ V.map (fun v => v * 4096) = C ++ D.map (eN np nd) ∧ ∀ v, v ∈ V → t ≤ tgh v
/- some steps ahead -/
set_option maxRecDepth 16384 in
theorem Big_pre {n : Nat} {X : Nat → Nat} {np nd t i : Nat} {G : Nat → Nat → Nat → Prop} {c d : Cfg} {r : Rz} {l W C : List Nat} (h : iter n X np nd i c = some d) (b : Big n X np nd t G d r l W C) : Big n X np nd t G c r l W C := by
  cases r with
  | inl e =>
    obtain ⟨j, c', h1, h2⟩ := b
    exact ⟨i + j, c', by rw [iter_add i c h]; exact h1, h2⟩
  | inr q =>
    obtain ⟨j, st, V, C2, cm, D, h1, h2⟩ := b
    exact ⟨i + j, st, V, C2, cm, D, by rw [iter_add i c h]; exact h1, h2⟩
set_option maxRecDepth 16384 in
theorem Big_mono {n : Nat} {X : Nat → Nat} {np nd t t' : Nat} {G G' : Nat → Nat → Nat → Prop} {c : Cfg} {r : Rz} {l W C : List Nat} (ht : t' ≤ t) (hG : ∀ a b p, G a b p → G' a b p) (b : Big n X np nd t G c r l W C) : Big n X np nd t' G' c r l W C := by
  cases r with
  | inl e => exact b
  | inr q =>
    obtain ⟨j, st, V, C2, cm, D, h1, h2, h3, h4, h5⟩ := b
    exact ⟨j, st, V, C2, cm, D, h1, hG _ _ _ h2, h3, h4, fun v hv => by have := h5 v hv; omega⟩
/- then what follows -/
set_option maxRecDepth 16384 in
theorem Big_bnd {n : Nat} {X : Nat → Nat} {np nd t t' : Nat} {G G' : Nat → Nat → Nat → Prop} {c : Cfg} {r : Rz} {f : Nat × List Nat → Rz} {l W C : List Nat} (b : Big n X np nd t G c r l W C) (hf : ∀ q st V C2 cm D, r = .inr q → G st cm q.1 → q.2 = l ++ D → C2 ++ V.map (fun v => v * 4096) = C ++ D.map (eN np nd) → (∀ v, v ∈ V → t ≤ tgh v) → Big n X np nd t' G' (st, q.1, V ++ W, C2, cm) (f q) l W C) : Big n X np nd t' G' c (bnd r f) l W C := by
  cases r with
  | inl e => exact b
  | inr q =>
    obtain ⟨j, st, V, C2, cm, D, h1, h2, h3, h4, h5⟩ := b
    exact Big_pre h1 (hf q st V C2 cm D rfl h2 h3 h4 h5)
/- the loops -/
set_option maxRecDepth 16384 in
theorem big_rep {n : Nat} {X : Nat → Nat} {np nd t ti nxt b : Nat} {ty : Bool} {G : Nat → Nat → Nat → Prop} {W : List Nat} {op code : Nat → Nat} {item : Nat → List Nat → Rz} (hW : tlt t W) (hti : t ≤ ti) (hop : ∀ p, op p ≠ 0 → tc n X p ≠ 0) (hi : ∀ p l, p ≤ n → Gd n np nd ty b (item p l) p l)
    (hcode : ∀ p, op p ≠ 0 → tgh (code p) = t ∧ eN np nd (op p) = code p * 4096)
    (hstep : ∀ st p W' C cm, G st cm p → op p ≠ 0 → (∃ V, W' = V ++ W ∧ ∀ v, v ∈ V → t ≤ tgh v) → AU n X np nd st p W' C cm = joinA n X (code p) nxt p W' C cm)
    (hitem : ∀ p p0 l C cm, op p0 ≠ 0 → p ≤ n → (∃ st, G st cm p0) → Big n X np nd ti G (nxt, p, code p0 :: W, C, cm) (item p l) l (code p0 :: W) C) : ∀ f p l st V C2 cm D l0 C, n - p < f → p ≤ n → G st cm p → l = l0 ++ D → C2 ++ V.map (fun v => v * 4096) = C ++ D.map (eN np nd) → (∀ v, v ∈ V → t ≤ tgh v) → Big n X np nd t (fun a b q => G a b q ∧ op q = 0) (st, p, V ++ W, C2, cm) (rep n X op item f p l) l0 W C
  | 0, p, l, st, V, C2, cm, D, l0, C, h, _, _, _, _, _ => by omega
  | f + 1, p, l, st, V, C2, cm, D, l0, C, hf, hpn, hG, hl, hC, hV => by
    rw [rep]
    by_cases c : op p = 0
    · rw [if_pos c]
      exact ⟨0, st, V, C2, cm, D, rfl, ⟨hG, c⟩, hl, hC, hV⟩
    · rw [if_neg c]
      have hnx := tc_nx (hop p c)
      obtain ⟨k1, k2⟩ := hcode p c
      have hau : AUc n X np nd (st, p, V ++ W, C2, cm) = .inr (nxt, nx n X p, code p :: W, C ++ D.map (eN np nd), cm) := by
        show AU n X np nd st p (V ++ W) C2 cm = _
        rw [hstep st p (V ++ W) C2 cm hG c ⟨V, rfl, hV⟩]
        unfold joinA
        rw [k1, stl_app V W C2 hV hW, hC]
      have g := hi (nx n X p) l hnx.2
      have bi := hitem (nx n X p) p l (C ++ D.map (eN np nd)) cm c hnx.2 ⟨st, hG⟩
      refine Big_pre (i := 1) (d := (nxt, nx n X p, code p :: W, C ++ D.map (eN np nd), cm)) (by rw [iter_1 hau]; rfl) ?_
      cases hq : item (nx n X p) l with
      | inl e =>
        rw [hq] at bi
        exact bi
      | inr q =>
        rw [hq] at bi g
        obtain ⟨j, st', V', C3, cm', D', h1, h2, h3, h4, h5⟩ := bi
        obtain ⟨g1, g2, -⟩ := g
        refine Big_pre h1 ?_
        rw [show V' ++ code p :: W = (V' ++ [code p]) ++ W by simp]
        refine big_rep hW hti hop hi hcode hstep hitem f q.1 (q.2 ++ [op p]) st' (V' ++ [code p]) C3 cm' (D ++ (D' ++ [op p])) l0 C (by omega) g2 h2 ?_ ?_ (fun v hv => ?_)
        · rw [h3, hl]
          simp
        · rw [List.map_append, ← List.append_assoc, h4]
          simp [k2]
        · rcases List.mem_append.mp hv with hv | hv
          · have := h5 v hv
            omega
          · rw [List.mem_singleton.mp hv, k1]
            exact Nat.le_refl _
set_option maxRecDepth 16384 in
theorem c0_app {V W : List Nat} (h : ∀ v, v ∈ V → 1 ≤ tgh v) : c0 (V ++ W) = c0 W := by
  unfold c0
  rw [List.countP_append]
  have : V.countP (fun w => decide (w = 0)) = 0 := List.countP_eq_zero.mpr (fun v hv => by
    have := h v hv
    simp only [decide_eq_true_eq]
    intro e
    rw [e] at this
    exact absurd this (by decide))
  omega
set_option maxRecDepth 16384 in
theorem c1_app {V W : List Nat} (h : ∀ v, v ∈ V → 1 ≤ tgh v) : c1 (V ++ W) = c1 W := by
  unfold c1
  rw [List.countP_append]
  have : V.countP (fun w => decide (w = 1)) = 0 := List.countP_eq_zero.mpr (fun v hv => by
    have := h v hv
    simp only [decide_eq_true_eq]
    intro e
    rw [e] at this
    exact absurd this (by decide))
  omega
set_option maxRecDepth 16384 in
theorem eN_op {np nd s : Nat} (h : 10 ≤ s ∧ s ≤ 17) : eN np nd s = opc s * 4096 := by
  unfold eN enc
  rw [if_neg (by omega), if_neg (by omega), if_neg (by omega), if_neg (by omega), if_neg (by omega), if_neg (by omega)]
set_option maxRecDepth 16384 in
theorem eN_18 {np nd : Nat} : eN np nd 18 = 4 * 4096 := by
  unfold eN enc
  rw [if_neg (by omega), if_neg (by omega), if_neg (by omega), if_neg (by omega), if_neg (by omega), if_pos rfl]
/- behind a sum no arithmetic sign stands -/
def nA (n : Nat) (X : Nat → Nat) (p : Nat) : Prop := tc n X p ≠ 18 ∧ tc n X p ≠ 19 ∧ tc n X p ≠ 20
def G3 (cm : Nat) (st c _p : Nat) : Prop := st = 3 ∧ c = cm
set_option maxRecDepth 16384 in
theorem big_atom {n : Nat} {X : Nat → Nat} {np nd st p cm : Nat} {l W C : List Nat} {par : Nat → List Nat → Rz} (hst : st = 1 ∨ st = 2) (h11 : st = 1 → tc n X p ≠ 11 ∧ tc n X p ≠ 12) (hpar : tc n X p = 13 → Big n X np nd 7 (G3 (if st = 1 then 0 else cm)) (st, p, W, C, cm) (par p l) l W C) : Big n X np nd 7 (G3 (if st = 1 then 0 else cm)) (st, p, W, C, cm) (atomG n X np nd par p l) l W C := by
  by_cases c13 : tc n X p = 13
  · have : atomG n X np nd par p l = par p l := by
      unfold atomG
      rw [if_neg (by omega), if_neg (by omega), if_neg (by omega), if_neg (by omega), if_pos c13]
    rw [this]
    exact hpar c13
  · have hau : AUc n X np nd (st, p, W, C, cm) = atomA n X np nd p W C (if st = 1 then 0 else cm) := by
      show AU n X np nd st p W C cm = _
      unfold AU
      rw [if_pos hst, if_neg (fun z => (h11 z.1).1 z.2), if_neg (fun z => (h11 z.1).2 z.2), if_neg c13]
    have fin : ∀ (p' s : Nat), atomA n X np nd p W C (if st = 1 then 0 else cm) = .inr (3, p', W, C ++ [eN np nd s], if st = 1 then 0 else cm) → Big n X np nd 7 (G3 (if st = 1 then 0 else cm)) (st, p, W, C, cm) (.inr (p', l ++ [s])) l W C := by
      intro p' s hs
      exact ⟨1, 3, [], C ++ [eN np nd s], if st = 1 then 0 else cm, [s], by rw [iter_1 (hau.trans hs)]; rfl, ⟨rfl, rfl⟩, rfl, by simp, fun v hv => absurd hv (by simp)⟩
    have bad : ∀ (e : Nat × Nat), atomA n X np nd p W C (if st = 1 then 0 else cm) = .inl e → Big n X np nd 7 (G3 (if st = 1 then 0 else cm)) (st, p, W, C, cm) (.inl e) l W C := fun e he => ⟨0, _, rfl, hau.trans he⟩
    unfold atomG
    by_cases c15 : tc n X p = 15
    · rw [if_pos c15]
      cases hq : num n X 0 (np - 1) (nx n X p) with
      | inl e =>
        refine bad e ?_
        unfold atomA
        rw [if_neg (by omega), if_neg (by omega), if_pos c15, hq]
        rfl
      | inr a =>
        show Big n X np nd 7 _ _ (bnd (num n X 0 (nd - 1) a.1) (fun d => .inr (d.1, l ++ [100 + nd * a.2 + d.2]))) l W C
        cases hq2 : num n X 0 (nd - 1) a.1 with
        | inl e =>
          refine bad e ?_
          unfold atomA
          rw [if_neg (by omega), if_neg (by omega), if_pos c15, hq]
          show bnd (num n X 0 (nd - 1) a.1) _ = _
          rw [hq2]
          rfl
        | inr d =>
          refine fin d.1 (100 + nd * a.2 + d.2) ?_
          unfold atomA
          rw [if_neg (by omega), if_neg (by omega), if_pos c15, hq]
          show bnd (num n X 0 (nd - 1) a.1) _ = _
          rw [hq2]
          rfl
    · rw [if_neg c15]
      by_cases c17 : tc n X p = 17
      · rw [if_pos c17]
        cases hq : num n X 0 (np - 1) (nx n X p) with
        | inl e =>
          refine bad e ?_
          unfold atomA
          rw [if_neg (by omega), if_neg (by omega), if_neg c15, if_neg (by omega), if_pos c17, hq]
          rfl
        | inr a =>
          refine fin a.1 (200 + a.2) ?_
          unfold atomA
          rw [if_neg (by omega), if_neg (by omega), if_neg c15, if_neg (by omega), if_pos c17, hq]
          rfl
      · rw [if_neg c17]
        by_cases c16 : tc n X p = 16
        · rw [if_pos c16]
          cases hq : num n X 0 (nd - 1) (nx n X p) with
          | inl e =>
            refine bad e ?_
            unfold atomA
            rw [if_neg (by omega), if_neg (by omega), if_neg c15, if_pos c16, hq]
            rfl
          | inr a =>
            refine fin a.1 (300 + a.2) ?_
            unfold atomA
            rw [if_neg (by omega), if_neg (by omega), if_neg c15, if_pos c16, hq]
            rfl
        · rw [if_neg c16]
          by_cases c14 : tc n X p = 14
          · rw [if_pos c14]
            refine fin _ 400 ?_
            unfold atomA
            rw [if_neg (by omega), if_pos c14]
          · rw [if_neg c14, if_neg c13]
            by_cases c40 : tc n X p = 40
            · rw [if_pos c40]
              refine fin _ _ ?_
              unfold atomA
              rw [if_pos c40]
            · rw [if_neg c40]
              refine bad _ ?_
              unfold atomA
              rw [if_neg c40, if_neg c14, if_neg c15, if_neg c16, if_neg c17]
set_option maxRecDepth 16384 in
theorem au_arith {n : Nat} {X : Nat → Nat} {np nd p cm : Nat} {W C : List Nat} (h : tc n X p = 18 ∨ tc n X p = 19 ∨ tc n X p = 20) : AU n X np nd 3 p W C cm = joinA n X (tc n X p - 10) 2 p W C cm := by
  unfold AU
  rw [if_neg (by decide), if_pos ⟨rfl, h⟩]
/- a sum, where one may begin -/
set_option maxRecDepth 16384 in
theorem big_sum {n : Nat} {X : Nat → Nat} {np nd b : Nat} {par : Nat → List Nat → Rz} {W0 : List Nat} (hn9 : n ≤ 900) (hv : VL n X) (h1 : 1 ≤ np) (h2 : 1 ≤ nd) (hb : 1 ≤ b) (hp : ∀ p l, p ≤ n → tc n X p = 13 → Gd n np nd false b (par p l) p l)
    (hpar : ∀ st p l W C cm, st = 1 ∨ st = 2 → p ≤ n → tc n X p = 13 → cO W = cO W0 → Big n X np nd 7 (G3 (if st = 1 then 0 else cm)) (st, p, W, C, cm) (par p l) l W C) {st p cm : Nat} {l W C : List Nat} (hst : st = 1 ∨ st = 2) (h11 : st = 1 → tc n X p ≠ 11 ∧ tc n X p ≠ 12) (hpn : p ≤ n) (hW : tlt 5 W) (hO : cO W = cO W0) : Big n X np nd 5 (fun a c q => G3 (if st = 1 then 0 else cm) a c q ∧ nA n X q) (st, p, W, C, cm) (sumG n X np nd par p l) l W C := by
  have ga : ∀ p l, p ≤ n → Gd n np nd false b (atomG n X np nd par p l) p l := fun p l hpn => gd_atom hv h1 h2 hb hp hpn
  have gt : ∀ p l, p ≤ n → Gd n np nd false (b + 1) (termG n X np nd par p l) p l := fun p l hpn => by
    unfold termG
    exact gd_bnd (ga p l hpn) (fun q g => gd_rep opT_ok ga 901 q.1 q.2 p l (gd_mono (by omega) g))
  have hterm : ∀ (st p cm : Nat) (l W C : List Nat), st = 1 ∨ st = 2 → (st = 1 → tc n X p ≠ 11 ∧ tc n X p ≠ 12) → p ≤ n → n < 901 → tlt 6 W → cO W = cO W0 → Big n X np nd 6 (fun a c q => G3 (if st = 1 then 0 else cm) a c q ∧ opT n X q = 0) (st, p, W, C, cm) (termG n X np nd par p l) l W C := by
    intro st p cm l W C hst h11 hpn hn hW hO
    have g0 := ga p l hpn
    unfold termG
    refine Big_bnd (big_atom hst h11 (fun c13 => hpar st p l W C cm hst hpn c13 hO)) (fun q st' V C2 cm' D hq hG hl hC hV => ?_)
    rw [hq] at g0
    refine big_rep (t := 6) (ti := 7) (nxt := 2) (G := G3 (if st = 1 then 0 else cm)) (op := opT n X) (code := fun _ => 10) hW (by omega) (fun p c => (opT_ok p c).1) ga (fun p c => ⟨rfl, ?_⟩) (fun st1 p1 W' C' cm1 hG1 c1 hW' => ?_) (fun p1 p0 l1 C1 cm1 c1 hp1 hG1 => ?_) 901 q.1 q.2 st' V C2 cm' D l C (by omega) g0.2.1 hG hl hC (fun v hv => by have := hV v hv; omega)
    · have : opT n X p = 12 := by
        unfold opT at c ⊢
        by_cases z : tc n X p = 20
        · rw [if_pos z]
        · rw [if_neg z] at c
          exact absurd rfl c
      rw [this, eN_op ⟨by omega, by omega⟩]
      rfl
    · have z : tc n X p1 = 20 := by
        rcases Classical.em (tc n X p1 = 20) with q | q
        · exact q
        · exact absurd (opT_0.mpr q) c1
      rw [hG1.1, au_arith (by omega), z]
    · obtain ⟨st2, hG2⟩ := hG1
      have hcm : cm1 = if st = 1 then 0 else cm := hG2.2
      have hO2 : cO (10 :: W) = cO W0 := by
        rw [← hO]
        unfold cO
        rw [List.countP_cons_of_neg (by decide)]
      have := big_atom (n := n) (X := X) (np := np) (nd := nd) (st := 2) (p := p1) (cm := cm1) (l := l1) (W := 10 :: W) (C := C1) (par := par) (Or.inr rfl) (fun z => by omega) (fun c13 => hpar 2 p1 l1 (10 :: W) C1 cm1 (Or.inr rfl) hp1 c13 hO2)
      rw [if_neg (by decide), hcm] at this
      rw [hcm]
      exact this
  have hn : n < 901 := by omega
  have g0 := gt p l hpn
  unfold sumG
  refine Big_bnd (hterm st p cm l W C hst h11 hpn hn (tlt_mono (by omega) hW) hO) (fun q st' V C2 cm' D hq hG hl hC hV => ?_)
  rw [hq] at g0
  have hr := big_rep (np := np) (nd := nd) (t := 5) (ti := 6) (nxt := 2) (G := fun a c q => G3 (if st = 1 then 0 else cm) a c q ∧ opT n X q = 0) (W := W) (op := opS n X) (code := fun p => if tc n X p = 18 then 8 else 9) (item := termG n X np nd par) hW (by omega) (fun p c => (opS_ok p c).1) gt (fun p c => ?_) (fun st1 p1 W' C' cm1 hG1 c1 hW' => ?_) (fun p1 p0 l1 C1 cm1 c1 hp1 hG1 => ?_) 901 q.1 q.2 st' V C2 cm' D l C (by omega) g0.2.1 hG hl hC (fun v hv => by have := hV v hv; omega)
  · refine Big_mono (Nat.le_refl _) (fun a c q hq => ⟨hq.1.1, ?_⟩) hr
    have e1 := opS_0.mp hq.2
    have e2 := opT_0.mp hq.1.2
    exact ⟨e1.1, e1.2, e2⟩
  · show tgh (if tc n X p = 18 then 8 else 9) = 5 ∧ eN np nd (opS n X p) = (if tc n X p = 18 then 8 else 9) * 4096
    unfold opS at c ⊢
    by_cases z : tc n X p = 18
    · rw [if_pos z, if_pos z, eN_op ⟨by omega, by omega⟩]
      exact ⟨rfl, rfl⟩
    · rw [if_neg z] at c
      by_cases z2 : tc n X p = 19
      · rw [if_neg z, if_neg z, if_pos z2, eN_op ⟨by omega, by omega⟩]
        exact ⟨rfl, rfl⟩
      · rw [if_neg z2] at c
        exact absurd rfl c
  · show AU n X np nd st1 p1 W' C' cm1 = joinA n X (if tc n X p1 = 18 then 8 else 9) 2 p1 W' C' cm1
    have z : tc n X p1 = 18 ∨ tc n X p1 = 19 := by
      rcases Classical.em (tc n X p1 = 18 ∨ tc n X p1 = 19) with q | q
      · exact q
      · exact absurd (opS_0.mpr ⟨fun w => q (Or.inl w), fun w => q (Or.inr w)⟩) c1
    rw [hG1.1.1, au_arith (by omega)]
    rcases z with z | z
    · rw [if_pos z, z]
    · rw [if_neg (by omega), z]
  · show Big n X np nd 6 (fun a c q => G3 (if st = 1 then 0 else cm) a c q ∧ opT n X q = 0) (2, p1, (if tc n X p0 = 18 then 8 else 9) :: W, C1, cm1) (termG n X np nd par p1 l1) l1 ((if tc n X p0 = 18 then 8 else 9) :: W) C1
    obtain ⟨st2, hG2⟩ := hG1
    have hcm : cm1 = if st = 1 then 0 else cm := hG2.1.2
    have hO2 : cO ((if tc n X p0 = 18 then 8 else 9) :: W) = cO W0 := by
      rw [← hO]
      unfold cO
      split
      · rw [List.countP_cons_of_neg (by decide)]
      · rw [List.countP_cons_of_neg (by decide)]
    have ht6 : tlt 6 ((if tc n X p0 = 18 then 8 else 9) :: W) := by
      show tgh (if tc n X p0 = 18 then 8 else 9) < 6
      split <;> decide
    have := hterm 2 p1 cm1 l1 ((if tc n X p0 = 18 then 8 else 9) :: W) C1 (Or.inr rfl) (fun z => by omega) hp1 hn ht6 hO2
    rw [if_neg (by decide)] at this
    rw [hcm] at this ⊢
    exact this

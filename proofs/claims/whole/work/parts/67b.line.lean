/-! ===== the class's loop ===== -/
set_option maxRecDepth 16384 in
theorem num_on {n : Nat} {X : Nat → Nat} {lo hi p : Nat} {a : Nat × Nat} (h : num n X lo hi p = .inr a) : p + 1 ≤ a.1 := by
  obtain ⟨rfl, q, -⟩ := num_r h
  have := tc_nx (X := X) (b := p) (n := n) (by omega)
  show p + 1 ≤ nx n X p
  omega
set_option maxRecDepth 16384 in
theorem AU_on {n : Nat} {X : Nat → Nat} {np nd st p : Nat} {W C : List Nat} {cm : Nat} {c' : Cfg} (h : AU n X np nd st p W C cm = .inr c') : p + 1 ≤ c'.2.1 := by
  have nxt : tc n X p ≠ 0 → c'.2.1 = nx n X p → p + 1 ≤ c'.2.1 := fun a b => by
    have := tc_nx a
    omega
  have opn : ∀ code next cm', tc n X p ≠ 0 → opnA n X code next p W C cm' = .inr c' → p + 1 ≤ c'.2.1 := fun code next cm' a b => by
    unfold opnA at b
    by_cases q : cO W < 6
    · rw [if_pos q] at b
      cases b
      exact nxt a rfl
    · rw [if_neg q] at b
      cases b
  have jn : ∀ code next cm', tc n X p ≠ 0 → joinA n X code next p W C cm' = .inr c' → p + 1 ≤ c'.2.1 := fun code next cm' a b => by
    unfold joinA at b
    cases b
    exact nxt a rfl
  have clo : ∀ code next cm', tc n X p ≠ 0 → closeA n X code next p W C cm' = .inr c' → p + 1 ≤ c'.2.1 := fun code next cm' a b => by
    unfold closeA at b
    cases hs : (stl 1 W C).1 with
    | nil =>
      rw [hs] at b
      cases b
    | cons w W' =>
      rw [hs] at b
      have b : (if w = code then (.inr (next, nx n X p, W', (stl 1 W C).2, cm') : (Nat × Nat) ⊕ Cfg) else .inl (0, 0)) = .inr c' := b
      by_cases q : w = code
      · rw [if_pos q] at b
        cases b
        exact nxt a rfl
      · rw [if_neg q] at b
        cases b
  have atm : ∀ cm', atomA n X np nd p W C cm' = .inr c' → p + 1 ≤ c'.2.1 := fun cm' b => by
    unfold atomA at b
    by_cases q1 : tc n X p = 40
    · rw [if_pos q1] at b
      cases b
      exact nxt (by omega) rfl
    rw [if_neg q1] at b
    by_cases q2 : tc n X p = 14
    · rw [if_pos q2] at b
      cases b
      exact nxt (by omega) rfl
    rw [if_neg q2] at b
    by_cases q3 : tc n X p = 15
    · rw [if_pos q3] at b
      have hx := tc_nx (X := X) (b := p) (n := n) (by omega)
      cases hq : num n X 0 (np - 1) (nx n X p) with
      | inl e =>
        rw [hq] at b
        have b : (Sum.inl e : (Nat × Nat) ⊕ Cfg) = .inr c' := b
        cases b
      | inr a =>
        rw [hq] at b
        have b : bnd (num n X 0 (nd - 1) a.1) (fun d => .inr (3, d.1, W, C ++ [eN np nd (100 + nd * a.2 + d.2)], cm')) = .inr c' := b
        have h1 := num_on hq
        cases hq2 : num n X 0 (nd - 1) a.1 with
        | inl e =>
          rw [hq2] at b
          have b : (Sum.inl e : (Nat × Nat) ⊕ Cfg) = .inr c' := b
          cases b
        | inr d =>
          rw [hq2] at b
          have b : (Sum.inr (3, d.1, W, C ++ [eN np nd (100 + nd * a.2 + d.2)], cm') : (Nat × Nat) ⊕ Cfg) = .inr c' := b
          have h2 := num_on hq2
          cases b
          show p + 1 ≤ d.1
          omega
    rw [if_neg q3] at b
    by_cases q4 : tc n X p = 16
    · rw [if_pos q4] at b
      have hx := tc_nx (X := X) (b := p) (n := n) (by omega)
      cases hq : num n X 0 (nd - 1) (nx n X p) with
      | inl e =>
        rw [hq] at b
        have b : (Sum.inl e : (Nat × Nat) ⊕ Cfg) = .inr c' := b
        cases b
      | inr a =>
        rw [hq] at b
        have b : (Sum.inr (3, a.1, W, C ++ [eN np nd (300 + a.2)], cm') : (Nat × Nat) ⊕ Cfg) = .inr c' := b
        have h1 := num_on hq
        cases b
        show p + 1 ≤ a.1
        omega
    rw [if_neg q4] at b
    by_cases q5 : tc n X p = 17
    · rw [if_pos q5] at b
      have hx := tc_nx (X := X) (b := p) (n := n) (by omega)
      cases hq : num n X 0 (np - 1) (nx n X p) with
      | inl e =>
        rw [hq] at b
        have b : (Sum.inl e : (Nat × Nat) ⊕ Cfg) = .inr c' := b
        cases b
      | inr a =>
        rw [hq] at b
        have b : (Sum.inr (3, a.1, W, C ++ [eN np nd (200 + a.2)], cm') : (Nat × Nat) ⊕ Cfg) = .inr c' := b
        have h1 := num_on hq
        cases b
        show p + 1 ≤ a.1
        omega
    rw [if_neg q5] at b
    cases b
  unfold AU at h
  by_cases s : st = 1 ∨ st = 2
  · rw [if_pos s] at h
    by_cases a : st = 1 ∧ tc n X p = 11
    · rw [if_pos a] at h
      exact opn _ _ _ (by omega) h
    rw [if_neg a] at h
    by_cases b : st = 1 ∧ tc n X p = 12
    · rw [if_pos b] at h
      exact opn _ _ _ (by omega) h
    rw [if_neg b] at h
    by_cases d : tc n X p = 13
    · rw [if_pos d] at h
      exact opn _ _ _ (by omega) h
    rw [if_neg d] at h
    exact atm _ h
  · rw [if_neg s] at h
    by_cases a : st = 3 ∧ (tc n X p = 18 ∨ tc n X p = 19 ∨ tc n X p = 20)
    · rw [if_pos a] at h
      exact jn _ _ _ (by omega) h
    rw [if_neg a] at h
    by_cases b : st = 3 ∧ 0 < c0 W
    · rw [if_pos b] at h
      by_cases d : tc n X p = 21
      · rw [if_pos d] at h
        exact clo _ _ _ (by omega) h
      · rw [if_neg d] at h
        cases h
    rw [if_neg b] at h
    by_cases d : st = 3 ∧ cm = 0
    · rw [if_pos d] at h
      by_cases e : tc n X p = 22 ∨ tc n X p = 23 ∨ tc n X p = 24
      · rw [if_pos e] at h
        exact jn _ _ _ (by omega) h
      · rw [if_neg e] at h
        cases h
    rw [if_neg d] at h
    by_cases e : tc n X p = 25
    · rw [if_pos e] at h
      exact jn _ _ _ (by omega) h
    rw [if_neg e] at h
    by_cases f : tc n X p = 26
    · rw [if_pos f] at h
      exact jn _ _ _ (by omega) h
    rw [if_neg f] at h
    by_cases g : 0 < c1 W
    · rw [if_pos g] at h
      by_cases i : tc n X p = 27
      · rw [if_pos i] at h
        exact clo _ _ _ (by omega) h
      · rw [if_neg i] at h
        cases h
    · rw [if_neg g] at h
      cases h
set_option maxRecDepth 16384 in
theorem lp_s {σ γ : Type} (body : (σ → PH → Option γ) → σ → PH → Option γ) (F : Nat) (s : σ) (h : PH) : lp body (F + 1) s h = body (lp body F) s h := id rfl
set_option maxRecDepth 16384 in
theorem c_body {n : Nat} {X : Nat → Nat} {np nd st p : Nat} {W C : List Nat} {cm k : Nat} {h h1 : PH} {r : Int32} {j111 j65 : Int32 → PH → Option (Int32 × PH)} {rec : Int32 × Int32 → PH → Option (Int32 × PH)} (c : CF n X np nd st p W C cm h) (hk : k < 900) (ho1 : st = 1 ∨ st = 2 → f_X6_readOperand 13 h = some (r, h1)) (ho2 : ¬ (st = 1 ∨ st = 2) → f_X6_readOperator 13 h = some (r, h1)) : b_X6_parse_37 13 j111 j65 rec (bI true, nI k) h = rec (r, nI (k + 1)) h1 := by
  have h8 : h.1 13 8 = nI st := c.2.2.2.2.2.1
  have b1 : 1 ≤ st := c.2.2.2.2.2.2.2.2.2.2.1
  have b2 : st ≤ 4 := c.2.2.2.2.2.2.2.2.2.2.2.1
  have e0 : (nI st = (0 : Int32)) = (st = 0) := pw_eqI (a := st) (b := 0) (by omega) (by omega)
  have e1 : (nI st = (1 : Int32)) = (st = 1) := pw_eqI (a := st) (b := 1) (by omega) (by omega)
  have e2 : (nI st = (2 : Int32)) = (st = 2) := pw_eqI (a := st) (b := 2) (by omega) (by omega)
  have hk9 : ¬ ((900 : Int32) ≤ nI k) := by
    rw [pw_lit, pw_leI (by omega) (by omega)]
    omega
  unfold b_X6_parse_37
  dsimp only
  rw [if_neg hk9, if_neg (show ¬ bI true = (0 : Int32) by decide)]
  simp only [pw_lt, h8, e0, e1, e2]
  rw [if_neg (by omega)]
  by_cases s1 : st = 1
  · rw [if_pos s1, ho1 (Or.inl s1)]
    simp only [pw_cb, pw_oi, nI_add]
  · rw [if_neg s1]
    by_cases s2 : st = 2
    · rw [if_pos s2, ho1 (Or.inr s2)]
      simp only [pw_cb, pw_oi, nI_add]
    · rw [if_neg s2, ho2 (by omega)]
      simp only [pw_cb, pw_oi, nI_add]
set_option maxRecDepth 16384 in
theorem lp_fail {F k : Nat} {h : PH} {j111 j65 : Int32 → PH → Option (Int32 × PH)} : lp (b_X6_parse_37 13 j111 j65) (F + 1) (bI false, nI k) h = j111 (bI false) h := by
  rw [lp_s]
  unfold b_X6_parse_37
  dsimp only
  rw [if_pos (show bI false = (0 : Int32) from rfl), ite_self]
/- one step of the class, whatever it says -/
set_option maxRecDepth 16384 in
theorem c_step {n : Nat} {X : Nat → Nat} {np nd st p : Nat} {W C : List Nat} {cm : Nat} {h : PH} (hv : VL n X) (h1 : 1 ≤ np) (h2 : 1 ≤ nd) (hnp : np ≤ 4) (hnd : nd ≤ 6) (hg : np * nd ≤ 12) (c : CF n X np nd st p W C cm h) (hb : C.length + W.length ≤ p) (he : ∀ e, AU n X np nd st p W C cm = .inl e → 1 ≤ e.1) : ∃ r hh, (st = 1 ∨ st = 2 → f_X6_readOperand 13 h = some (r, hh)) ∧ (¬ (st = 1 ∨ st = 2) → f_X6_readOperator 13 h = some (r, hh)) ∧ PA n X np nd (AU n X np nd st p W C cm) h r hh := by
  have b1 : 1 ≤ st := c.2.2.2.2.2.2.2.2.2.2.1
  have b2 : st ≤ 4 := c.2.2.2.2.2.2.2.2.2.2.2.1
  by_cases s : st = 1 ∨ st = 2
  · obtain ⟨r, hh, e, P⟩ := c_operand hv h1 h2 hnp hnd hg c hb s
    exact ⟨r, hh, fun _ => e, fun z => absurd s z, P⟩
  · obtain ⟨r, hh, e, P⟩ := c_operator c hb (by omega) he
    exact ⟨r, hh, fun z => absurd z s, fun _ => e, P⟩
set_option maxRecDepth 16384 in
theorem c_iter {n : Nat} {X : Nat → Nat} {np nd : Nat} {j111 j65 : Int32 → PH → Option (Int32 × PH)} (hv : VL n X) (h1 : 1 ≤ np) (h2 : 1 ≤ nd) (hnp : np ≤ 4) (hnd : nd ≤ 6) (hg : np * nd ≤ 12) : ∀ (j k st p : Nat) (W C : List Nat) (cm : Nat) (h : PH) (c' : Cfg), CF n X np nd st p W C cm h → C.length + W.length ≤ p → k + 3 ≤ p → iter n X np nd j (st, p, W, C, cm) = some c' → ∃ h', FrC h h' ∧ CF n X np nd c'.1 c'.2.1 c'.2.2.1 c'.2.2.2.1 c'.2.2.2.2 h' ∧ c'.2.2.2.1.length + c'.2.2.1.length ≤ c'.2.1 ∧ p + j ≤ c'.2.1 ∧ ∀ F, j ≤ F → lp (b_X6_parse_37 13 j111 j65) F (bI true, nI k) h = lp (b_X6_parse_37 13 j111 j65) (F - j) (bI true, nI (k + j)) h'
  | 0, k, st, p, W, C, cm, h, c', c, hb, hk, hi => by
    cases hi
    exact ⟨h, FrC_rfl h, c, hb, Nat.le_refl _, fun F _ => by rw [Nat.sub_zero, Nat.add_zero]⟩
  | j + 1, k, st, p, W, C, cm, h, c', c, hb, hk, hi => by
    have hn := c.1.1
    have hpn := c.2.1.2.2.2.2
    rw [iter] at hi
    cases hq : AUc n X np nd (st, p, W, C, cm) with
    | inl e =>
      rw [hq] at hi
      cases hi
    | inr d =>
      rw [hq] at hi
      have hq' : AU n X np nd st p W C cm = .inr d := hq
      have hon := AU_on hq'
      obtain ⟨r, hh, o1, o2, P⟩ := c_step hv h1 h2 hnp hnd hg c hb (fun e he => by
        rw [hq'] at he
        cases he)
      rw [hq'] at P
      obtain ⟨F1, rfl, d1, d2⟩ := P
      obtain ⟨h', F2, d3, d4, d5, d6⟩ := c_iter (j111 := j111) (j65 := j65) hv h1 h2 hnp hnd hg j (k + 1) d.1 d.2.1 d.2.2.1 d.2.2.2.1 d.2.2.2.2 hh c' d1 d2 (by omega) hi
      refine ⟨h', FrC_trans F1 F2, d3, d4, by omega, fun F hF => ?_⟩
      obtain ⟨F, rfl⟩ : ∃ f, F = f + 1 := ⟨F - 1, by omega⟩
      rw [lp_s, c_body c (by omega) o1 o2, d6 F (by omega), show F + 1 - (j + 1) = F - j by omega, show k + 1 + j = k + (j + 1) by omega]

/-! ===== readings: the class takes what was said ===== -/
def ps : List Nat → Nat → Nat
  | [], _ => 0
  | y :: l, x => if y = x then 0 else ps l x + 1
set_option maxRecDepth 16384 in
theorem ps_mem {x : Nat} : ∀ {l : List Nat}, x ∈ l → ps l x < l.length ∧ l.getD (ps l x) 0 = x
  | [], h => absurd h List.not_mem_nil
  | y :: l, h => by
    rw [ps]
    by_cases c : y = x
    · rw [if_pos c]
      exact ⟨by rw [List.length_cons]; omega, c⟩
    · rw [if_neg c]
      have h2 : x ∈ l := by
        rcases List.mem_cons.mp h with e | e
        · exact absurd e.symm c
        · exact e
      have ih := ps_mem h2
      exact ⟨by rw [List.length_cons]; omega, by rw [List.getD_cons_succ]; exact ih.2⟩
set_option maxRecDepth 16384 in
theorem ps_first {x : Nat} : ∀ {l : List Nat} {k : Nat}, k < ps l x → l.getD k 0 ≠ x
  | [], k, h => by rw [ps] at h; omega
  | y :: l, k, h => by
    rw [ps] at h
    by_cases c : y = x
    · rw [if_pos c] at h
      omega
    · rw [if_neg c] at h
      cases k with
      | zero => exact c
      | succ k =>
        rw [List.getD_cons_succ]
        exact ps_first (by omega)
set_option maxRecDepth 16384 in
theorem ps_app {x : Nat} {m : List Nat} : ∀ {l : List Nat}, x ∈ l → ps (l ++ m) x = ps l x
  | [], h => absurd h List.not_mem_nil
  | y :: l, h => by
    rw [List.cons_append, ps, ps]
    by_cases c : y = x
    · rw [if_pos c, if_pos c]
    · rw [if_neg c, if_neg c]
      have h2 : x ∈ l := by
        rcases List.mem_cons.mp h with e | e
        · exact absurd e.symm c
        · exact e
      rw [ps_app h2]
set_option maxRecDepth 16384 in
theorem ps_not {x : Nat} : ∀ {l : List Nat}, x ∉ l → ps l x = l.length
  | [], _ => rfl
  | y :: l, h => by
    rw [ps, if_neg (show ¬ y = x from fun e => h (by rw [e]; exact List.mem_cons_self)), ps_not (fun z => h (List.mem_cons_of_mem _ z)), List.length_cons]
set_option maxRecDepth 16384 in
theorem ps_new {x : Nat} : ∀ {l : List Nat}, x ∉ l → ps (l ++ [x]) x = l.length
  | [], _ => by rw [List.nil_append, ps, if_pos rfl]; rfl
  | y :: l, h => by
    rw [List.cons_append, ps, if_neg (show ¬ y = x from fun e => h (by rw [e]; exact List.mem_cons_self)), ps_new (fun z => h (List.mem_cons_of_mem _ z)), List.length_cons]
def kn1 (l : List Nat) (x : Nat) : List Nat := if x ∈ l then l else l ++ [x]
def kn (V : Nat → Nat) : Nat → List Nat
  | 0 => []
  | i + 1 => kn1 (kn V i) (V i / 2)
set_option maxRecDepth 16384 in
theorem kn1_mem (l : List Nat) (x : Nat) : x ∈ kn1 l x := by
  unfold kn1
  by_cases c : x ∈ l
  · rw [if_pos c]; exact c
  · rw [if_neg c]; exact List.mem_append_right _ List.mem_cons_self
set_option maxRecDepth 16384 in
theorem kn1_ps (l : List Nat) (x : Nat) : ps (kn1 l x) x = ps l x := by
  unfold kn1
  by_cases c : x ∈ l
  · rw [if_pos c]
  · rw [if_neg c, ps_new c, ps_not c]
set_option maxRecDepth 16384 in
theorem kn_len (V : Nat → Nat) : ∀ i, (kn V i).length ≤ i
  | 0 => Nat.le_refl _
  | i + 1 => by
    have := kn_len V i
    rw [kn]
    unfold kn1
    by_cases c : V i / 2 ∈ kn V i
    · rw [if_pos c]; omega
    · rw [if_neg c, List.length_append, List.length_singleton]; omega
set_option maxRecDepth 16384 in
theorem kn_ext (V : Nat → Nat) (i : Nat) : ∀ j, ∃ m, kn V (i + j) = kn V i ++ m
  | 0 => ⟨[], by rw [List.append_nil]; rfl⟩
  | j + 1 => by
    obtain ⟨m, hm⟩ := kn_ext V i j
    rw [show i + (j + 1) = i + j + 1 by omega, kn]
    unfold kn1
    by_cases c : V (i + j) / 2 ∈ kn V (i + j)
    · rw [if_pos c]
      exact ⟨m, hm⟩
    · rw [if_neg c, hm]
      exact ⟨m ++ [V (i + j) / 2], by rw [List.append_assoc]⟩
set_option maxRecDepth 16384 in
theorem kn_in (V : Nat → Nat) {i P : Nat} (h : i < P) : V i / 2 ∈ kn V P := by
  obtain ⟨m, hm⟩ := kn_ext V (i + 1) (P - (i + 1))
  rw [show i + 1 + (P - (i + 1)) = P by omega] at hm
  rw [hm]
  exact List.mem_append_left _ (kn1_mem _ _)
set_option maxRecDepth 16384 in
theorem kn_ps (V : Nat → Nat) {i P : Nat} (h : i < P) : ps (kn V i) (V i / 2) = ps (kn V P) (V i / 2) := by
  obtain ⟨m, hm⟩ := kn_ext V (i + 1) (P - (i + 1))
  rw [show i + 1 + (P - (i + 1)) = P by omega] at hm
  have hm2 : kn V P = kn1 (kn V i) (V i / 2) ++ m := hm
  rw [hm2, ps_app (kn1_mem _ _)]
  exact (kn1_ps _ _).symm
/- what holds in a case -/
def AC (V : Nat → Nat) (P c : Nat) : Nat := orTo 5 (fun i => decide (i < P) && (c.testBit (ps (kn V P) (V i / 2)) == decide (V i % 2 = 1)))
set_option maxRecDepth 16384 in
theorem AC_lt (V : Nat → Nat) (P c : Nat) : AC V P c < 32 := orTo_lt _ 5
set_option maxRecDepth 16384 in
theorem AC_tb {V : Nat → Nat} {P c i : Nat} (hi : i < P) (hP : P ≤ 5) : (AC V P c).testBit i = (c.testBit (ps (kn V P) (V i / 2)) == decide (V i % 2 = 1)) := by
  unfold AC
  rw [orTo_tb, decide_eq_true (by omega), decide_eq_true hi, Bool.true_and, Bool.true_and]
def CE (l : List Nat) (h : PH) : Prop := h.1 42 8 = nI l.length ∧ ∀ k, k < l.length → h.1 44 k = nI (l.getD k 0)
set_option maxRecDepth 16384 in
theorem CE_to {l : List Nat} {h h' : PH} (a : h'.1 42 8 = h.1 42 8) (b : h'.1 44 = h.1 44) (c : CE l h) : CE l h' := ⟨by rw [a]; exact c.1, fun k hk => by rw [b]; exact c.2 k hk⟩
set_option maxRecDepth 16384 in
theorem c_placeOfCell {l : List Nat} {x : Nat} {h : PH} (ce : CE l h) (hl : l.length < 5) (hx : x < 2147483648) (hv : ∀ k, k < l.length → l.getD k 0 < 2147483648) : ok (f_X1_placeOfCell 42 (nI x) h) (fun r h' => r = nI (ps l x) ∧ eqx [42, 44] h h' ∧ (∀ j, j ≠ 8 → h'.1 42 j = h.1 42 j) ∧ CE (kn1 l x) h') := by
  unfold f_X1_placeOfCell
  refine ok_lt ?_
  refine ok_join (fun h2 => h2 = h ∧ x ∉ l) ?_ (fun j28 hj28 => ?_)
  · rintro h2 ⟨rfl, hn⟩
    simp only [r_42_3]
    rw [ce.1, pw_stI hl (by omega)]
    refine ok_lt ?_
    have y8 : (pI h2 44 l.length (nI x)).1 42 8 + (1 : Int32) = nI (l.length + 1) := by
      rw [pw_pIo (by omega), ce.1]
      exact nI_add _ 1
    rw [y8, pw_pIs]
    have y9 : nI (l.length + 1) - (1 : Int32) = nI (ps l x) := by rw [pw_lit, pw_sub (by omega), Nat.add_sub_cancel, ps_not hn]
    rw [y9]
    refine ok_some ⟨rfl, eqx_trans (eqx_pI (by simp)) (eqx_pI (by simp)), fun j hj => by rw [pw_pIo (by omega), pw_pIo (by omega)], ?_⟩
    unfold kn1
    rw [if_neg hn]
    refine ⟨by rw [pw_pIs, List.length_append, List.length_singleton], fun k hk => ?_⟩
    rw [List.length_append, List.length_singleton] at hk
    rw [pw_pIo (by omega), getD_snoc hk]
    by_cases e : k = l.length
    · rw [if_pos e, e, pw_pIs]
    · rw [if_neg e, pw_pIo (by omega)]
      exact ce.2 k (by omega)
  · refine lp_ok (fun m s h1 => ∃ k, k + m = l.length ∧ s = nI k ∧ h1 = h ∧ ∀ i, i < k → l.getD i 0 ≠ x) ?_ FU l.length _ h ⟨0, by omega, rfl, rfl, fun i hi => absurd hi (Nat.not_lt_zero i)⟩ (fu_lt (by omega))
    rintro m rec s h1 ⟨k, hk, rfl, rfl, y⟩ hrec
    unfold b_X1_placeOfCell_2
    rw [ce.1]
    by_cases h0 : m = 0
    · rw [if_pos ((nI_leI (by omega) (by omega)).mpr (by omega))]
      refine hj28 h1 ⟨rfl, fun hm => ?_⟩
      have := ps_mem hm
      exact y _ (by omega) this.2
    · rw [if_neg (fun z => by have := (nI_leI (by omega) (by omega)).mp z; omega)]
      simp only [r_42_3]
      rw [pw_ldI (by omega) (by omega), ce.2 k (by omega)]
      have hq : (nI (l.getD k 0) = nI x) = (l.getD k 0 = x) := pw_eqI (hv k (by omega)) hx
      by_cases e : l.getD k 0 = x
      · rw [if_pos (by rw [e])]
        have hmem : x ∈ l := by rw [← e]; exact getD_mem (by omega)
        have hp := ps_mem hmem
        have hpk : ps l x = k := by
          rcases Nat.lt_trichotomy (ps l x) k with z | z | z
          · exact absurd hp.2 (y _ z)
          · exact z
          · exact absurd e (ps_first z)
        refine ok_some ⟨by rw [hpk], eqx_rfl _ _, fun _ _ => rfl, ?_⟩
        unfold kn1
        rw [if_pos hmem]
        exact ce
      · rw [if_neg (fun z => e (hq ▸ z))]
        refine ok_lt ?_
        rw [pw_oi, nI_add]
        refine hrec (m - 1) _ _ (by omega) ⟨k + 1, by omega, rfl, rfl, fun i hi => ?_⟩
        by_cases ei : i = k
        · rw [ei]; exact e
        · exact y i (by omega)
set_option maxRecDepth 16384 in
theorem tb_sh : ∀ c, c < 32 → ∀ p, p < 5 → ((c >>> p) &&& 1) = if c.testBit p then 1 else 0 := by decide
set_option maxRecDepth 16384 in
theorem bt_1 (k : Nat) : bt (1 : Int32) k = decide (k = 0) := by
  by_cases h : k < 32
  · have e : bt (1 : Int32) k = bt (nI 1) k := rfl
    rw [e, bt_nI h]
    by_cases c : k = 0
    · rw [c]; rfl
    · rw [decide_eq_false c]
      exact Nat.testBit_lt_two_pow (Nat.one_lt_two_pow (by omega))
  · rw [b_big (by omega), decide_eq_false (by omega)]
set_option maxRecDepth 16384 in
theorem c_takePart {l : List Nat} {i v : Nat} {h : PH} (ce : CE l h) (hl : l.length < 5) (hi : i < 5) (hv : v < 64) (hlv : ∀ k, k < l.length → l.getD k 0 < 2147483648) : ok (f_X1_takePart 42 (nI i) (nI v) h) (fun _ h' => eqx [42, 44, 72, 47 + 6 * i] h h' ∧ (∀ j, j ≠ 8 → h'.1 42 j = h.1 42 j) ∧ (∀ j, j ≠ 6 * i → h'.1 72 j = h.1 72 j) ∧ CE (kn1 l (v / 2)) h' ∧ h'.1 72 (6 * i) = nI 1 ∧ ∀ c, c < 32 → bt (h'.1 (47 + 6 * i) 0) c = (c.testBit (ps l (v / 2)) == decide (v % 2 = 1))) := by
  unfold f_X1_takePart
  rw [show (nz (2 : Int32) : Option (Unit × PH) → Option (Unit × PH)) = fun o => o from funext (fun o => pw_nz (k := 2) (by omega) (by omega))]
  dsimp only
  have hdv : nI v / (2 : Int32) = nI (v / 2) := by rw [pw_lit, pw_dv (by omega) (by omega) (by omega)]
  rw [hdv]
  refine ok_cb (c_placeOfCell ce hl (by have := Nat.div_le_self v 2; omega) hlv) ?_
  rintro r h2 ⟨rfl, e2, o2, c2⟩
  have hps : ps l (v / 2) < 5 := by
    by_cases hm : v / 2 ∈ l
    · have := (ps_mem hm).1; omega
    · rw [ps_not hm]; omega
  generalize ps l (v / 2) = p at *
  refine ok_lt (ok_lt (ok_lt ?_))
  refine ok_joinT (fun y h7 => h7 = h2 ∧ ∀ c, c < 32 → bt y c = (c.testBit p == decide (v % 2 = 1))) ?_ (fun j48 hj48 => ?_)
  · rintro y h7 ⟨rfl, hy⟩
    have ei : nI i * (5 : Int32) + nI i = nI (6 * i) := by
      rw [pw_lit, pw_mul, nI_add, show i * 5 + i = 6 * i by omega]
    refine ok_lt ?_
    simp only [r_42_5, r_42_6]
    rw [ei, pw_ldR (by omega) (by omega), r_46 (by omega)]
    have st0 : ∀ (g : PH → Option (Unit × PH)), stI h7 (47 + 6 * i) 14 (0 : Int32) y g = g (pI h7 (47 + 6 * i) 0 y) := fun g => by
      rw [pw_lit, pw_stI (by omega) (by omega)]
    rw [st0, pw_stI (by omega) (by omega)]
    refine ok_some ⟨eqx_trans (eqx_mono e2 (by simp)) (eqx_trans (eqx_pI (by simp)) (eqx_pI (by simp))), fun j hj => by rw [pw_pIo (by omega), pw_pIo (by omega)]; exact o2 j hj, fun j hj => by rw [pw_pIo (by omega), pw_pIo (by omega), (e2 72 (by decide)).1], CE_to (by rw [pw_pIo (by omega), pw_pIo (by omega)]) (funext fun j => by rw [pw_pIo (by omega), pw_pIo (by omega)]) c2, pw_pIs, fun c hc => ?_⟩
    rw [pw_pIo (by omega), pw_pIs]
    exact hy c hc
  · refine lp_ok (fun m s h1 => ∃ c, c + m = 32 ∧ s.2 = nI c ∧ h1 = h2 ∧ ∀ b, b < 32 → bt s.1 b = (decide (b < c) && (b.testBit p == decide (v % 2 = 1)))) ?_ FU 32 _ h2 ⟨0, by omega, rfl, rfl, fun b hb => by rw [decide_eq_false (by omega), Bool.false_and]; exact b_0 b⟩ (fu_lt (by omega))
    rintro m rec ⟨sa, sb'⟩ h1 ⟨c, hc, rfl, rfl, y⟩ hrec
    unfold b_X1_takePart_14
    dsimp only at y ⊢
    by_cases h0 : m = 0
    · rw [if_pos (show (32 : Int32) ≤ nI c by rw [pw_lit, pw_leI (by omega) (by omega)]; omega)]
      refine hj48 _ _ ⟨rfl, fun b hb => ?_⟩
      rw [y b hb, decide_eq_true (by omega), Bool.true_and]
    · rw [if_neg (show ¬ (32 : Int32) ≤ nI c by rw [pw_lit, pw_leI (by omega) (by omega)]; omega), show ∀ o : Option (Unit × PH), nz (2 : Int32) o = o from fun o => pw_nz (k := 2) (by omega) (by omega)]
      have hcond : (((nI c >>> (nI p &&& 31)) &&& (1 : Int32)) = nI v - nI (v / 2) * (2 : Int32)) = ((c.testBit p == decide (v % 2 = 1)) = true) := by
        have a1 : nI c >>> (nI p &&& 31) = nI (c >>> p) := by
          rw [pw_lit, pw_and]
          exact pw_shr (by omega) (by omega)
        have a2 : nI v - nI (v / 2) * (2 : Int32) = nI (v % 2) := by
          rw [pw_lit, pw_mul, pw_sub (by omega), show v - v / 2 * 2 = v % 2 by omega]
        rw [a1, a2, pw_lit, pw_and, tb_sh c (by omega) p hps]
        cases c.testBit p
        · rw [if_neg (by decide), pw_eqI (by omega) (by omega)]
          rcases (by omega : v % 2 = 0 ∨ v % 2 = 1) with z | z <;> rw [z] <;> decide
        · rw [if_pos rfl, pw_eqI (by omega) (by omega)]
          rcases (by omega : v % 2 = 0 ∨ v % 2 = 1) with z | z <;> rw [z] <;> decide
      rw [hdv]
      simp only [hcond]
      refine ok_joinT (fun t h13 => h13 = h1 ∧ ∀ b, b < 32 → bt t b = (decide (b < c + 1) && (b.testBit p == decide (v % 2 = 1)))) ?_ (fun j42 hj42 => ?_)
      · rintro t h13 ⟨rfl, ht⟩
        refine ok_lt ?_
        rw [pw_oi, nI_add]
        exact hrec (m - 1) _ _ (by omega) ⟨c + 1, by omega, rfl, rfl, ht⟩
      · by_cases q : (c.testBit p == decide (v % 2 = 1)) = true
        · rw [if_pos q]
          refine ok_lt ?_
          refine hj42 _ _ ⟨rfl, fun b hb => ?_⟩
          rw [b_or, y b hb, b_shl c (by omega) _ hb, bt_1]
          by_cases e : b = c
          · rw [e, q, decide_eq_false (by omega), decide_eq_true (Nat.le_refl c), decide_eq_true (by omega), decide_eq_true (by omega)]
            rfl
          · have e2 : (decide (c ≤ b) && decide (b - c = 0)) = false := by
              by_cases z : c ≤ b
              · rw [decide_eq_false (show ¬ b - c = 0 by omega), Bool.and_false]
              · rw [decide_eq_false z, Bool.false_and]
            rw [e2, Bool.or_false]
            congr 1
            exact decide_eq_decide.mpr (by omega)
        · rw [if_neg q]
          refine hj42 _ _ ⟨rfl, fun b hb => ?_⟩
          rw [y b hb]
          by_cases e : b = c
          · have q2 : (b.testBit p == decide (v % 2 = 1)) = false := by rw [e]; simpa using q
            rw [q2, Bool.and_false, Bool.and_false]
          · congr 1
            exact decide_eq_decide.mpr (by omega)

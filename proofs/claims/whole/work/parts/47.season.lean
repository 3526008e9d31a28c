/-! ===== season ===== -/
def sh16 (x : Int32) : Int32 := (x.toUInt32 >>> ((nI 16).toUInt32 &&& Int32.toUInt32 (nI 31))).toInt32
def t16 (x : Int32) : Nat := (sh16 x).toBitVec.toNat
set_option maxRecDepth 16384 in
theorem sh16_lt (x : Int32) : t16 x < 65536 := by
  refine Nat.lt_pow_two_of_testBit (n := 16) _ (fun i hi => ?_)
  rcases Nat.lt_or_ge i 32 with h | h
  · have := b_ushr 16 (by omega) x i
    have e : bt (sh16 x) i = (t16 x).testBit i := rfl
    rw [← e]
    have this : bt (sh16 x) i = bt x (16 + i) := this
    rw [this]
    exact b_big (by omega)
  · exact Nat.testBit_lt_two_pow (Nat.lt_of_lt_of_le (sh16 x).toBitVec.isLt (Nat.pow_le_pow_right (by decide) h))
set_option maxRecDepth 16384 in
theorem sh16_nI (x : Int32) : sh16 x = nI (t16 x) := Int32.toBitVec_inj.mp (by
  show (sh16 x).toBitVec = BitVec.ofNat 32 (sh16 x).toBitVec.toNat
  simp)
set_option maxRecDepth 16384 in
theorem md16 {x : Int32} {m : Nat} (h0 : 0 < m) (hm : m < 1000) : sh16 x - sh16 x / nI m * nI m = nI (t16 x % m) := by
  have h1 := sh16_lt x
  have h2 : t16 x / m * m ≤ t16 x := Nat.div_mul_le_self _ _
  have h3 := Nat.div_add_mod (t16 x) m
  have h4 : m * (t16 x / m) = t16 x / m * m := Nat.mul_comm _ _
  rw [sh16_nI, pw_dv (by omega) (by omega) h0, pw_mul, pw_sub h2]
  congr 1
  omega
def dr (x : Int32) : Int32 := nI 1103515245 * x + nI 12345
def dx (x : Int32) : Nat → Int32
  | 0 => x
  | n + 1 => dr (dx x n)
def plS (g : Nat) (x : Int32) : Nat → Nat
  | 0 => 0
  | n + 1 => plS g x n ||| 2 ^ (t16 (dx x (n + 1)) % g)
set_option maxRecDepth 16384 in
theorem plS_lt {g : Nat} (hg : 0 < g) (x : Int32) : ∀ n, plS g x n < 2 ^ g
  | 0 => Nat.two_pow_pos _
  | n + 1 => Nat.or_lt_two_pow (plS_lt hg x n) (Nat.pow_lt_pow_right (by decide) (Nat.mod_lt _ hg))
/- how many clouds the next night draws; what it leaves -/
def puS (K : Nat → Int32) (x : Int32) : Nat := t16 (dr x) % (gv K 3 + 1)
def nxS (K : Nat → Int32) (x : Int32) : Int32 := dx (dr x) (puS K x)
def pnS (K : Nat → Int32) (x : Int32) : Nat := plS (gc K) (dr x) (puS K x)
/- x, how many nights, what is known -/
def seK (K T : Nat → Int32) (x : Int32) : Nat → Int32 × Nat × (Nat → Int32)
  | 0 => (x, 0, K)
  | n + 1 => if wy (seK K T x n).2.2 T (pnS K (seK K T x n).1) = 0 then (nxS K (seK K T x n).1, (seK K T x n).2.1 + 1, NK (seK K T x n).2.2 T (pnS K (seK K T x n).1)) else (nxS K (seK K T x n).1, (seK K T x n).2.1, (seK K T x n).2.2)
set_option maxRecDepth 16384 in
theorem seK_ok {K T : Nat → Int32} {x : Int32} (G : GK K) : ∀ n, GK (seK K T x n).2.2 ∧ sameK K (seK K T x n).2.2 ∧ (seK K T x n).2.1 ≤ n
  | 0 => ⟨G, sameK_rfl K, Nat.le_refl _⟩
  | n + 1 => by
    obtain ⟨g, s, l⟩ := seK_ok (T := T) (x := x) G n
    rw [seK]
    by_cases h : wy (seK K T x n).2.2 T (pnS K (seK K T x n).1) = 0
    · rw [if_pos h]
      obtain ⟨g2, s2⟩ := NK_GK (T := T) g (pnS K (seK K T x n).1)
      exact ⟨g2, sameK_trans s s2, Nat.succ_le_succ l⟩
    · rw [if_neg h]
      exact ⟨g, s, Nat.le_succ_of_le l⟩
set_option maxRecDepth 16384 in
theorem c_draws {K T : Nat → Int32} {h : PH} {x : Int32} {n : Nat} {Q : (Int32 ⊕ Nat) → PH → Prop} {j : Int32 → Int32 → PH → Option ((Int32 ⊕ Nat) × PH)} (F : FC K T h) (hg : 0 < gc K) (hn : n < 100) (hj : ok (j (dx x n) (nI (plS (gc K) x n)) h) Q) : ok (lp (b_X11_season_84 0 (nI n) j) FU (x, nI 0, nI 0) h) Q := by
  have hb := rk_b F.1
  have s7 := F.2.1.2.2.2.2.2.2.2.1
  suffices hs : lp (b_X11_season_84 0 (nI n) j) FU (x, nI 0, nI 0) h = j (dx x n) (nI (plS (gc K) x n)) h by rw [hs]; exact hj
  refine lp_run (fun i => (dx x i, nI (plS (gc K) x i), nI i)) (fun _ => h) n _ ?_ ?_ FU (fu_lt (by omega))
  · intro i hi rec
    have hpl := plS_lt hg x i
    have hp2 : 2 ^ gc K ≤ 2 ^ 12 := Nat.pow_le_pow_right (by decide) hb.2.2.2.1
    have hmd := md16 (x := dx x (i + 1)) hg (by omega)
    have hml := Nat.mod_lt (t16 (dx x (i + 1))) hg
    have hdr : f_X11_drawn (dx x i) h = some (dx x (i + 1), h) := rfl
    unfold b_X11_season_84
    simp (disch := omega) only [pw_leI]
    rw [if_neg (by omega), hdr]
    simp only [pw_cb, pw_lt, pw_lit, r_0_2, s7]
    rw [pw_nz hg (by omega)]
    have hmd : (dx x (i + 1)).toUInt32 >>> ((nI 16).toUInt32 &&& (nI 31).toUInt32) |>.toInt32 |> fun z => z - z / nI (gc K) * nI (gc K) = nI (t16 (dx x (i + 1)) % gc K) := hmd
    rw [hmd]
    simp (disch := omega) only [pw_lt, pw_cb, pw_cbx, pw_cbxr, pw_lit, pw_litL, pw_oi, pw_oim, pw_oi8, pw_m, pw_ldI, pw_ldL, pw_ldR, pw_stI, pw_stL, pw_nz, pw_ltI, pw_leI, pw_eqI, pw_eqm, pw_eqm2, pw_ltm, pw_mlt, pw_lem, pw_mle, pw_mm, pw_dec, pw_nar0, pw_nar1, nI_add, pw_sub, pw_mul, pw_and, pw_or, pw_andn, pw_shl1, pw_shr, pw_dv, nI_l, lN_i, Bool.false_eq_true, reduceCtorEq, if_false, if_true, ↓reduceIte, if_pos, if_neg, plS]
  · intro rec
    unfold b_X11_season_84
    simp (disch := omega) only [pw_lt, pw_cb, pw_cbx, pw_cbxr, pw_lit, pw_litL, pw_oi, pw_oim, pw_oi8, pw_m, pw_ldI, pw_ldL, pw_ldR, pw_stI, pw_stL, pw_nz, pw_ltI, pw_leI, pw_eqI, pw_eqm, pw_eqm2, pw_ltm, pw_mlt, pw_lem, pw_mle, pw_mm, pw_dec, pw_nar0, pw_nar1, nI_add, pw_sub, pw_mul, pw_and, pw_or, pw_andn, pw_shl1, pw_shl, pw_shr, pw_dv, nI_l, lN_i, Bool.false_eq_true, reduceCtorEq, if_false, if_true, ↓reduceIte, if_pos, if_neg, Nat.le_refl]

/-! ===== the pure part: what the extracted functions answer. First: numbers, bits, loads, loops ===== -/
set_option maxRecDepth 16384 in
theorem pw_lt {β γ : Type} (x : β) (g : β → γ) : lt x g = g x := id rfl
set_option maxRecDepth 16384 in
theorem pw_cb {β γ : Type} (r : β) (h : PH) (g : β → PH → Option γ) : cb (some (r, h)) g = g r h := id rfl
set_option maxRecDepth 16384 in
theorem pw_cbx {β γ : Type} (r : β) (h : PH) (g : β → PH → Option ((γ ⊕ Nat) × PH)) : cbx (some (.inl r, h)) g = g r h := id rfl
set_option maxRecDepth 16384 in
theorem pw_cbxr {β γ : Type} (k : Nat) (h : PH) (g : β → PH → Option ((γ ⊕ Nat) × PH)) : cbx (some ((.inr k : β ⊕ Nat), h)) g = some (.inr k, h) := id rfl
set_option maxRecDepth 16384 in
theorem pw_lit (k : Nat) : (@OfNat.ofNat Int32 k Int32.instOfNat) = nI (@OfNat.ofNat Nat k (instOfNatNat k)) := id rfl
set_option maxRecDepth 16384 in
theorem pw_litL (k : Nat) : (@OfNat.ofNat Int64 k Int64.instOfNat) = lN (@OfNat.ofNat Nat k (instOfNatNat k)) := id rfl
set_option maxRecDepth 16384 in
theorem pw_oi : Int32.ofInt 1 = nI 1 := by decide +kernel
set_option maxRecDepth 16384 in
theorem pw_oim : Int32.ofInt (-1) = -(nI 1) := by decide +kernel
set_option maxRecDepth 16384 in
theorem pw_oi8 : Int32.ofInt (-8) = -(nI 8) := by decide +kernel
def mI : Int32 := -1
set_option maxRecDepth 16384 in
theorem pw_m : -(nI 1) = mI := id rfl
set_option maxRecDepth 16384 in
theorem pw_m' : (-1 : Int32) = mI := id rfl
set_option maxRecDepth 16384 in
theorem pw_toInt {k : Nat} (h : k < 2147483648) : (nI k).toInt = (k : Int) := nI_toInt h
set_option maxRecDepth 16384 in
theorem pw_clamp {k : Nat} (h : k < 2147483648) : (nI k).toNatClampNeg = k := nI_clamp h
set_option maxRecDepth 16384 in
theorem pw_ldI {γ : Type} {h : PH} {a n k : Nat} {g : Int32 → Option γ} (hk : k < n) (hn : k < 2147483648) : ldI h a n (nI k) g = g (h.1 a k) := by
  unfold ldI
  rw [pw_toInt hn, pw_clamp hn, if_pos ⟨by omega, by omega⟩]
set_option maxRecDepth 16384 in
theorem pw_ldL {γ : Type} {h : PH} {a n k : Nat} {g : Int64 → Option γ} (hk : k < n) (hn : k < 2147483648) : ldL h a n (nI k) g = g (h.2 a k) := by
  unfold ldL
  rw [pw_toInt hn, pw_clamp hn, if_pos ⟨by omega, by omega⟩]
set_option maxRecDepth 16384 in
theorem pw_ldR {γ : Type} {a n k : Nat} {g : Nat → Option γ} (hk : k < n) (hn : k < 2147483648) : ldR a n (nI k) g = g (rt a k) := by
  unfold ldR
  rw [pw_toInt hn, pw_clamp hn, if_pos ⟨by omega, by omega⟩]
set_option maxRecDepth 16384 in
theorem pw_stI {γ : Type} {h : PH} {a n k : Nat} {v : Int32} {g : PH → Option γ} (hk : k < n) (hn : k < 2147483648) : stI h a n (nI k) v g = g (pI h a k v) := by
  unfold stI
  rw [pw_toInt hn, pw_clamp hn, if_pos ⟨by omega, by omega⟩]
set_option maxRecDepth 16384 in
theorem pw_stL {γ : Type} {h : PH} {a n k : Nat} {v : Int64} {g : PH → Option γ} (hk : k < n) (hn : k < 2147483648) : stL h a n (nI k) v g = g (pL h a k v) := by
  unfold stL
  rw [pw_toInt hn, pw_clamp hn, if_pos ⟨by omega, by omega⟩]
set_option maxRecDepth 16384 in
theorem pw_nz {γ : Type} {k : Nat} {o : Option γ} (h0 : 0 < k) (hk : k < 2147483648) : nz (nI k) o = o := if_neg (nI_ne0 h0 hk)
/- the heap behind a store -/
set_option maxRecDepth 16384 in
theorem pw_pIs {h : PH} {a j : Nat} {v : Int32} : (pI h a j v).1 a j = v := by simp [pI]
set_option maxRecDepth 16384 in
theorem pw_pIo {h : PH} {a j b k : Nat} {v : Int32} (hn : ¬ (b = a ∧ k = j)) : (pI h a j v).1 b k = h.1 b k := by
  simp only [pI]
  rw [if_neg hn]
set_option maxRecDepth 16384 in
theorem pw_pI2 {h : PH} {a j : Nat} {v : Int32} : (pI h a j v).2 = h.2 := rfl
set_option maxRecDepth 16384 in
theorem pw_pL1 {h : PH} {a j : Nat} {v : Int64} : (pL h a j v).1 = h.1 := rfl
set_option maxRecDepth 16384 in
theorem pw_pLs {h : PH} {a j : Nat} {v : Int64} : (pL h a j v).2 a j = v := by simp [pL]
set_option maxRecDepth 16384 in
theorem pw_pLo {h : PH} {a j b k : Nat} {v : Int64} (hn : ¬ (b = a ∧ k = j)) : (pL h a j v).2 b k = h.2 b k := by
  simp only [pL]
  rw [if_neg hn]
/- comparisons of numbers -/
set_option maxRecDepth 16384 in
theorem pw_ltI {a b : Nat} (ha : a < 2147483648) (hb : b < 2147483648) : (nI a < nI b) = (a < b) := propext (nI_ltI ha hb)
set_option maxRecDepth 16384 in
theorem pw_leI {a b : Nat} (ha : a < 2147483648) (hb : b < 2147483648) : (nI a ≤ nI b) = (a ≤ b) := propext (nI_leI ha hb)
set_option maxRecDepth 16384 in
theorem pw_eqI {a b : Nat} (ha : a < 2147483648) (hb : b < 2147483648) : (nI a = nI b) = (a = b) := propext (nI_eq ha hb)
set_option maxRecDepth 16384 in
theorem pw_m1 : mI.toInt = -1 := by decide +kernel
set_option maxRecDepth 16384 in
theorem pw_eqm {a : Nat} (ha : a < 2147483648) : (nI a = mI) = False := by
  refine propext ⟨fun e => ?_, False.elim⟩
  have e := congrArg Int32.toInt e
  rw [pw_toInt ha, pw_m1] at e
  omega
set_option maxRecDepth 16384 in
theorem pw_eqm2 {a : Nat} (ha : a < 2147483648) : (mI = nI a) = False := propext ⟨fun e => by
  have h := pw_eqm ha
  rw [h.symm]
  exact e.symm, False.elim⟩
set_option maxRecDepth 16384 in
theorem pw_ltm {a : Nat} (ha : a < 2147483648) : (nI a < mI) = False := by
  refine propext ⟨fun e => ?_, False.elim⟩
  rw [Int32.lt_iff_toInt_lt, pw_toInt ha, pw_m1] at e
  omega
set_option maxRecDepth 16384 in
theorem pw_mlt {a : Nat} (ha : a < 2147483648) : (mI < nI a) = True := by
  refine propext ⟨fun _ => trivial, fun _ => ?_⟩
  rw [Int32.lt_iff_toInt_lt, pw_toInt ha, pw_m1]
  omega
set_option maxRecDepth 16384 in
theorem pw_lem {a : Nat} (ha : a < 2147483648) : (nI a ≤ mI) = False := by
  refine propext ⟨fun e => ?_, False.elim⟩
  rw [Int32.le_iff_toInt_le, pw_toInt ha, pw_m1] at e
  omega
set_option maxRecDepth 16384 in
theorem pw_mle {a : Nat} (ha : a < 2147483648) : (mI ≤ nI a) = True := by
  refine propext ⟨fun _ => trivial, fun _ => ?_⟩
  rw [Int32.le_iff_toInt_le, pw_toInt ha, pw_m1]
  omega
set_option maxRecDepth 16384 in
theorem pw_sub {a b : Nat} (h : b ≤ a) : nI a - nI b = nI (a - b) := (Int32.ofNat_sub a b h).symm
set_option maxRecDepth 16384 in
theorem pw_mul (a b : Nat) : nI a * nI b = nI (a * b) := (Int32.ofNat_mul a b).symm
set_option maxRecDepth 16384 in
theorem pw_dv {a b : Nat} (ha : a < 2147483648) (hb : b < 2147483648) (h0 : 0 < b) : nI a / nI b = nI (a / b) := by
  apply Int32.toInt_inj.mp
  have e : a / b ≤ a := Nat.div_le_self a b
  have e0 : (0 : Int) ≤ ((a / b : Nat) : Int) := Int.natCast_nonneg _
  rw [Int32.toInt_div, pw_toInt ha, pw_toInt hb, pw_toInt (by omega)]
  rw [← Int.ofNat_tdiv]
  exact Int.bmod_eq_of_le (by omega) (by omega)
set_option maxRecDepth 16384 in
theorem pw_mm : mI + nI 1 = nI 0 := by decide +kernel
set_option maxRecDepth 16384 in
theorem pw_dec {n : Nat} (h : 1 ≤ n) : nI n + mI = nI (n - 1) := by
  rw [← pw_sub h, Int32.sub_eq_add_neg]
  exact congrArg (fun z => nI n + z) (by decide +kernel)
set_option maxRecDepth 16384 in
theorem pw_nar0 : vp_nar .boolean (nI 0) = nI 0 := rfl
set_option maxRecDepth 16384 in
theorem pw_nar1 : vp_nar .boolean (nI 1) = nI 1 := rfl
/- bits -/
set_option maxRecDepth 16384 in
theorem pw_and (a b : Nat) : nI a &&& nI b = nI (a &&& b) := Int32.toBitVec_inj.mp (by
  show BitVec.ofNat 32 a &&& BitVec.ofNat 32 b = BitVec.ofNat 32 (a &&& b)
  exact BitVec.ofNat_and.symm)
set_option maxRecDepth 16384 in
theorem pw_or (a b : Nat) : nI a ||| nI b = nI (a ||| b) := Int32.toBitVec_inj.mp (by
  show BitVec.ofNat 32 a ||| BitVec.ofNat 32 b = BitVec.ofNat 32 (a ||| b)
  exact BitVec.ofNat_or.symm)
set_option maxRecDepth 16384 in
theorem pw_tn {a : Nat} (ha : a < 2147483648) : (nI a).toBitVec.toNat = a := by
  show (BitVec.ofNat 32 a).toNat = a
  rw [BitVec.toNat_ofNat]
  exact Nat.mod_eq_of_lt (by omega)
/- a without b -/
def sdf (a b : Nat) : Nat := a ^^^ (a &&& b)
set_option maxRecDepth 16384 in
theorem sdf_tb (a b i : Nat) : (sdf a b).testBit i = (a.testBit i && !b.testBit i) := by
  unfold sdf
  rw [Nat.testBit_xor, Nat.testBit_and]
  cases a.testBit i <;> cases b.testBit i <;> rfl
set_option maxRecDepth 16384 in
theorem sdf_le (a b : Nat) : sdf a b ≤ a := Nat.le_of_testBit (fun i h => by
  rw [sdf_tb] at h
  simp only [Bool.and_eq_true] at h
  exact h.1)
set_option maxRecDepth 16384 in
theorem sdf_0 {a b : Nat} : sdf a b = 0 ↔ a &&& b = a := by
  constructor
  · intro h
    apply Nat.eq_of_testBit_eq
    intro i
    have e := sdf_tb a b i
    rw [h, Nat.zero_testBit] at e
    rw [Nat.testBit_and]
    revert e
    cases a.testBit i <;> cases b.testBit i <;> simp
  · intro h
    apply Nat.eq_of_testBit_eq
    intro i
    have e := congrArg (fun z => Nat.testBit z i) h
    simp only [Nat.testBit_and] at e
    rw [sdf_tb, Nat.zero_testBit]
    revert e
    cases a.testBit i <;> cases b.testBit i <;> simp
def bt (x : Int32) (i : Nat) : Bool := x.toBitVec.getLsbD i
set_option maxRecDepth 16384 in
theorem b_ext {x y : Int32} (h : ∀ i, i < 32 → bt x i = bt y i) : x = y := Int32.toBitVec_inj.mp (BitVec.eq_of_getLsbD_eq (fun i hi => h i hi))
set_option maxRecDepth 16384 in
theorem b_or (x y : Int32) (i : Nat) : bt (x ||| y) i = (bt x i || bt y i) := by unfold bt; rw [Int32.toBitVec_or, BitVec.getLsbD_or]
set_option maxRecDepth 16384 in
theorem b_and (x y : Int32) (i : Nat) : bt (x &&& y) i = (bt x i && bt y i) := by unfold bt; rw [Int32.toBitVec_and, BitVec.getLsbD_and]
set_option maxRecDepth 16384 in
theorem b_xor (x y : Int32) (i : Nat) : bt (x ^^^ y) i = (bt x i ^^ bt y i) := by unfold bt; rw [Int32.toBitVec_xor, BitVec.getLsbD_xor]
set_option maxRecDepth 16384 in
theorem b_big {x : Int32} {i : Nat} (h : 32 ≤ i) : bt x i = false := BitVec.getLsbD_of_ge _ _ h
set_option maxRecDepth 16384 in
theorem b_255 (i : Nat) : bt 255 i = decide (i < 8) := by
  rcases Nat.lt_or_ge i 32 with h | h
  · exact (by decide +kernel : ∀ i, i < 32 → bt 255 i = decide (i < 8)) i h
  · rw [b_big h, decide_eq_false (by omega)]
set_option maxRecDepth 16384 in
theorem b_65535 (i : Nat) : bt 65535 i = decide (i < 16) := by
  rcases Nat.lt_or_ge i 32 with h | h
  · exact (by decide +kernel : ∀ i, i < 32 → bt 65535 i = decide (i < 16)) i h
  · rw [b_big h, decide_eq_false (by omega)]
set_option maxRecDepth 16384 in
theorem b_m1 : ∀ i, i < 32 → bt (-1) i = true := by decide +kernel
set_option maxRecDepth 16384 in
theorem b_0 (i : Nat) : bt 0 i = false := BitVec.getLsbD_zero
set_option maxRecDepth 16384 in
theorem s_l : ∀ n, n < 32 → ((nI n &&& 31).toBitVec.smod 32).toNat = n := by decide +kernel
set_option maxRecDepth 16384 in
theorem s_u : ∀ n, n < 32 → (((nI n).toUInt32 &&& Int32.toUInt32 31).toBitVec % 32).toNat = n := by decide +kernel
set_option maxRecDepth 16384 in
theorem b_shl (n : Nat) (hn : n < 32) (x : Int32) {i : Nat} (hi : i < 32) : bt (x <<< (nI n &&& 31)) i = (decide (n ≤ i) && bt x (i - n)) := by
  unfold bt
  rw [Int32.toBitVec_shiftLeft]
  show (x.toBitVec <<< ((nI n &&& 31).toBitVec.smod 32).toNat).getLsbD i = _
  rw [s_l n hn, BitVec.getLsbD_shiftLeft]
  rcases Nat.lt_or_ge i n with h | h
  · simp [h, Nat.not_le.mpr h]
  · simp [hi, h, Nat.not_lt.mpr h]
set_option maxRecDepth 16384 in
theorem b_ushr (n : Nat) (hn : n < 32) (x : Int32) (i : Nat) : bt ((x.toUInt32 >>> ((nI n).toUInt32 &&& Int32.toUInt32 31)).toInt32) i = bt x (n + i) := by
  show (x.toUInt32 >>> ((nI n).toUInt32 &&& Int32.toUInt32 31)).toBitVec.getLsbD i = x.toUInt32.toBitVec.getLsbD (n + i)
  rw [UInt32.toBitVec_shiftRight]
  show (x.toUInt32.toBitVec >>> (((nI n).toUInt32 &&& Int32.toUInt32 31).toBitVec % 32).toNat).getLsbD i = _
  rw [s_u n hn, BitVec.getLsbD_ushiftRight]
set_option maxRecDepth 16384 in
theorem b_sshr (n : Nat) (hn : n < 32) (x : Int32) {i : Nat} (hi : i < 32) : bt (x >>> (nI n &&& 31)) i = if n + i < 32 then bt x (n + i) else bt x 31 := by
  unfold bt
  rw [Int32.toBitVec_shiftRight]
  show (x.toBitVec.sshiftRight ((nI n &&& 31).toBitVec.smod 32).toNat).getLsbD i = _
  rw [s_l n hn, BitVec.getLsbD_sshiftRight, BitVec.msb_eq_getLsbD_last]
  simp [hi]
set_option maxRecDepth 16384 in
theorem b_shl8 (x : Int32) {i : Nat} (hi : i < 32) : bt (x <<< ((8 : Int32) &&& 31)) i = (decide (8 ≤ i) && bt x (i - 8)) := b_shl 8 (by omega) x hi
set_option maxRecDepth 16384 in
theorem b_shl16 (x : Int32) {i : Nat} (hi : i < 32) : bt (x <<< ((16 : Int32) &&& 31)) i = (decide (16 ≤ i) && bt x (i - 16)) := b_shl 16 (by omega) x hi
set_option maxRecDepth 16384 in
theorem b_shl24 (x : Int32) {i : Nat} (hi : i < 32) : bt (x <<< ((24 : Int32) &&& 31)) i = (decide (24 ≤ i) && bt x (i - 24)) := b_shl 24 (by omega) x hi
set_option maxRecDepth 16384 in
theorem b_sshr8 (x : Int32) {i : Nat} (hi : i < 32) : bt (x >>> ((8 : Int32) &&& 31)) i = if 8 + i < 32 then bt x (8 + i) else bt x 31 := b_sshr 8 (by omega) x hi
/-! ===== nI under and, xor, >>>, one bit, 65535 ===== -/
set_option maxRecDepth 16384 in
theorem bt_nI {a i : Nat} (hi : i < 32) : bt (nI a) i = a.testBit i := by
  unfold bt
  show (BitVec.ofNat 32 a).getLsbD i = _
  rw [BitVec.getLsbD_ofNat]
  simp [hi]
set_option maxRecDepth 16384 in
theorem pw_xor (a b : Nat) : nI a ^^^ nI b = nI (a ^^^ b) := b_ext (fun i hi => by rw [b_xor, bt_nI hi, bt_nI hi, bt_nI hi, Nat.testBit_xor])
set_option maxRecDepth 16384 in
theorem pw_andn (a b : Nat) : nI a &&& (nI b ^^^ mI) = nI (sdf a b) := b_ext (fun i hi => by
  rw [b_and, b_xor, bt_nI hi, bt_nI hi, show bt mI i = true from b_m1 i hi, bt_nI hi, sdf_tb]
  cases a.testBit i <;> cases b.testBit i <;> rfl)
set_option maxRecDepth 16384 in
theorem pw_shl1 {i : Nat} (hi : i < 31) : nI 1 <<< nI (i &&& 31) = nI (2 ^ i) := (by decide +kernel : ∀ i, i < 31 → nI 1 <<< nI (i &&& 31) = nI (2 ^ i)) i hi
set_option maxRecDepth 16384 in
theorem pw_shl (a : Nat) {i : Nat} (hi : i < 32) : nI a <<< nI (i &&& 31) = nI (a <<< i) := b_ext (fun j hj => by
  rw [← pw_and]
  show bt (nI a <<< (nI i &&& 31)) j = _
  rw [b_shl i hi (nI a) hj, bt_nI hj, Nat.testBit_shiftLeft]
  rcases Nat.lt_or_ge j i with h | h
  · simp [Nat.not_le.mpr h]
  · rw [bt_nI (by omega)])
set_option maxRecDepth 16384 in
theorem pw_shr {a i : Nat} (ha : a < 2147483648) (hi : i < 32) : nI a >>> nI (i &&& 31) = nI (a >>> i) := b_ext (fun j hj => by
  rw [← pw_and]
  show bt (nI a >>> (nI i &&& 31)) j = _
  rw [b_sshr i hi (nI a) hj, bt_nI hj, Nat.testBit_shiftRight]
  by_cases h : i + j < 32
  · rw [if_pos h, bt_nI h]
  · rw [if_neg h, bt_nI (by omega), Nat.testBit_lt_two_pow (show a < 2 ^ 31 from ha), Nat.testBit_lt_two_pow (Nat.lt_of_lt_of_le (show a < 2 ^ 31 from ha) (Nat.pow_le_pow_right (by decide) (by omega)))])
set_option maxRecDepth 16384 in
theorem pw_tb (a i : Nat) : (a >>> i) &&& 1 = if a.testBit i then 1 else 0 := by
  unfold Nat.testBit
  rw [Nat.and_comm 1 (a >>> i), Nat.and_one_is_mod]
  have := Nat.mod_lt (a >>> i) (show 0 < 2 by decide)
  rcases (show a >>> i % 2 = 0 ∨ a >>> i % 2 = 1 by omega) with e | e <;> simp [e]
set_option maxRecDepth 16384 in
theorem pw_dn {x : Int32} {o : Nat} (ho : o < 2147483648) : (x &&& (nI o ^^^ mI)) = nI 0 ↔ ∃ s, x = nI s ∧ s &&& o = s ∧ s ≤ o := by
  obtain ⟨m, hm, rfl⟩ : ∃ m, m < 4294967296 ∧ x = nI m := ⟨x.toBitVec.toNat, x.toBitVec.isLt, Int32.toBitVec_inj.mp (by show _ = BitVec.ofNat 32 _; simp)⟩
  rw [pw_andn]
  constructor
  · intro h
    have h1 : sdf m o = 0 := by
      have e := congrArg (fun z : Int32 => z.toBitVec.toNat) h
      have e : (BitVec.ofNat 32 (sdf m o)).toNat = (BitVec.ofNat 32 0).toNat := e
      rw [BitVec.toNat_ofNat, BitVec.toNat_ofNat, Nat.mod_eq_of_lt (Nat.lt_of_le_of_lt (sdf_le m o) (by omega))] at e
      simpa using e
    have h2 := sdf_0.mp h1
    exact ⟨m, rfl, h2, by rw [← h2]; exact Nat.and_le_right⟩
  · rintro ⟨s, e1, e2, e3⟩
    have : m = s := by
      have e := congrArg (fun z : Int32 => z.toBitVec.toNat) e1
      have e : (BitVec.ofNat 32 m).toNat = (BitVec.ofNat 32 s).toNat := e
      rw [BitVec.toNat_ofNat, BitVec.toNat_ofNat, Nat.mod_eq_of_lt (by omega), Nat.mod_eq_of_lt (by omega)] at e
      exact e
    subst this
    rw [sdf_0.mpr e2]
/- how many bits -/
def pcb : Nat → Nat → Nat
  | 0, _ => 0
  | k + 1, n => n % 2 + pcb k (n / 2)
def pc (n : Nat) : Nat := pcb 12 n
set_option maxRecDepth 16384 in
theorem pw_4096 {P : Nat → Prop} (h : ∀ a, a < 64 → ∀ b, b < 64 → P (64 * a + b)) {n : Nat} (hn : n < 4096) : P n := by
  have := h (n / 64) (by omega) (n % 64) (Nat.mod_lt _ (by decide))
  rwa [Nat.div_add_mod] at this
def bcx (a1 : Int32) : Int32 :=
  (fun x1 => (fun x2 => (fun x3 => (fun x4 => (fun x5 => x5 &&& (63 : Int32)) (x4 + ((x4.toUInt32 >>> ((16 : Int32).toUInt32 &&& Int32.toUInt32 31)).toInt32))) (x3 + ((x3.toUInt32 >>> ((8 : Int32).toUInt32 &&& Int32.toUInt32 31)).toInt32))) ((x2 + ((x2.toUInt32 >>> ((4 : Int32).toUInt32 &&& Int32.toUInt32 31)).toInt32)) &&& (252645135 : Int32))) ((x1 &&& (858993459 : Int32)) + (((x1.toUInt32 >>> ((2 : Int32).toUInt32 &&& Int32.toUInt32 31)).toInt32) &&& (858993459 : Int32)))) (a1 - (((a1.toUInt32 >>> ((1 : Int32).toUInt32 &&& Int32.toUInt32 31)).toInt32) &&& (1431655765 : Int32)))
set_option maxRecDepth 16384 in
theorem bcx_pc {n : Nat} (hn : n < 4096) : bcx (nI n) = nI (pc n) := pw_4096 (P := fun n => bcx (nI n) = nI (pc n)) (by decide +kernel) hn
set_option maxRecDepth 16384 in
theorem pc_low {n : Nat} (hn : n < 4096) (h0 : 0 < n) : pc n = pc (n &&& (n - 1)) + 1 := pw_4096 (P := fun n => 0 < n → pc n = pc (n &&& (n - 1)) + 1) (by decide +kernel) hn h0
set_option maxRecDepth 16384 in
theorem pc_le {n : Nat} (hn : n < 4096) : pc n ≤ 12 := pw_4096 (P := fun n => pc n ≤ 12) (by decide +kernel) hn
/- what a run gives -/
def ok {α : Type} (o : Option (α × PH)) (Q : α → PH → Prop) : Prop := ∃ r h, o = some (r, h) ∧ Q r h
set_option maxRecDepth 16384 in
theorem ok_some {α : Type} {r : α} {h : PH} {Q : α → PH → Prop} (q : Q r h) : ok (some (r, h)) Q := ⟨r, h, rfl, q⟩
set_option maxRecDepth 16384 in
theorem ok_cb {β α : Type} {f : Option (β × PH)} {g : β → PH → Option (α × PH)} {P : β → PH → Prop} {Q : α → PH → Prop} (hf : ok f P) (hg : ∀ r h, P r h → ok (g r h) Q) : ok (cb f g) Q := by
  obtain ⟨r, h, rfl, p⟩ := hf
  exact hg r h p
set_option maxRecDepth 16384 in
theorem ok_mono {α : Type} {o : Option (α × PH)} {P Q : α → PH → Prop} (hf : ok o P) (hg : ∀ r h, P r h → Q r h) : ok o Q := by
  obtain ⟨r, h, e, p⟩ := hf
  exact ⟨r, h, e, hg r h p⟩
set_option maxRecDepth 16384 in
theorem ok_lt {β α : Type} {x : β} {g : β → Option (α × PH)} {Q : α → PH → Prop} (h : ok (g x) Q) : ok (lt x g) Q := h
set_option maxRecDepth 16384 in
theorem ok_join {α : Type} {Q : α → PH → Prop} {j : PH → Option (α × PH)} {g : (PH → Option (α × PH)) → Option (α × PH)} (P : PH → Prop) (hj : ∀ h, P h → ok (j h) Q) (hg : ∀ j', (∀ h, P h → ok (j' h) Q) → ok (g j') Q) : ok (lt j g) Q := hg j hj
set_option maxRecDepth 16384 in
theorem ok_joinT {τ α : Type} {Q : α → PH → Prop} {j : τ → PH → Option (α × PH)} {g : (τ → PH → Option (α × PH)) → Option (α × PH)} (P : τ → PH → Prop) (hj : ∀ x h, P x h → ok (j x h) Q) (hg : ∀ j', (∀ x h, P x h → ok (j' x h) Q) → ok (g j') Q) : ok (lt j g) Q := hg j hj
/- is there one below n -/
def anyTo : Nat → (Nat → Bool) → Bool
  | 0, _ => false
  | n + 1, f => anyTo n f || f n
set_option maxRecDepth 16384 in
theorem anyTo_iff {f : Nat → Bool} : ∀ {n : Nat}, anyTo n f = true ↔ ∃ i, i < n ∧ f i = true
  | 0 => by simp [anyTo]
  | n + 1 => by
    unfold anyTo
    rw [Bool.or_eq_true, anyTo_iff]
    constructor
    · rintro (⟨i, h1, h2⟩ | h)
      · exact ⟨i, by omega, h2⟩
      · exact ⟨n, by omega, h⟩
    · rintro ⟨i, h1, h2⟩
      rcases (show i < n ∨ i = n by omega) with q | rfl
      · exact Or.inl ⟨i, q, h2⟩
      · exact Or.inr h2
set_option maxRecDepth 16384 in
theorem anyTo_congr {f g : Nat → Bool} : ∀ (n : Nat), (∀ i, i < n → f i = g i) → anyTo n f = anyTo n g
  | 0, _ => rfl
  | n + 1, h => by
    unfold anyTo
    rw [anyTo_congr n (fun i hi => h i (by omega)), h n (by omega)]
/- loops: by states numbered along the run -/
set_option maxRecDepth 16384 in
theorem lp_run {σ γ : Type} {body : (σ → PH → Option γ) → σ → PH → Option γ} (S : Nat → σ) (Hh : Nat → PH) (n : Nat) (out : Option γ) (hs : ∀ i, i < n → ∀ rec, body rec (S i) (Hh i) = rec (S (i + 1)) (Hh (i + 1))) (he : ∀ rec, body rec (S n) (Hh n) = out) : ∀ N, n < N → lp body N (S 0) (Hh 0) = out := by
  have key : ∀ k i, i + k = n → ∀ N, k < N → lp body N (S i) (Hh i) = out := by
    intro k
    induction k with
    | zero =>
      intro i hi N hN
      obtain ⟨M, rfl⟩ : ∃ M, N = M + 1 := ⟨N - 1, by omega⟩
      have : i = n := by omega
      subst this
      exact he _
    | succ k ih =>
      intro i hi N hN
      obtain ⟨M, rfl⟩ : ∃ M, N = M + 1 := ⟨N - 1, by omega⟩
      show body (lp body M) (S i) (Hh i) = out
      rw [hs i (by omega)]
      exact ih (i + 1) (by omega) M (by omega)
  intro N hN
  exact key n 0 (by omega) N hN
set_option maxRecDepth 16384 in
theorem lp_ok {σ α : Type} {body : (σ → PH → Option (α × PH)) → σ → PH → Option (α × PH)} {Q : α → PH → Prop} (I : Nat → σ → PH → Prop) (B : ∀ n rec s h, I n s h → (∀ m s' h', m < n → I m s' h' → ok (rec s' h') Q) → ok (body rec s h) Q) : ∀ N n s h, I n s h → n < N → ok (lp body N s h) Q := by
  intro N
  induction N with
  | zero => intro n s h _ hn; omega
  | succ N ih =>
    intro n s h hI hn
    exact B n (lp body N) s h hI (fun m s' h' hm hI' => ih m s' h' hI' (by omega))
set_option maxRecDepth 16384 in
theorem fu_eq : FU = 1048576 := rfl
set_option maxRecDepth 16384 in
theorem fu_lt {n : Nat} (h : n < 1048576) : n < FU := h

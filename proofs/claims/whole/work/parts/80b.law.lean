/-! ===== the law's loop ===== -/
def okL (Q : Int32 → PH → Prop) : List (Option (Int32 × PH)) → Prop
  | [] => True
  | o :: l => ok o Q ∧ okL Q l
set_option maxRecDepth 16384 in
theorem okL_at {Q : Int32 → PH → Prop} : ∀ {l : List (Option (Int32 × PH))} {k : Nat}, okL Q l → k < l.length → ok (l.getD k none) Q
  | [], k, _, h => absurd h (Nat.not_lt_zero k)
  | o :: l, 0, h, _ => h.1
  | o :: l, k + 1, h, hk => by
    rw [List.getD_cons_succ]
    exact okL_at h.2 (by rw [List.length_cons] at hk; omega)
set_option maxRecDepth 16384 in
theorem and63 (x : Int32) : ∃ v, v < 64 ∧ x &&& (63 : Int32) = nI v := by
  refine ⟨(x &&& (63 : Int32)).toBitVec.toNat, ?_, Int32.toBitVec_inj.mp ?_⟩
  · refine Nat.lt_pow_two_of_testBit (n := 6) _ (fun i hi => ?_)
    have h1 : ((x &&& (63 : Int32)).toBitVec.toNat).testBit i = bt (x &&& (63 : Int32)) i := rfl
    rw [h1, b_and]
    have h2 : bt (63 : Int32) i = false := by
      by_cases c : i < 32
      · exact (by decide +kernel : ∀ i, i < 32 → 6 ≤ i → bt (63 : Int32) i = false) i c hi
      · exact b_big (by omega)
    rw [h2, Bool.and_false]
  · show (x &&& (63 : Int32)).toBitVec = BitVec.ofNat 32 _
    simp
set_option maxRecDepth 16384 in
theorem law_ok {xs : Nat → Int32} {L : Nat} {h9 : PH} (I : INV h9) (hL : L ≤ 3072) : ∃ h', lp (b_law xs L) 513 0 h9 = some (1, h') := by
  have key : ok (lp (b_law xs L) 513 (0 : Int32) h9) (fun r _ => r = 1) := by
    refine lp_ok (fun m s h => ∃ k, k + m = 512 ∧ s = nI (6 * k) ∧ INV h) ?_ 513 512 _ h9 ⟨0, by omega, rfl, I⟩ (by decide)
    rintro m rec s h ⟨k, hk, rfl, Ih⟩ hrec
    unfold b_law
    have hofs : ((Int32.ofNat L) - (6 : Int32)).toInt = (L : Int) - 6 := by
      have e : (Int32.ofNat L) - (6 : Int32) = nI L - nI 6 := rfl
      rw [e, pw_subI (by omega) (by omega)]
      rfl
    by_cases c : 6 * k + 6 ≤ L
    · have hlt : ¬ (((Int32.ofNat L) - (6 : Int32)) < nI (6 * k)) := by
        rw [Int32.lt_iff_toInt_lt, hofs, pw_toInt (by omega)]
        omega
      rw [if_neg hlt, ldX0 (by omega) hL]
      refine ok_join (fun h' => INV h') (fun h' I' => ?_) (fun j hj => ?_)
      · refine ok_lt ?_
        have e6 : nI (6 * k) + Int32.ofInt 6 = nI (6 * (k + 1)) := by
          have e : Int32.ofInt 6 = nI 6 := by decide +kernel
          rw [e, nI_add, show 6 * k + 6 = 6 * (k + 1) by omega]
        rw [e6]
        exact hrec (m - 1) _ h' (by omega) ⟨k + 1, by omega, rfl, I'⟩
      · obtain ⟨v, hv, e⟩ := and63 (xs (6 * k))
        rw [e, pw_toInt (by omega)]
        by_cases c2 : (v : Int) < 0 ∨ (41 : Int) < (v : Int)
        · rw [if_pos c2]
          exact hj h Ih
        · rw [if_neg c2]
          have hi : 6 * k + 5 < L := by omega
          have hvn : ((v : Int) - 0).toNat = v := by omega
          rw [hvn]
          refine okL_at ⟨brk_0 hL hi Ih hj, brk_1 hL hi Ih hj, brk_2 hL hi Ih hj, brk_3 hL hi Ih hj, brk_4 hL hi Ih hj, brk_5 hL hi Ih hj, brk_6 hL hi Ih hj, brk_7 hL hi Ih hj, brk_8 hL hi Ih hj, brk_9 hL hi Ih hj, brk_10 hL hi Ih hj, brk_11 hL hi Ih hj, brk_12 hL hi Ih hj, brk_13 hL hi Ih hj, brk_14 hL hi Ih hj, brk_15 hL hi Ih hj, brk_16 hL hi Ih hj, brk_17 hL hi Ih hj, brk_18 hL hi Ih hj, brk_19 hL hi Ih hj, brk_20 hL hi Ih hj, brk_21 hL hi Ih hj, brk_22 hL hi Ih hj, brk_23 hL hi Ih hj, brk_24 hL hi Ih hj, brk_25 hL hi Ih hj, brk_26 hL hi Ih hj, brk_27 hL hi Ih hj, brk_28 hL hi Ih hj, brk_29 hL hi Ih hj, brk_30 hL hi Ih hj, brk_31 hL hi Ih hj, brk_32 hL hi Ih hj, brk_33 hL hi Ih hj, brk_34 hL hi Ih hj, brk_35 hL hi Ih hj, brk_36 hL hi Ih hj, brk_37 hL hi Ih hj, brk_38 hL hi Ih hj, brk_39 hL hi Ih hj, brk_40 hL hi Ih hj, brk_41 hL hi Ih hj, trivial⟩ ?_
          show v < 42
          omega
    · have hlt : ((Int32.ofNat L) - (6 : Int32)) < nI (6 * k) := by
        rw [Int32.lt_iff_toInt_lt, hofs, pw_toInt (by omega)]
        omega
      rw [if_pos hlt]
      exact ok_some rfl
  obtain ⟨r, h', e, rfl⟩ := key
  exact ⟨h', e⟩

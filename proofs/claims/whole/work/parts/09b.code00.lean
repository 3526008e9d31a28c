def pgX11_sky : List (Nat × Instr × Nat) := [(0, .iload_n 1, 1), (1, .ifCond .lt 11, 3), (4, .iload_n 1, 1), (5, .aload_n 0, 1), (6, .getfield 108, 3), (9, .if_icmp .le 13, 3), (12, .new 116, 3), (15, .dup, 1), (16, .ldc 118, 2), (18, .invokespecial 120, 3), (21, .athrow, 1), (22, .aload_n 0, 1), (23, .iconst 0, 1), (24, .putfield 108, 3), (27, .aload_n 0, 1), (28, .getfield 32, 3), (31, .iload_n 1, 1), (32, .invokevirtual 123, 3), (35, .ifCond .ne 14, 3), (38, .bipush (-10), 2), (40, .aload_n 0, 1), (41, .getfield 32, 3), (44, .getfield 127, 3), (47, .isub, 1), (48, .ireturn, 1), (49, .aload_n 0, 1), (50, .getfield 20, 3), (53, .aload_n 0, 1), (54, .getfield 24, 3), (57, .invokevirtual 130, 3), (60, .aload_n 0, 1), (61, .getfield 39, 3), (64, .aload_n 0, 1), (65, .getfield 20, 3), (68, .getfield 133, 3), (71, .invokevirtual 136, 3), (74, .aload_n 0, 1), (75, .invokevirtual 139, 3), (78, .aload_n 0, 1), (79, .getfield 20, 3), (82, .getfield 142, 3), (85, .ireturn, 1)]
theorem dkX11_sky : ∀ q ∈ pgX11_sky, decode cX11_sky q.1 = .ok q.2 := by decide +kernel
def f_X11_sky (this : Nat) (a1 : Int32) (h0 : PH) : Option ((Int32 ⊕ Nat) × PH) :=
  lt (fun (h1 : PH) => some (.inr 0, h1)) (fun (j12 : PH → Option ((Int32 ⊕ Nat) × PH)) => if a1 < 0 then (j12 h0) else (if a1 ≤ (h0.1 this 1) then (lt (pI h0 this 1 (0 : Int32)) (fun (h2 : PH) => cb (f_X6_parse (rt this 4) a1 h2) (fun (r3 : Int32) (h4 : PH) => if r3 = 0 then (some (.inl ((-10 : Int32) - (h4.1 (rt this 4) 10)), h4)) else (cb (f_X8_copyFrom (rt this 2) (rt this 3) h4) (fun (r5 : Unit) (h6 : PH) => cb (f_X0_begin (rt this 5) (h6.1 (rt this 2) 5) h6) (fun (r7 : Unit) (h8 : PH) => cb (f_X11_forgetWhatWasFound this h8) (fun (r9 : Unit) (h10 : PH) => some (.inl (h10.1 (rt this 2) 0), h10)))))))) else (j12 h0)))
set_option maxRecDepth 100000 in
set_option maxHeartbeats 4000000 in
theorem ct_X11_sky (l : Launch) (hlt : l.stackTraces = false) (this : Nat) (a1 : Int32) (h0 : PH) (hk : (kd this).1 = 11) : CTx mkI l yX11_sky cX11_sky 2 (some .int) (rmx 9 1 6) 1 6 [.ref this, .int a1] h0 (f_X11_sky this a1 h0) := by
  refine ctx_of (by decide) (Nat.le_of_ble_eq_true rfl) ?_
  intro p e s m args below meth c D cA ad A X hr hlk htab
  have X : Cx p s m args c RX11 cX11_sky 2 D cA ad A := X
  unfold f_X11_sky
  refine so_pick (L' := [(0, .ref this), (1, .int a1)]) X [0, 1] rfl ?_
  refine so_iload_n (i := 1) X 1 (dkX11_sky (0, .iload_n 1, 1) (pgm 0 rfl)) rfl rfl ?_
  refine so_join (jf := fun (h1 : PH) => some (.inr 0, h1)) (fun (j : PH → Option ((Int32 ⊕ Nat) × PH)) => ∀  (h1 : PH), SWo (QX mkI below args s D cA ad A 1 6) p l e (rmx 9 1 6) s m args below meth c 0 0 2 D cA ad A 12 [] [] h1 (j h1)) ?_ (fun j12 hj12 => ?_)
  · intro h1
    exact so_throwS (n := 0) (tx := "not so many bytes on the tape") X hlt hlk htab 0 (pgm 0 rfl) lk_779 lk_139 (by decide) at_RX11_120_0 (by decide) (dkX11_sky (12, .new 116, 3) (pgm 6 rfl)) (dkX11_sky (15, .dup, 1) (pgm 7 rfl)) (dkX11_sky (16, .ldc 118, 2) (pgm 8 rfl)) (dkX11_sky (18, .invokespecial 120, 3) (pgm 9 rfl)) (dkX11_sky (21, .athrow, 1) (pgm 10 rfl)) (Nat.le_of_ble_eq_true rfl) (Nat.le_of_ble_eq_true rfl) (Nat.le_of_ble_eq_true rfl) (Nat.le_of_ble_eq_true rfl) (Nat.le_of_ble_eq_true rfl) (Nat.le_of_ble_eq_true rfl)
  refine so_if_lt (tgt := 12) X (dkX11_sky (1, .ifCond .lt 11, 3) (pgm 1 rfl)) rfl (fun _ => ?_) (fun _ => ?_)
  · exact so_pick X [] rfl (hj12 h0)
  · refine so_iload_n (i := 1) X 1 (dkX11_sky (4, .iload_n 1, 1) (pgm 2 rfl)) rfl rfl ?_
    refine so_aload_n (i := 0) X 0 (dkX11_sky (5, .aload_n 0, 1) (pgm 3 rfl)) rfl rfl ?_
    refine sf_getI X ff_11_1 lk_566 hk (dkX11_sky (6, .getfield 108, 3) (pgm 4 rfl)) ?_
    refine so_icmp_le (tgt := 22) X (dkX11_sky (9, .if_icmp .le 13, 3) (pgm 5 rfl)) rfl (fun _ => ?_) (fun _ => ?_)
    · refine so_aload_n (i := 0) X 0 (dkX11_sky (22, .aload_n 0, 1) (pgm 11 rfl)) rfl rfl ?_
      refine so_iconst (v := (0 : Int32)) X (dkX11_sky (23, .iconst 0, 1) (pgm 12 rfl)) ic_0 ?_
      refine sf_putI X ff_11_1 ft_11 rfl lk_566 hk rfl rfl (dkX11_sky (24, .putfield 108, 3) (pgm 13 rfl)) (fun h2 => ?_)
      refine so_aload_n (i := 0) X 0 (dkX11_sky (27, .aload_n 0, 1) (pgm 14 rfl)) rfl rfl ?_
      refine sf_getR X ff_11_4 lk_569 hk (dkX11_sky (28, .getfield 32, 3) (pgm 15 rfl)) ?_
      refine so_iload_n (i := 1) X 1 (dkX11_sky (31, .iload_n 1, 1) (pgm 16 rfl)) rfl rfl ?_
      refine so_callV (n := 1) (As := [.int a1]) X (ct_X6_parse l (rt this 4) a1 h2 (fo (rk_11_4 this hk))) (fo (rk_11_4 this hk)) (by decide) rfl lk_847 lk_848 lk_849 lk_123 lk_850 (by decide +kernel) rfl rfl rfl (rm_okx (by omega) (by decide)) ⟨Nat.le_of_ble_eq_true rfl, Nat.le_of_ble_eq_true rfl⟩ (Nat.le_of_ble_eq_true rfl) (dkX11_sky (32, .invokevirtual 123, 3) (pgm 17 rfl)) (fun r3 h4 => ?_) rfl
      refine so_if_ne (tgt := 49) X (dkX11_sky (35, .ifCond .ne 14, 3) (pgm 18 rfl)) rfl (fun _ => ?_) (fun _ => ?_)
      · refine so_aload_n (i := 0) X 0 (dkX11_sky (49, .aload_n 0, 1) (pgm 25 rfl)) rfl rfl ?_
        refine sf_getR X ff_11_2 lk_567 hk (dkX11_sky (50, .getfield 20, 3) (pgm 26 rfl)) ?_
        refine so_aload_n (i := 0) X 0 (dkX11_sky (53, .aload_n 0, 1) (pgm 27 rfl)) rfl rfl ?_
        refine sf_getR X ff_11_3 lk_568 hk (dkX11_sky (54, .getfield 24, 3) (pgm 28 rfl)) ?_
        refine so_callV (n := 1) (As := [.ref (rt this 3)]) X (ct_X8_copyFrom l (rt this 2) (rt this 3) h4 (fo (rk_11_2 this hk)) (fo (rk_11_3 this hk))) (fo (rk_11_2 this hk)) (by decide) rfl lk_1102 lk_1103 lk_1104 lk_122 lk_1105 (by decide +kernel) rfl rfl rfl (rm_okx (by omega) (by decide)) ⟨Nat.le_of_ble_eq_true rfl, Nat.le_of_ble_eq_true rfl⟩ (Nat.le_of_ble_eq_true rfl) (dkX11_sky (57, .invokevirtual 130, 3) (pgm 29 rfl)) (fun r5 h6 => ?_) rfl
        refine so_aload_n (i := 0) X 0 (dkX11_sky (60, .aload_n 0, 1) (pgm 30 rfl)) rfl rfl ?_
        refine sf_getR X ff_11_5 lk_570 hk (dkX11_sky (61, .getfield 39, 3) (pgm 31 rfl)) ?_
        refine so_aload_n (i := 0) X 0 (dkX11_sky (64, .aload_n 0, 1) (pgm 32 rfl)) rfl rfl ?_
        refine sf_getR X ff_11_2 lk_567 hk (dkX11_sky (65, .getfield 20, 3) (pgm 33 rfl)) ?_
        refine sf_getI X ff_8_5 lk_183 (fo (rk_11_2 this hk)) (dkX11_sky (68, .getfield 133, 3) (pgm 34 rfl)) ?_
        refine so_callV (n := 1) (As := [.int (h6.1 (rt this 2) 5)]) X (ct_X0_begin l (rt this 5) (h6.1 (rt this 2) 5) h6 (fo (rk_11_5 this hk))) (fo (rk_11_5 this hk)) (by decide) rfl lk_1107 lk_1108 lk_1109 lk_125 lk_1110 (by decide +kernel) rfl rfl rfl (rm_okx (by omega) (by decide)) ⟨Nat.le_of_ble_eq_true rfl, Nat.le_of_ble_eq_true rfl⟩ (Nat.le_of_ble_eq_true rfl) (dkX11_sky (71, .invokevirtual 136, 3) (pgm 35 rfl)) (fun r7 h8 => ?_) rfl
        refine so_aload_n (i := 0) X 0 (dkX11_sky (74, .aload_n 0, 1) (pgm 36 rfl)) rfl rfl ?_
        refine so_callV (n := 0) (As := []) X (ct_X11_forgetWhatWasFound l this h8 hk) hk (by decide) rfl lk_1112 lk_1114 lk_32 lk_121 lk_1115 (by decide +kernel) rfl rfl rfl (rm_okx (by omega) (by decide)) ⟨Nat.le_of_ble_eq_true rfl, Nat.le_of_ble_eq_true rfl⟩ (Nat.le_of_ble_eq_true rfl) (dkX11_sky (75, .invokevirtual 139, 3) (pgm 37 rfl)) (fun r9 h10 => ?_) rfl
        refine so_aload_n (i := 0) X 0 (dkX11_sky (78, .aload_n 0, 1) (pgm 38 rfl)) rfl rfl ?_
        refine sf_getR X ff_11_2 lk_567 hk (dkX11_sky (79, .getfield 20, 3) (pgm 39 rfl)) ?_
        refine sf_getI X ff_8_0 lk_165 (fo (rk_11_2 this hk)) (dkX11_sky (82, .getfield 142, 3) (pgm 40 rfl)) ?_
        exact so_iretX X hr hlk (Nat.le_of_ble_eq_true rfl) (Nat.le_of_ble_eq_true rfl) (dkX11_sky (85, .ireturn, 1) (pgm 41 rfl))
      · refine so_bipush (v := (-10 : Int32)) X (dkX11_sky (38, .bipush (-10), 2) (pgm 19 rfl)) bp_m10 ?_
        refine so_aload_n (i := 0) X 0 (dkX11_sky (40, .aload_n 0, 1) (pgm 20 rfl)) rfl rfl ?_
        refine sf_getR X ff_11_4 lk_569 hk (dkX11_sky (41, .getfield 32, 3) (pgm 21 rfl)) ?_
        refine sf_getI X ff_6_10 lk_299 (fo (rk_11_4 this hk)) (dkX11_sky (44, .getfield 127, 3) (pgm 22 rfl)) ?_
        refine so_isub X (dkX11_sky (47, .isub, 1) (pgm 23 rfl)) ?_
        exact so_iretX X hr hlk (Nat.le_of_ble_eq_true rfl) (Nat.le_of_ble_eq_true rfl) (dkX11_sky (48, .ireturn, 1) (pgm 24 rfl))
    · exact so_pick X [] rfl (hj12 h0)
def pgX11_checkWish : List (Nat × Instr × Nat) := [(0, .iload_n 1, 1), (1, .ifCond .lt 14, 3), (4, .iload_n 1, 1), (5, .aload_n 0, 1), (6, .getfield 20, 3), (9, .getfield 133, 3), (12, .if_icmp .lt 13, 3), (15, .new 201, 3), (18, .dup, 1), (19, .ldc 203, 2), (21, .invokespecial 205, 3), (24, .athrow, 1), (25, .return_, 1)]
theorem dkX11_checkWish : ∀ q ∈ pgX11_checkWish, decode cX11_checkWish q.1 = .ok q.2 := by decide +kernel
def f_X11_checkWish (this : Nat) (a1 : Int32) (h0 : PH) : Option ((Unit ⊕ Nat) × PH) :=
  lt (fun (h1 : PH) => some (.inr 1, h1)) (fun (j15 : PH → Option ((Unit ⊕ Nat) × PH)) => if a1 < 0 then (j15 h0) else (if a1 < (h0.1 (rt this 2) 5) then (some (.inl (), h0)) else (j15 h0)))
set_option maxRecDepth 100000 in
set_option maxHeartbeats 4000000 in
theorem ct_X11_checkWish (l : Launch) (hlt : l.stackTraces = false) (this : Nat) (a1 : Int32) (h0 : PH) (hk : (kd this).1 = 11) : CTx mkV l yX11_checkWish cX11_checkWish 2 none (rmx 6 1 6) 1 6 [.ref this, .int a1] h0 (f_X11_checkWish this a1 h0) := by
  refine ctx_of (by decide) (Nat.le_of_ble_eq_true rfl) ?_
  intro p e s m args below meth c D cA ad A X hr hlk htab
  have X : Cx p s m args c RX11 cX11_checkWish 2 D cA ad A := X
  unfold f_X11_checkWish
  refine so_pick (L' := [(0, .ref this), (1, .int a1)]) X [0, 1] rfl ?_
  refine so_iload_n (i := 1) X 1 (dkX11_checkWish (0, .iload_n 1, 1) (pgm 0 rfl)) rfl rfl ?_
  refine so_join (jf := fun (h1 : PH) => some (.inr 1, h1)) (fun (j : PH → Option ((Unit ⊕ Nat) × PH)) => ∀  (h1 : PH), SWo (QX mkV below args s D cA ad A 1 6) p l e (rmx 6 1 6) s m args below meth c 0 0 2 D cA ad A 15 [] [] h1 (j h1)) ?_ (fun j15 hj15 => ?_)
  · intro h1
    exact so_throwN (n := 28) (tx := "no such wish") X hlt hlk htab (pgm 28 rfl) lk_1136 lk_146 at_RX11_205_1 (dkX11_checkWish (15, .new 201, 3) (pgm 7 rfl)) (dkX11_checkWish (18, .dup, 1) (pgm 8 rfl)) (dkX11_checkWish (19, .ldc 203, 2) (pgm 9 rfl)) (dkX11_checkWish (21, .invokespecial 205, 3) (pgm 10 rfl)) (dkX11_checkWish (24, .athrow, 1) (pgm 11 rfl)) (Nat.le_of_ble_eq_true rfl) (Nat.le_of_ble_eq_true rfl) (Nat.le_of_ble_eq_true rfl) (Nat.le_of_ble_eq_true rfl) (Nat.le_of_ble_eq_true rfl) (Nat.le_of_ble_eq_true rfl)
  refine so_if_lt (tgt := 15) X (dkX11_checkWish (1, .ifCond .lt 14, 3) (pgm 1 rfl)) rfl (fun _ => ?_) (fun _ => ?_)
  · exact so_pick X [] rfl (hj15 h0)
  · refine so_iload_n (i := 1) X 1 (dkX11_checkWish (4, .iload_n 1, 1) (pgm 2 rfl)) rfl rfl ?_
    refine so_aload_n (i := 0) X 0 (dkX11_checkWish (5, .aload_n 0, 1) (pgm 3 rfl)) rfl rfl ?_
    refine sf_getR X ff_11_2 lk_567 hk (dkX11_checkWish (6, .getfield 20, 3) (pgm 4 rfl)) ?_
    refine sf_getI X ff_8_5 lk_183 (fo (rk_11_2 this hk)) (dkX11_checkWish (9, .getfield 133, 3) (pgm 5 rfl)) ?_
    refine so_icmp_lt (tgt := 25) X (dkX11_checkWish (12, .if_icmp .lt 13, 3) (pgm 6 rfl)) rfl (fun _ => ?_) (fun _ => ?_)
    · exact so_vretX X hr hlk (Nat.le_of_ble_eq_true rfl) (Nat.le_of_ble_eq_true rfl) (dkX11_checkWish (25, .return_, 1) (pgm 12 rfl))
    · exact so_pick X [] rfl (hj15 h0)
def pgX11_checkOpen : List (Nat × Instr × Nat) := [(0, .aload_n 0, 1), (1, .iload_n 1, 1), (2, .invokevirtual 152, 3), (5, .aload_n 0, 1), (6, .getfield 39, 3), (9, .getfield 165, 3), (12, .iload_n 1, 1), (13, .ishr, 1), (14, .iconst 1, 1), (15, .iand, 1), (16, .ifCond .ne 13, 3), (19, .new 116, 3), (22, .dup, 1), (23, .ldc 206, 2), (25, .invokespecial 120, 3), (28, .athrow, 1), (29, .return_, 1)]
theorem dkX11_checkOpen : ∀ q ∈ pgX11_checkOpen, decode cX11_checkOpen q.1 = .ok q.2 := by decide +kernel
def f_X11_checkOpen (this : Nat) (a1 : Int32) (h0 : PH) : Option ((Unit ⊕ Nat) × PH) :=
  cbx (f_X11_checkWish this a1 h0) (fun (r1 : Unit) (h2 : PH) => if (((h2.1 (rt this 5) 0) >>> (a1 &&& 31)) &&& (1 : Int32)) = 0 then (some (.inr 0, h2)) else (some (.inl (), h2)))
set_option maxRecDepth 100000 in
set_option maxHeartbeats 4000000 in
theorem ct_X11_checkOpen (l : Launch) (hlt : l.stackTraces = false) (this : Nat) (a1 : Int32) (h0 : PH) (hk : (kd this).1 = 11) : CTx mkV l yX11_checkOpen cX11_checkOpen 2 none (rmx 7 2 12) 2 12 [.ref this, .int a1] h0 (f_X11_checkOpen this a1 h0) := by
  refine ctx_of (by decide) (Nat.le_of_ble_eq_true rfl) ?_
  intro p e s m args below meth c D cA ad A X hr hlk htab
  have X : Cx p s m args c RX11 cX11_checkOpen 2 D cA ad A := X
  unfold f_X11_checkOpen
  refine so_pick (L' := [(0, .ref this), (1, .int a1)]) X [0, 1] rfl ?_
  refine so_aload_n (i := 0) X 0 (dkX11_checkOpen (0, .aload_n 0, 1) (pgm 0 rfl)) rfl rfl ?_
  refine so_iload_n (i := 1) X 1 (dkX11_checkOpen (1, .iload_n 1, 1) (pgm 1 rfl)) rfl rfl ?_
  refine so_callX (n := 1) (As := [.int a1]) X hlk htab (ct_X11_checkWish l hlt this a1 h0 hk) hk (by decide) rfl lk_1132 lk_1134 lk_33 lk_121 lk_1135 (by decide +kernel) rfl rfl rfl (rm_okxx (by omega) (by decide)) ⟨Nat.le_of_ble_eq_true rfl, Nat.le_of_ble_eq_true rfl⟩ ⟨Nat.le_of_ble_eq_true rfl, Nat.le_of_ble_eq_true rfl⟩ (Nat.le_of_ble_eq_true rfl) (dkX11_checkOpen (2, .invokevirtual 152, 3) (pgm 2 rfl)) (fun r1 h2 => ?_) rfl
  refine so_aload_n (i := 0) X 0 (dkX11_checkOpen (5, .aload_n 0, 1) (pgm 3 rfl)) rfl rfl ?_
  refine sf_getR X ff_11_5 lk_570 hk (dkX11_checkOpen (6, .getfield 39, 3) (pgm 4 rfl)) ?_
  refine sf_getI X ff_0_0 lk_338 (fo (rk_11_5 this hk)) (dkX11_checkOpen (9, .getfield 165, 3) (pgm 5 rfl)) ?_
  refine so_iload_n (i := 1) X 1 (dkX11_checkOpen (12, .iload_n 1, 1) (pgm 6 rfl)) rfl rfl ?_
  refine so_ishr X (dkX11_checkOpen (13, .ishr, 1) (pgm 7 rfl)) ?_
  refine so_iconst (v := (1 : Int32)) X (dkX11_checkOpen (14, .iconst 1, 1) (pgm 8 rfl)) ic_1 ?_
  refine so_iand X (dkX11_checkOpen (15, .iand, 1) (pgm 9 rfl)) ?_
  refine so_if_ne (tgt := 29) X (dkX11_checkOpen (16, .ifCond .ne 13, 3) (pgm 10 rfl)) rfl (fun _ => ?_) (fun _ => ?_)
  · exact so_vretX X hr hlk (Nat.le_of_ble_eq_true rfl) (Nat.le_of_ble_eq_true rfl) (dkX11_checkOpen (29, .return_, 1) (pgm 16 rfl))
  · exact so_throwS (n := 32) (tx := "the wish is not open") X hlt hlk htab 0 (pgm 32 rfl) lk_779 lk_139 (by decide) at_RX11_120_0 (by decide) (dkX11_checkOpen (19, .new 116, 3) (pgm 11 rfl)) (dkX11_checkOpen (22, .dup, 1) (pgm 12 rfl)) (dkX11_checkOpen (23, .ldc 206, 2) (pgm 13 rfl)) (dkX11_checkOpen (25, .invokespecial 120, 3) (pgm 14 rfl)) (dkX11_checkOpen (28, .athrow, 1) (pgm 15 rfl)) (Nat.le_of_ble_eq_true rfl) (Nat.le_of_ble_eq_true rfl) (Nat.le_of_ble_eq_true rfl) (Nat.le_of_ble_eq_true rfl) (Nat.le_of_ble_eq_true rfl) (Nat.le_of_ble_eq_true rfl)
def pgX11_checkCells : List (Nat × Instr × Nat) := [(0, .iload_n 1, 1), (1, .ifCond .lt 14, 3), (4, .iload_n 1, 1), (5, .aload_n 0, 1), (6, .getfield 20, 3), (9, .getfield 208, 3), (12, .if_icmp .le 13, 3), (15, .new 116, 3), (18, .dup, 1), (19, .ldc 211, 2), (21, .invokespecial 120, 3), (24, .athrow, 1), (25, .return_, 1)]
theorem dkX11_checkCells : ∀ q ∈ pgX11_checkCells, decode cX11_checkCells q.1 = .ok q.2 := by decide +kernel
def f_X11_checkCells (this : Nat) (a1 : Int32) (h0 : PH) : Option ((Unit ⊕ Nat) × PH) :=
  lt (fun (h1 : PH) => some (.inr 0, h1)) (fun (j15 : PH → Option ((Unit ⊕ Nat) × PH)) => if a1 < 0 then (j15 h0) else (if a1 ≤ (h0.1 (rt this 2) 8) then (some (.inl (), h0)) else (j15 h0)))
set_option maxRecDepth 100000 in
set_option maxHeartbeats 4000000 in
theorem ct_X11_checkCells (l : Launch) (hlt : l.stackTraces = false) (this : Nat) (a1 : Int32) (h0 : PH) (hk : (kd this).1 = 11) : CTx mkV l yX11_checkCells cX11_checkCells 2 none (rmx 6 1 6) 1 6 [.ref this, .int a1] h0 (f_X11_checkCells this a1 h0) := by
  refine ctx_of (by decide) (Nat.le_of_ble_eq_true rfl) ?_
  intro p e s m args below meth c D cA ad A X hr hlk htab
  have X : Cx p s m args c RX11 cX11_checkCells 2 D cA ad A := X
  unfold f_X11_checkCells
  refine so_pick (L' := [(0, .ref this), (1, .int a1)]) X [0, 1] rfl ?_
  refine so_iload_n (i := 1) X 1 (dkX11_checkCells (0, .iload_n 1, 1) (pgm 0 rfl)) rfl rfl ?_
  refine so_join (jf := fun (h1 : PH) => some (.inr 0, h1)) (fun (j : PH → Option ((Unit ⊕ Nat) × PH)) => ∀  (h1 : PH), SWo (QX mkV below args s D cA ad A 1 6) p l e (rmx 6 1 6) s m args below meth c 0 0 2 D cA ad A 15 [] [] h1 (j h1)) ?_ (fun j15 hj15 => ?_)
  · intro h1
    exact so_throwS (n := 30) (tx := "others than cells") X hlt hlk htab 0 (pgm 30 rfl) lk_779 lk_139 (by decide) at_RX11_120_0 (by decide) (dkX11_checkCells (15, .new 116, 3) (pgm 7 rfl)) (dkX11_checkCells (18, .dup, 1) (pgm 8 rfl)) (dkX11_checkCells (19, .ldc 211, 2) (pgm 9 rfl)) (dkX11_checkCells (21, .invokespecial 120, 3) (pgm 10 rfl)) (dkX11_checkCells (24, .athrow, 1) (pgm 11 rfl)) (Nat.le_of_ble_eq_true rfl) (Nat.le_of_ble_eq_true rfl) (Nat.le_of_ble_eq_true rfl) (Nat.le_of_ble_eq_true rfl) (Nat.le_of_ble_eq_true rfl) (Nat.le_of_ble_eq_true rfl)
  refine so_if_lt (tgt := 15) X (dkX11_checkCells (1, .ifCond .lt 14, 3) (pgm 1 rfl)) rfl (fun _ => ?_) (fun _ => ?_)
  · exact so_pick X [] rfl (hj15 h0)
  · refine so_iload_n (i := 1) X 1 (dkX11_checkCells (4, .iload_n 1, 1) (pgm 2 rfl)) rfl rfl ?_
    refine so_aload_n (i := 0) X 0 (dkX11_checkCells (5, .aload_n 0, 1) (pgm 3 rfl)) rfl rfl ?_
    refine sf_getR X ff_11_2 lk_567 hk (dkX11_checkCells (6, .getfield 20, 3) (pgm 4 rfl)) ?_
    refine sf_getI X ff_8_8 lk_202 (fo (rk_11_2 this hk)) (dkX11_checkCells (9, .getfield 208, 3) (pgm 5 rfl)) ?_
    refine so_icmp_le (tgt := 25) X (dkX11_checkCells (12, .if_icmp .le 13, 3) (pgm 6 rfl)) rfl (fun _ => ?_) (fun _ => ?_)
    · exact so_vretX X hr hlk (Nat.le_of_ble_eq_true rfl) (Nat.le_of_ble_eq_true rfl) (dkX11_checkCells (25, .return_, 1) (pgm 12 rfl))
    · exact so_pick X [] rfl (hj15 h0)
def pgX11_checkSet : List (Nat × Instr × Nat) := [(0, .iload_n 1, 1), (1, .aload_n 0, 1), (2, .getfield 39, 3), (5, .getfield 165, 3), (8, .iconst (-1), 1), (9, .ixor, 1), (10, .iand, 1), (11, .ifCond .eq 13, 3), (14, .new 116, 3), (17, .dup, 1), (18, .ldc 213, 2), (20, .invokespecial 120, 3), (23, .athrow, 1), (24, .return_, 1)]
theorem dkX11_checkSet : ∀ q ∈ pgX11_checkSet, decode cX11_checkSet q.1 = .ok q.2 := by decide +kernel
def f_X11_checkSet (this : Nat) (a1 : Int32) (h0 : PH) : Option ((Unit ⊕ Nat) × PH) :=
  if (a1 &&& ((h0.1 (rt this 5) 0) ^^^ (-1 : Int32))) = 0 then (some (.inl (), h0)) else (some (.inr 0, h0))
set_option maxRecDepth 100000 in
set_option maxHeartbeats 4000000 in
theorem ct_X11_checkSet (l : Launch) (hlt : l.stackTraces = false) (this : Nat) (a1 : Int32) (h0 : PH) (hk : (kd this).1 = 11) : CTx mkV l yX11_checkSet cX11_checkSet 2 none (rmx 6 1 6) 1 6 [.ref this, .int a1] h0 (f_X11_checkSet this a1 h0) := by
  refine ctx_of (by decide) (Nat.le_of_ble_eq_true rfl) ?_
  intro p e s m args below meth c D cA ad A X hr hlk htab
  have X : Cx p s m args c RX11 cX11_checkSet 2 D cA ad A := X
  unfold f_X11_checkSet
  refine so_pick (L' := [(0, .ref this), (1, .int a1)]) X [0, 1] rfl ?_
  refine so_iload_n (i := 1) X 1 (dkX11_checkSet (0, .iload_n 1, 1) (pgm 0 rfl)) rfl rfl ?_
  refine so_aload_n (i := 0) X 0 (dkX11_checkSet (1, .aload_n 0, 1) (pgm 1 rfl)) rfl rfl ?_
  refine sf_getR X ff_11_5 lk_570 hk (dkX11_checkSet (2, .getfield 39, 3) (pgm 2 rfl)) ?_
  refine sf_getI X ff_0_0 lk_338 (fo (rk_11_5 this hk)) (dkX11_checkSet (5, .getfield 165, 3) (pgm 3 rfl)) ?_
  refine so_iconst (v := (-1 : Int32)) X (dkX11_checkSet (8, .iconst (-1), 1) (pgm 4 rfl)) ic_m1 ?_
  refine so_ixor X (dkX11_checkSet (9, .ixor, 1) (pgm 5 rfl)) ?_
  refine so_iand X (dkX11_checkSet (10, .iand, 1) (pgm 6 rfl)) ?_
  refine so_if_eq (tgt := 24) X (dkX11_checkSet (11, .ifCond .eq 13, 3) (pgm 7 rfl)) rfl (fun _ => ?_) (fun _ => ?_)
  · exact so_vretX X hr hlk (Nat.le_of_ble_eq_true rfl) (Nat.le_of_ble_eq_true rfl) (dkX11_checkSet (24, .return_, 1) (pgm 13 rfl))
  · exact so_throwS (n := 31) (tx := "others than open wishes") X hlt hlk htab 0 (pgm 31 rfl) lk_779 lk_139 (by decide) at_RX11_120_0 (by decide) (dkX11_checkSet (14, .new 116, 3) (pgm 8 rfl)) (dkX11_checkSet (17, .dup, 1) (pgm 9 rfl)) (dkX11_checkSet (18, .ldc 213, 2) (pgm 10 rfl)) (dkX11_checkSet (20, .invokespecial 120, 3) (pgm 11 rfl)) (dkX11_checkSet (23, .athrow, 1) (pgm 12 rfl)) (Nat.le_of_ble_eq_true rfl) (Nat.le_of_ble_eq_true rfl) (Nat.le_of_ble_eq_true rfl) (Nat.le_of_ble_eq_true rfl) (Nat.le_of_ble_eq_true rfl) (Nat.le_of_ble_eq_true rfl)
def pgX11_checkPerson : List (Nat × Instr × Nat) := [(0, .iload_n 1, 1), (1, .ifCond .lt 9, 3), (4, .iload_n 1, 1), (5, .bipush 6, 2), (7, .if_icmp .lt 13, 3), (10, .new 116, 3), (13, .dup, 1), (14, .ldc 215, 2), (16, .invokespecial 120, 3), (19, .athrow, 1), (20, .return_, 1)]
theorem dkX11_checkPerson : ∀ q ∈ pgX11_checkPerson, decode cX11_checkPerson q.1 = .ok q.2 := by decide +kernel
def f_X11_checkPerson (this : Nat) (a1 : Int32) (h0 : PH) : Option ((Unit ⊕ Nat) × PH) :=
  lt (fun (h1 : PH) => some (.inr 0, h1)) (fun (j10 : PH → Option ((Unit ⊕ Nat) × PH)) => if a1 < 0 then (j10 h0) else (if a1 < (6 : Int32) then (some (.inl (), h0)) else (j10 h0)))
set_option maxRecDepth 100000 in
set_option maxHeartbeats 4000000 in
theorem ct_X11_checkPerson (l : Launch) (hlt : l.stackTraces = false) (this : Nat) (a1 : Int32) (h0 : PH) (hk : (kd this).1 = 11) : CTx mkV l yX11_checkPerson cX11_checkPerson 2 none (rmx 6 1 6) 1 6 [.ref this, .int a1] h0 (f_X11_checkPerson this a1 h0) := by
  refine ctx_of (by decide) (Nat.le_of_ble_eq_true rfl) ?_
  intro p e s m args below meth c D cA ad A X hr hlk htab
  have X : Cx p s m args c RX11 cX11_checkPerson 2 D cA ad A := X
  unfold f_X11_checkPerson
  refine so_pick (L' := [(0, .ref this), (1, .int a1)]) X [0, 1] rfl ?_
  refine so_iload_n (i := 1) X 1 (dkX11_checkPerson (0, .iload_n 1, 1) (pgm 0 rfl)) rfl rfl ?_
  refine so_join (jf := fun (h1 : PH) => some (.inr 0, h1)) (fun (j : PH → Option ((Unit ⊕ Nat) × PH)) => ∀  (h1 : PH), SWo (QX mkV below args s D cA ad A 1 6) p l e (rmx 6 1 6) s m args below meth c 0 0 2 D cA ad A 10 [] [] h1 (j h1)) ?_ (fun j10 hj10 => ?_)
  · intro h1
    exact so_throwS (n := 36) (tx := "no such person") X hlt hlk htab 0 (pgm 36 rfl) lk_779 lk_139 (by decide) at_RX11_120_0 (by decide) (dkX11_checkPerson (10, .new 116, 3) (pgm 5 rfl)) (dkX11_checkPerson (13, .dup, 1) (pgm 6 rfl)) (dkX11_checkPerson (14, .ldc 215, 2) (pgm 7 rfl)) (dkX11_checkPerson (16, .invokespecial 120, 3) (pgm 8 rfl)) (dkX11_checkPerson (19, .athrow, 1) (pgm 9 rfl)) (Nat.le_of_ble_eq_true rfl) (Nat.le_of_ble_eq_true rfl) (Nat.le_of_ble_eq_true rfl) (Nat.le_of_ble_eq_true rfl) (Nat.le_of_ble_eq_true rfl) (Nat.le_of_ble_eq_true rfl)
  refine so_if_lt (tgt := 10) X (dkX11_checkPerson (1, .ifCond .lt 9, 3) (pgm 1 rfl)) rfl (fun _ => ?_) (fun _ => ?_)
  · exact so_pick X [] rfl (hj10 h0)
  · refine so_iload_n (i := 1) X 1 (dkX11_checkPerson (4, .iload_n 1, 1) (pgm 2 rfl)) rfl rfl ?_
    refine so_bipush (v := (6 : Int32)) X (dkX11_checkPerson (5, .bipush 6, 2) (pgm 3 rfl)) bp_6 ?_
    refine so_icmp_lt (tgt := 20) X (dkX11_checkPerson (7, .if_icmp .lt 13, 3) (pgm 4 rfl)) rfl (fun _ => ?_) (fun _ => ?_)
    · exact so_vretX X hr hlk (Nat.le_of_ble_eq_true rfl) (Nat.le_of_ble_eq_true rfl) (dkX11_checkPerson (20, .return_, 1) (pgm 10 rfl))
    · exact so_pick X [] rfl (hj10 h0)
def pgX11_checkRule : List (Nat × Instr × Nat) := [(0, .iload_n 1, 1), (1, .ifCond .lt 8, 3), (4, .iload_n 1, 1), (5, .iconst 4, 1), (6, .if_icmp .lt 13, 3), (9, .new 116, 3), (12, .dup, 1), (13, .ldc 217, 2), (15, .invokespecial 120, 3), (18, .athrow, 1), (19, .return_, 1)]
theorem dkX11_checkRule : ∀ q ∈ pgX11_checkRule, decode cX11_checkRule q.1 = .ok q.2 := by decide +kernel
def f_X11_checkRule (this : Nat) (a1 : Int32) (h0 : PH) : Option ((Unit ⊕ Nat) × PH) :=
  lt (fun (h1 : PH) => some (.inr 0, h1)) (fun (j9 : PH → Option ((Unit ⊕ Nat) × PH)) => if a1 < 0 then (j9 h0) else (if a1 < (4 : Int32) then (some (.inl (), h0)) else (j9 h0)))
set_option maxRecDepth 100000 in
set_option maxHeartbeats 4000000 in
theorem ct_X11_checkRule (l : Launch) (hlt : l.stackTraces = false) (this : Nat) (a1 : Int32) (h0 : PH) (hk : (kd this).1 = 11) : CTx mkV l yX11_checkRule cX11_checkRule 2 none (rmx 6 1 6) 1 6 [.ref this, .int a1] h0 (f_X11_checkRule this a1 h0) := by
  refine ctx_of (by decide) (Nat.le_of_ble_eq_true rfl) ?_
  intro p e s m args below meth c D cA ad A X hr hlk htab
  have X : Cx p s m args c RX11 cX11_checkRule 2 D cA ad A := X
  unfold f_X11_checkRule
  refine so_pick (L' := [(0, .ref this), (1, .int a1)]) X [0, 1] rfl ?_
  refine so_iload_n (i := 1) X 1 (dkX11_checkRule (0, .iload_n 1, 1) (pgm 0 rfl)) rfl rfl ?_
  refine so_join (jf := fun (h1 : PH) => some (.inr 0, h1)) (fun (j : PH → Option ((Unit ⊕ Nat) × PH)) => ∀  (h1 : PH), SWo (QX mkV below args s D cA ad A 1 6) p l e (rmx 6 1 6) s m args below meth c 0 0 2 D cA ad A 9 [] [] h1 (j h1)) ?_ (fun j9 hj9 => ?_)
  · intro h1
    exact so_throwS (n := 35) (tx := "no such rule") X hlt hlk htab 0 (pgm 35 rfl) lk_779 lk_139 (by decide) at_RX11_120_0 (by decide) (dkX11_checkRule (9, .new 116, 3) (pgm 5 rfl)) (dkX11_checkRule (12, .dup, 1) (pgm 6 rfl)) (dkX11_checkRule (13, .ldc 217, 2) (pgm 7 rfl)) (dkX11_checkRule (15, .invokespecial 120, 3) (pgm 8 rfl)) (dkX11_checkRule (18, .athrow, 1) (pgm 9 rfl)) (Nat.le_of_ble_eq_true rfl) (Nat.le_of_ble_eq_true rfl) (Nat.le_of_ble_eq_true rfl) (Nat.le_of_ble_eq_true rfl) (Nat.le_of_ble_eq_true rfl) (Nat.le_of_ble_eq_true rfl)
  refine so_if_lt (tgt := 9) X (dkX11_checkRule (1, .ifCond .lt 8, 3) (pgm 1 rfl)) rfl (fun _ => ?_) (fun _ => ?_)
  · exact so_pick X [] rfl (hj9 h0)
  · refine so_iload_n (i := 1) X 1 (dkX11_checkRule (4, .iload_n 1, 1) (pgm 2 rfl)) rfl rfl ?_
    refine so_iconst (v := (4 : Int32)) X (dkX11_checkRule (5, .iconst 4, 1) (pgm 3 rfl)) ic_4 ?_
    refine so_icmp_lt (tgt := 19) X (dkX11_checkRule (6, .if_icmp .lt 13, 3) (pgm 4 rfl)) rfl (fun _ => ?_) (fun _ => ?_)
    · exact so_vretX X hr hlk (Nat.le_of_ble_eq_true rfl) (Nat.le_of_ble_eq_true rfl) (dkX11_checkRule (19, .return_, 1) (pgm 10 rfl))
    · exact so_pick X [] rfl (hj9 h0)
def pgX11_checkWhat : List (Nat × Instr × Nat) := [(0, .iload_n 1, 1), (1, .ifCond .lt 8, 3), (4, .iload_n 1, 1), (5, .iload_n 2, 1), (6, .if_icmp .le 13, 3), (9, .new 116, 3), (12, .dup, 1), (13, .ldc 175, 2), (15, .invokespecial 120, 3), (18, .athrow, 1), (19, .return_, 1)]
theorem dkX11_checkWhat : ∀ q ∈ pgX11_checkWhat, decode cX11_checkWhat q.1 = .ok q.2 := by decide +kernel
def f_X11_checkWhat (this : Nat) (a1 : Int32) (a2 : Int32) (h0 : PH) : Option ((Unit ⊕ Nat) × PH) :=
  lt (fun (h1 : PH) => some (.inr 0, h1)) (fun (j9 : PH → Option ((Unit ⊕ Nat) × PH)) => if a1 < 0 then (j9 h0) else (if a1 ≤ a2 then (some (.inl (), h0)) else (j9 h0)))
set_option maxRecDepth 100000 in
set_option maxHeartbeats 4000000 in
theorem ct_X11_checkWhat (l : Launch) (hlt : l.stackTraces = false) (this : Nat) (a1 : Int32) (a2 : Int32) (h0 : PH) (hk : (kd this).1 = 11) : CTx mkV l yX11_checkWhat cX11_checkWhat 3 none (rmx 6 1 6) 1 6 [.ref this, .int a1, .int a2] h0 (f_X11_checkWhat this a1 a2 h0) := by
  refine ctx_of (by decide) (Nat.le_of_ble_eq_true rfl) ?_
  intro p e s m args below meth c D cA ad A X hr hlk htab
  have X : Cx p s m args c RX11 cX11_checkWhat 3 D cA ad A := X
  unfold f_X11_checkWhat
  refine so_pick (L' := [(0, .ref this), (1, .int a1), (2, .int a2)]) X [0, 1, 2] rfl ?_
  refine so_iload_n (i := 1) X 1 (dkX11_checkWhat (0, .iload_n 1, 1) (pgm 0 rfl)) rfl rfl ?_
  refine so_join (jf := fun (h1 : PH) => some (.inr 0, h1)) (fun (j : PH → Option ((Unit ⊕ Nat) × PH)) => ∀  (h1 : PH), SWo (QX mkV below args s D cA ad A 1 6) p l e (rmx 6 1 6) s m args below meth c 0 0 3 D cA ad A 9 [] [] h1 (j h1)) ?_ (fun j9 hj9 => ?_)
  · intro h1
    exact so_throwS (n := 29) (tx := "another what") X hlt hlk htab 0 (pgm 29 rfl) lk_779 lk_139 (by decide) at_RX11_120_0 (by decide) (dkX11_checkWhat (9, .new 116, 3) (pgm 5 rfl)) (dkX11_checkWhat (12, .dup, 1) (pgm 6 rfl)) (dkX11_checkWhat (13, .ldc 175, 2) (pgm 7 rfl)) (dkX11_checkWhat (15, .invokespecial 120, 3) (pgm 8 rfl)) (dkX11_checkWhat (18, .athrow, 1) (pgm 9 rfl)) (Nat.le_of_ble_eq_true rfl) (Nat.le_of_ble_eq_true rfl) (Nat.le_of_ble_eq_true rfl) (Nat.le_of_ble_eq_true rfl) (Nat.le_of_ble_eq_true rfl) (Nat.le_of_ble_eq_true rfl)
  refine so_if_lt (tgt := 9) X (dkX11_checkWhat (1, .ifCond .lt 8, 3) (pgm 1 rfl)) rfl (fun _ => ?_) (fun _ => ?_)
  · exact so_pick X [] rfl (hj9 h0)
  · refine so_iload_n (i := 1) X 1 (dkX11_checkWhat (4, .iload_n 1, 1) (pgm 2 rfl)) rfl rfl ?_
    refine so_iload_n (i := 2) X 2 (dkX11_checkWhat (5, .iload_n 2, 1) (pgm 3 rfl)) rfl rfl ?_
    refine so_icmp_le (tgt := 19) X (dkX11_checkWhat (6, .if_icmp .le 13, 3) (pgm 4 rfl)) rfl (fun _ => ?_) (fun _ => ?_)
    · exact so_vretX X hr hlk (Nat.le_of_ble_eq_true rfl) (Nat.le_of_ble_eq_true rfl) (dkX11_checkWhat (19, .return_, 1) (pgm 10 rfl))
    · exact so_pick X [] rfl (hj9 h0)
def pgX11_checkHundredths : List (Nat × Instr × Nat) := [(0, .iload_n 1, 1), (1, .ifCond .lt 9, 3), (4, .iload_n 1, 1), (5, .bipush 100, 2), (7, .if_icmp .le 13, 3), (10, .new 116, 3), (13, .dup, 1), (14, .ldc 219, 2), (16, .invokespecial 120, 3), (19, .athrow, 1), (20, .return_, 1)]
theorem dkX11_checkHundredths : ∀ q ∈ pgX11_checkHundredths, decode cX11_checkHundredths q.1 = .ok q.2 := by decide +kernel
def f_X11_checkHundredths (this : Nat) (a1 : Int32) (h0 : PH) : Option ((Unit ⊕ Nat) × PH) :=
  lt (fun (h1 : PH) => some (.inr 0, h1)) (fun (j10 : PH → Option ((Unit ⊕ Nat) × PH)) => if a1 < 0 then (j10 h0) else (if a1 ≤ (100 : Int32) then (some (.inl (), h0)) else (j10 h0)))
set_option maxRecDepth 100000 in
set_option maxHeartbeats 4000000 in
theorem ct_X11_checkHundredths (l : Launch) (hlt : l.stackTraces = false) (this : Nat) (a1 : Int32) (h0 : PH) (hk : (kd this).1 = 11) : CTx mkV l yX11_checkHundredths cX11_checkHundredths 2 none (rmx 6 1 6) 1 6 [.ref this, .int a1] h0 (f_X11_checkHundredths this a1 h0) := by
  refine ctx_of (by decide) (Nat.le_of_ble_eq_true rfl) ?_
  intro p e s m args below meth c D cA ad A X hr hlk htab
  have X : Cx p s m args c RX11 cX11_checkHundredths 2 D cA ad A := X
  unfold f_X11_checkHundredths
  refine so_pick (L' := [(0, .ref this), (1, .int a1)]) X [0, 1] rfl ?_
  refine so_iload_n (i := 1) X 1 (dkX11_checkHundredths (0, .iload_n 1, 1) (pgm 0 rfl)) rfl rfl ?_
  refine so_join (jf := fun (h1 : PH) => some (.inr 0, h1)) (fun (j : PH → Option ((Unit ⊕ Nat) × PH)) => ∀  (h1 : PH), SWo (QX mkV below args s D cA ad A 1 6) p l e (rmx 6 1 6) s m args below meth c 0 0 2 D cA ad A 10 [] [] h1 (j h1)) ?_ (fun j10 hj10 => ?_)
  · intro h1
    exact so_throwS (n := 34) (tx := "not hundredths") X hlt hlk htab 0 (pgm 34 rfl) lk_779 lk_139 (by decide) at_RX11_120_0 (by decide) (dkX11_checkHundredths (10, .new 116, 3) (pgm 5 rfl)) (dkX11_checkHundredths (13, .dup, 1) (pgm 6 rfl)) (dkX11_checkHundredths (14, .ldc 219, 2) (pgm 7 rfl)) (dkX11_checkHundredths (16, .invokespecial 120, 3) (pgm 8 rfl)) (dkX11_checkHundredths (19, .athrow, 1) (pgm 9 rfl)) (Nat.le_of_ble_eq_true rfl) (Nat.le_of_ble_eq_true rfl) (Nat.le_of_ble_eq_true rfl) (Nat.le_of_ble_eq_true rfl) (Nat.le_of_ble_eq_true rfl) (Nat.le_of_ble_eq_true rfl)
  refine so_if_lt (tgt := 10) X (dkX11_checkHundredths (1, .ifCond .lt 9, 3) (pgm 1 rfl)) rfl (fun _ => ?_) (fun _ => ?_)
  · exact so_pick X [] rfl (hj10 h0)
  · refine so_iload_n (i := 1) X 1 (dkX11_checkHundredths (4, .iload_n 1, 1) (pgm 2 rfl)) rfl rfl ?_
    refine so_bipush (v := (100 : Int32)) X (dkX11_checkHundredths (5, .bipush 100, 2) (pgm 3 rfl)) bp_100 ?_
    refine so_icmp_le (tgt := 20) X (dkX11_checkHundredths (7, .if_icmp .le 13, 3) (pgm 4 rfl)) rfl (fun _ => ?_) (fun _ => ?_)
    · exact so_vretX X hr hlk (Nat.le_of_ble_eq_true rfl) (Nat.le_of_ble_eq_true rfl) (dkX11_checkHundredths (20, .return_, 1) (pgm 10 rfl))
    · exact so_pick X [] rfl (hj10 h0)
def pgX11_trayThere : List (Nat × Instr × Nat) := [(0, .iload_n 1, 1), (1, .ifCond .lt 8, 3), (4, .iload_n 1, 1), (5, .iconst 4, 1), (6, .if_icmp .lt 13, 3), (9, .new 201, 3), (12, .dup, 1), (13, .ldc 221, 2), (15, .invokespecial 205, 3), (18, .athrow, 1), (19, .aload_n 0, 1), (20, .getfield 95, 3), (23, .iload_n 1, 1), (24, .aaload, 1), (25, .getfield 223, 3), (28, .iconst (-1), 1), (29, .if_icmp .ne 13, 3), (32, .new 226, 3), (35, .dup, 1), (36, .ldc 228, 2), (38, .invokespecial 230, 3), (41, .athrow, 1), (42, .aload_n 0, 1), (43, .getfield 95, 3), (46, .iload_n 1, 1), (47, .aaload, 1), (48, .areturn, 1)]
theorem dkX11_trayThere : ∀ q ∈ pgX11_trayThere, decode cX11_trayThere q.1 = .ok q.2 := by decide +kernel
def f_X11_trayThere (this : Nat) (a1 : Int32) (h0 : PH) : Option ((Nat ⊕ Nat) × PH) :=
  lt (fun (h1 : PH) => some (.inr 1, h1)) (fun (j9 : PH → Option ((Nat ⊕ Nat) × PH)) => if a1 < 0 then (j9 h0) else (if a1 < (4 : Int32) then (ldR (rt this 12) 4 a1 (fun (v2 : Nat) => if (h0.1 v2 1) = (-1 : Int32) then (some (.inr 2, h0)) else (ldR (rt this 12) 4 a1 (fun (v3 : Nat) => some (.inl v3, h0))))) else (j9 h0)))
set_option maxRecDepth 100000 in
set_option maxHeartbeats 4000000 in
theorem ct_X11_trayThere (l : Launch) (hlt : l.stackTraces = false) (this : Nat) (a1 : Int32) (h0 : PH) (hk : (kd this).1 = 11) : CTx mkR l yX11_trayThere cX11_trayThere 2 (some (.object "RainWishes$Tray")) (rmx 6 1 6) 1 6 [.ref this, .int a1] h0 (f_X11_trayThere this a1 h0) := by
  refine ctx_of (by decide) (Nat.le_of_ble_eq_true rfl) ?_
  intro p e s m args below meth c D cA ad A X hr hlk htab
  have X : Cx p s m args c RX11 cX11_trayThere 2 D cA ad A := X
  unfold f_X11_trayThere
  refine so_pick (L' := [(0, .ref this), (1, .int a1)]) X [0, 1] rfl ?_
  refine so_iload_n (i := 1) X 1 (dkX11_trayThere (0, .iload_n 1, 1) (pgm 0 rfl)) rfl rfl ?_
  refine so_join (jf := fun (h1 : PH) => some (.inr 1, h1)) (fun (j : PH → Option ((Nat ⊕ Nat) × PH)) => ∀  (h1 : PH), SWo (QX mkR below args s D cA ad A 1 6) p l e (rmx 6 1 6) s m args below meth c 0 0 2 D cA ad A 9 [] [] h1 (j h1)) ?_ (fun j9 hj9 => ?_)
  · intro h1
    exact so_throwN (n := 37) (tx := "no such tray") X hlt hlk htab (pgm 37 rfl) lk_1136 lk_146 at_RX11_205_1 (dkX11_trayThere (9, .new 201, 3) (pgm 5 rfl)) (dkX11_trayThere (12, .dup, 1) (pgm 6 rfl)) (dkX11_trayThere (13, .ldc 221, 2) (pgm 7 rfl)) (dkX11_trayThere (15, .invokespecial 205, 3) (pgm 8 rfl)) (dkX11_trayThere (18, .athrow, 1) (pgm 9 rfl)) (Nat.le_of_ble_eq_true rfl) (Nat.le_of_ble_eq_true rfl) (Nat.le_of_ble_eq_true rfl) (Nat.le_of_ble_eq_true rfl) (Nat.le_of_ble_eq_true rfl) (Nat.le_of_ble_eq_true rfl)
  refine so_if_lt (tgt := 9) X (dkX11_trayThere (1, .ifCond .lt 8, 3) (pgm 1 rfl)) rfl (fun _ => ?_) (fun _ => ?_)
  · exact so_pick X [] rfl (hj9 h0)
  · refine so_iload_n (i := 1) X 1 (dkX11_trayThere (4, .iload_n 1, 1) (pgm 2 rfl)) rfl rfl ?_
    refine so_iconst (v := (4 : Int32)) X (dkX11_trayThere (5, .iconst 4, 1) (pgm 3 rfl)) ic_4 ?_
    refine so_icmp_lt (tgt := 19) X (dkX11_trayThere (6, .if_icmp .lt 13, 3) (pgm 4 rfl)) rfl (fun _ => ?_) (fun _ => ?_)
    · refine so_aload_n (i := 0) X 0 (dkX11_trayThere (19, .aload_n 0, 1) (pgm 10 rfl)) rfl rfl ?_
      refine sf_getR X ff_11_12 lk_577 hk (dkX11_trayThere (20, .getfield 95, 3) (pgm 11 rfl)) ?_
      refine so_iload_n (i := 1) X 1 (dkX11_trayThere (23, .iload_n 1, 1) (pgm 12 rfl)) rfl rfl ?_
      refine so_aaldK X (rk_11_12 this hk) (by decide) (by decide) 6 (fun _ => rfl) rfl (re_11_12 this hk) (dkX11_trayThere (24, .aaload, 1) (pgm 13 rfl)) (fun v2 hv2 => ?_)
      refine sf_getI X ff_10_1 lk_550 (fo hv2) (dkX11_trayThere (25, .getfield 223, 3) (pgm 14 rfl)) ?_
      refine so_iconst (v := (-1 : Int32)) X (dkX11_trayThere (28, .iconst (-1), 1) (pgm 15 rfl)) ic_m1 ?_
      refine so_icmp_ne (tgt := 42) X (dkX11_trayThere (29, .if_icmp .ne 13, 3) (pgm 16 rfl)) rfl (fun _ => ?_) (fun _ => ?_)
      · refine so_aload_n (i := 0) X 0 (dkX11_trayThere (42, .aload_n 0, 1) (pgm 22 rfl)) rfl rfl ?_
        refine sf_getR X ff_11_12 lk_577 hk (dkX11_trayThere (43, .getfield 95, 3) (pgm 23 rfl)) ?_
        refine so_iload_n (i := 1) X 1 (dkX11_trayThere (46, .iload_n 1, 1) (pgm 24 rfl)) rfl rfl ?_
        refine so_aaldK X (rk_11_12 this hk) (by decide) (by decide) 6 (fun _ => rfl) rfl (re_11_12 this hk) (dkX11_trayThere (47, .aaload, 1) (pgm 25 rfl)) (fun v3 hv3 => ?_)
        exact so_aretX X hr hlk (Nat.le_of_ble_eq_true rfl) (Nat.le_of_ble_eq_true rfl) (dkX11_trayThere (48, .areturn, 1) (pgm 26 rfl))
      · exact so_throwS (n := 38) (tx := "the tray is missing") X hlt hlk htab 2 (pgm 38 rfl) lk_1367 lk_148 (by decide) at_RX11_230_2 (by decide) (dkX11_trayThere (32, .new 226, 3) (pgm 17 rfl)) (dkX11_trayThere (35, .dup, 1) (pgm 18 rfl)) (dkX11_trayThere (36, .ldc 228, 2) (pgm 19 rfl)) (dkX11_trayThere (38, .invokespecial 230, 3) (pgm 20 rfl)) (dkX11_trayThere (41, .athrow, 1) (pgm 21 rfl)) (Nat.le_of_ble_eq_true rfl) (Nat.le_of_ble_eq_true rfl) (Nat.le_of_ble_eq_true rfl) (Nat.le_of_ble_eq_true rfl) (Nat.le_of_ble_eq_true rfl) (Nat.le_of_ble_eq_true rfl)
    · exact so_pick X [] rfl (hj9 h0)
def pgX11_together : List (Nat × Instr × Nat) := [(0, .aload_n 0, 1), (1, .iload_n 1, 1), (2, .invokevirtual 231, 3), (5, .aload_n 0, 1), (6, .getfield 57, 3), (9, .invokevirtual 194, 3), (12, .iload_n 1, 1), (13, .invokevirtual 234, 3), (16, .ireturn, 1)]
theorem dkX11_together : ∀ q ∈ pgX11_together, decode cX11_together q.1 = .ok q.2 := by decide +kernel
def f_X11_together (this : Nat) (a1 : Int32) (h0 : PH) : Option ((Int32 ⊕ Nat) × PH) :=
  cbx (f_X11_checkSet this a1 h0) (fun (r1 : Unit) (h2 : PH) => cb (f_X2_settled (rt this 7) h2) (fun (r3 : Unit) (h4 : PH) => cb (f_X2_leastPlan (rt this 7) a1 h4) (fun (r5 : Int32) (h6 : PH) => some (.inl r5, h6))))
set_option maxRecDepth 100000 in
set_option maxHeartbeats 4000000 in
theorem ct_X11_together (l : Launch) (hlt : l.stackTraces = false) (this : Nat) (a1 : Int32) (h0 : PH) (hk : (kd this).1 = 11) : CTx mkI l yX11_together cX11_together 2 (some .int) (rmx 7 1 6) 1 6 [.ref this, .int a1] h0 (f_X11_together this a1 h0) := by
  refine ctx_of (by decide) (Nat.le_of_ble_eq_true rfl) ?_
  intro p e s m args below meth c D cA ad A X hr hlk htab
  have X : Cx p s m args c RX11 cX11_together 2 D cA ad A := X
  unfold f_X11_together
  refine so_pick (L' := [(0, .ref this), (1, .int a1)]) X [0, 1] rfl ?_
  refine so_aload_n (i := 0) X 0 (dkX11_together (0, .aload_n 0, 1) (pgm 0 rfl)) rfl rfl ?_
  refine so_iload_n (i := 1) X 1 (dkX11_together (1, .iload_n 1, 1) (pgm 1 rfl)) rfl rfl ?_
  refine so_callX (n := 1) (As := [.int a1]) X hlk htab (ct_X11_checkSet l hlt this a1 h0 hk) hk (by decide) rfl lk_1192 lk_1194 lk_35 lk_121 lk_1195 (by decide +kernel) rfl rfl rfl (rm_okxx (by omega) (by decide)) ⟨Nat.le_of_ble_eq_true rfl, Nat.le_of_ble_eq_true rfl⟩ ⟨Nat.le_of_ble_eq_true rfl, Nat.le_of_ble_eq_true rfl⟩ (Nat.le_of_ble_eq_true rfl) (dkX11_together (2, .invokevirtual 231, 3) (pgm 2 rfl)) (fun r1 h2 => ?_) rfl
  refine so_aload_n (i := 0) X 0 (dkX11_together (5, .aload_n 0, 1) (pgm 3 rfl)) rfl rfl ?_
  refine sf_getR X ff_11_7 lk_572 hk (dkX11_together (6, .getfield 57, 3) (pgm 4 rfl)) ?_
  refine so_callV (n := 0) (As := []) X (ct_X2_settled l (rt this 7) h2 (fo (rk_11_7 this hk))) (fo (rk_11_7 this hk)) (by decide) rfl lk_666 lk_667 lk_668 lk_128 lk_669 (by decide +kernel) rfl rfl rfl (rm_okx (by omega) (by decide)) ⟨Nat.le_of_ble_eq_true rfl, Nat.le_of_ble_eq_true rfl⟩ (Nat.le_of_ble_eq_true rfl) (dkX11_together (9, .invokevirtual 194, 3) (pgm 5 rfl)) (fun r3 h4 => ?_) rfl
  refine so_iload_n (i := 1) X 1 (dkX11_together (12, .iload_n 1, 1) (pgm 6 rfl)) rfl rfl ?_
  refine so_callV (n := 1) (As := [.int a1]) X (ct_X2_leastPlan l (rt this 7) a1 h4 (fo (rk_11_7 this hk))) (fo (rk_11_7 this hk)) (by decide) rfl lk_1197 lk_736 lk_737 lk_128 lk_738 (by decide +kernel) rfl rfl rfl (rm_okx (by omega) (by decide)) ⟨Nat.le_of_ble_eq_true rfl, Nat.le_of_ble_eq_true rfl⟩ (Nat.le_of_ble_eq_true rfl) (dkX11_together (13, .invokevirtual 234, 3) (pgm 7 rfl)) (fun r5 h6 => ?_) rfl
  exact so_iretX X hr hlk (Nat.le_of_ble_eq_true rfl) (Nat.le_of_ble_eq_true rfl) (dkX11_together (16, .ireturn, 1) (pgm 8 rfl))
def pgX11_quarrel : List (Nat × Instr × Nat) := [(0, .aload_n 0, 1), (1, .iload_n 1, 1), (2, .invokevirtual 231, 3), (5, .aload_n 0, 1), (6, .getfield 57, 3), (9, .invokevirtual 194, 3), (12, .iload_n 1, 1), (13, .invokevirtual 237, 3), (16, .ireturn, 1)]
theorem dkX11_quarrel : ∀ q ∈ pgX11_quarrel, decode cX11_quarrel q.1 = .ok q.2 := by decide +kernel
def f_X11_quarrel (this : Nat) (a1 : Int32) (h0 : PH) : Option ((Int32 ⊕ Nat) × PH) :=
  cbx (f_X11_checkSet this a1 h0) (fun (r1 : Unit) (h2 : PH) => cb (f_X2_settled (rt this 7) h2) (fun (r3 : Unit) (h4 : PH) => cb (f_X2_smallestQuarrel (rt this 7) a1 h4) (fun (r5 : Int32) (h6 : PH) => some (.inl r5, h6))))
set_option maxRecDepth 100000 in
set_option maxHeartbeats 4000000 in
theorem ct_X11_quarrel (l : Launch) (hlt : l.stackTraces = false) (this : Nat) (a1 : Int32) (h0 : PH) (hk : (kd this).1 = 11) : CTx mkI l yX11_quarrel cX11_quarrel 2 (some .int) (rmx 7 1 6) 1 6 [.ref this, .int a1] h0 (f_X11_quarrel this a1 h0) := by
  refine ctx_of (by decide) (Nat.le_of_ble_eq_true rfl) ?_
  intro p e s m args below meth c D cA ad A X hr hlk htab
  have X : Cx p s m args c RX11 cX11_quarrel 2 D cA ad A := X
  unfold f_X11_quarrel
  refine so_pick (L' := [(0, .ref this), (1, .int a1)]) X [0, 1] rfl ?_
  refine so_aload_n (i := 0) X 0 (dkX11_quarrel (0, .aload_n 0, 1) (pgm 0 rfl)) rfl rfl ?_
  refine so_iload_n (i := 1) X 1 (dkX11_quarrel (1, .iload_n 1, 1) (pgm 1 rfl)) rfl rfl ?_
  refine so_callX (n := 1) (As := [.int a1]) X hlk htab (ct_X11_checkSet l hlt this a1 h0 hk) hk (by decide) rfl lk_1192 lk_1194 lk_35 lk_121 lk_1195 (by decide +kernel) rfl rfl rfl (rm_okxx (by omega) (by decide)) ⟨Nat.le_of_ble_eq_true rfl, Nat.le_of_ble_eq_true rfl⟩ ⟨Nat.le_of_ble_eq_true rfl, Nat.le_of_ble_eq_true rfl⟩ (Nat.le_of_ble_eq_true rfl) (dkX11_quarrel (2, .invokevirtual 231, 3) (pgm 2 rfl)) (fun r1 h2 => ?_) rfl
  refine so_aload_n (i := 0) X 0 (dkX11_quarrel (5, .aload_n 0, 1) (pgm 3 rfl)) rfl rfl ?_
  refine sf_getR X ff_11_7 lk_572 hk (dkX11_quarrel (6, .getfield 57, 3) (pgm 4 rfl)) ?_
  refine so_callV (n := 0) (As := []) X (ct_X2_settled l (rt this 7) h2 (fo (rk_11_7 this hk))) (fo (rk_11_7 this hk)) (by decide) rfl lk_666 lk_667 lk_668 lk_128 lk_669 (by decide +kernel) rfl rfl rfl (rm_okx (by omega) (by decide)) ⟨Nat.le_of_ble_eq_true rfl, Nat.le_of_ble_eq_true rfl⟩ (Nat.le_of_ble_eq_true rfl) (dkX11_quarrel (9, .invokevirtual 194, 3) (pgm 5 rfl)) (fun r3 h4 => ?_) rfl
  refine so_iload_n (i := 1) X 1 (dkX11_quarrel (12, .iload_n 1, 1) (pgm 6 rfl)) rfl rfl ?_
  refine so_callV (n := 1) (As := [.int a1]) X (ct_X2_smallestQuarrel l (rt this 7) a1 h4 (fo (rk_11_7 this hk))) (fo (rk_11_7 this hk)) (by decide) rfl lk_1205 lk_1206 lk_1207 lk_128 lk_1208 (by decide +kernel) rfl rfl rfl (rm_okx (by omega) (by decide)) ⟨Nat.le_of_ble_eq_true rfl, Nat.le_of_ble_eq_true rfl⟩ (Nat.le_of_ble_eq_true rfl) (dkX11_quarrel (13, .invokevirtual 237, 3) (pgm 7 rfl)) (fun r5 h6 => ?_) rfl
  exact so_iretX X hr hlk (Nat.le_of_ble_eq_true rfl) (Nat.le_of_ble_eq_true rfl) (dkX11_quarrel (16, .ireturn, 1) (pgm 8 rfl))
def pgX11_foes : List (Nat × Instr × Nat) := [(0, .aload_n 0, 1), (1, .iload_n 1, 1), (2, .invokevirtual 240, 3), (5, .aload_n 0, 1), (6, .getfield 57, 3), (9, .invokevirtual 194, 3), (12, .iload_n 1, 1), (13, .invokevirtual 243, 3), (16, .ireturn, 1)]
theorem dkX11_foes : ∀ q ∈ pgX11_foes, decode cX11_foes q.1 = .ok q.2 := by decide +kernel
def f_X11_foes (this : Nat) (a1 : Int32) (h0 : PH) : Option ((Int32 ⊕ Nat) × PH) :=
  cbx (f_X11_checkOpen this a1 h0) (fun (r1 : Unit) (h2 : PH) => cb (f_X2_settled (rt this 7) h2) (fun (r3 : Unit) (h4 : PH) => cb (f_X2_foesOf (rt this 7) a1 h4) (fun (r5 : Int32) (h6 : PH) => some (.inl r5, h6))))
set_option maxRecDepth 100000 in
set_option maxHeartbeats 4000000 in
theorem ct_X11_foes (l : Launch) (hlt : l.stackTraces = false) (this : Nat) (a1 : Int32) (h0 : PH) (hk : (kd this).1 = 11) : CTx mkI l yX11_foes cX11_foes 2 (some .int) (rmx 8 2 12) 2 12 [.ref this, .int a1] h0 (f_X11_foes this a1 h0) := by
  refine ctx_of (by decide) (Nat.le_of_ble_eq_true rfl) ?_
  intro p e s m args below meth c D cA ad A X hr hlk htab
  have X : Cx p s m args c RX11 cX11_foes 2 D cA ad A := X
  unfold f_X11_foes
  refine so_pick (L' := [(0, .ref this), (1, .int a1)]) X [0, 1] rfl ?_
  refine so_aload_n (i := 0) X 0 (dkX11_foes (0, .aload_n 0, 1) (pgm 0 rfl)) rfl rfl ?_
  refine so_iload_n (i := 1) X 1 (dkX11_foes (1, .iload_n 1, 1) (pgm 1 rfl)) rfl rfl ?_
  refine so_callX (n := 1) (As := [.int a1]) X hlk htab (ct_X11_checkOpen l hlt this a1 h0 hk) hk (by decide) rfl lk_1216 lk_1218 lk_36 lk_121 lk_1219 (by decide +kernel) rfl rfl rfl (rm_okxx (by omega) (by decide)) ⟨Nat.le_of_ble_eq_true rfl, Nat.le_of_ble_eq_true rfl⟩ ⟨Nat.le_of_ble_eq_true rfl, Nat.le_of_ble_eq_true rfl⟩ (Nat.le_of_ble_eq_true rfl) (dkX11_foes (2, .invokevirtual 240, 3) (pgm 2 rfl)) (fun r1 h2 => ?_) rfl
  refine so_aload_n (i := 0) X 0 (dkX11_foes (5, .aload_n 0, 1) (pgm 3 rfl)) rfl rfl ?_
  refine sf_getR X ff_11_7 lk_572 hk (dkX11_foes (6, .getfield 57, 3) (pgm 4 rfl)) ?_
  refine so_callV (n := 0) (As := []) X (ct_X2_settled l (rt this 7) h2 (fo (rk_11_7 this hk))) (fo (rk_11_7 this hk)) (by decide) rfl lk_666 lk_667 lk_668 lk_128 lk_669 (by decide +kernel) rfl rfl rfl (rm_okx (by omega) (by decide)) ⟨Nat.le_of_ble_eq_true rfl, Nat.le_of_ble_eq_true rfl⟩ (Nat.le_of_ble_eq_true rfl) (dkX11_foes (9, .invokevirtual 194, 3) (pgm 5 rfl)) (fun r3 h4 => ?_) rfl
  refine so_iload_n (i := 1) X 1 (dkX11_foes (12, .iload_n 1, 1) (pgm 6 rfl)) rfl rfl ?_
  refine so_callV (n := 1) (As := [.int a1]) X (ct_X2_foesOf l (rt this 7) a1 h4 (fo (rk_11_7 this hk))) (fo (rk_11_7 this hk)) (by decide) rfl lk_1221 lk_1222 lk_1223 lk_128 lk_1224 (by decide +kernel) rfl rfl rfl (rm_okx (by omega) (by decide)) ⟨Nat.le_of_ble_eq_true rfl, Nat.le_of_ble_eq_true rfl⟩ (Nat.le_of_ble_eq_true rfl) (dkX11_foes (13, .invokevirtual 243, 3) (pgm 7 rfl)) (fun r5 h6 => ?_) rfl
  exact so_iretX X hr hlk (Nat.le_of_ble_eq_true rfl) (Nat.le_of_ble_eq_true rfl) (dkX11_foes (16, .ireturn, 1) (pgm 8 rfl))
def pgX11_most : List (Nat × Instr × Nat) := [(0, .aload_n 0, 1), (1, .iload_n 1, 1), (2, .iconst 2, 1), (3, .invokevirtual 246, 3), (6, .aload_n 0, 1), (7, .getfield 57, 3), (10, .invokevirtual 194, 3), (13, .invokevirtual 250, 3), (16, .istore_n 2, 1), (17, .iload_n 2, 1), (18, .iconst (-1), 1), (19, .if_icmp .eq 8, 3), (22, .iload_n 1, 1), (23, .iconst 2, 1), (24, .if_icmp .ne 5, 3), (27, .iload_n 2, 1), (28, .ireturn, 1), (29, .aload_n 0, 1), (30, .getfield 48, 3), (33, .iload_n 2, 1), (34, .aload_n 0, 1), (35, .getfield 39, 3), (38, .getfield 165, 3), (41, .invokevirtual 190, 3), (44, .istore_n 3, 1), (45, .iload_n 1, 1), (46, .iconst 1, 1), (47, .if_icmp .ne 7, 3), (50, .iload_n 3, 1), (51, .goto 11, 3), (54, .aload_n 0, 1), (55, .getfield 20, 3), (58, .iload_n 3, 1), (59, .invokevirtual 254, 3), (62, .ireturn, 1)]
theorem dkX11_most : ∀ q ∈ pgX11_most, decode cX11_most q.1 = .ok q.2 := by decide +kernel
def f_X11_most (this : Nat) (a1 : Int32) (h0 : PH) : Option ((Int32 ⊕ Nat) × PH) :=
  cbx (f_X11_checkWhat this a1 (2 : Int32) h0) (fun (r1 : Unit) (h2 : PH) => cb (f_X2_settled (rt this 7) h2) (fun (r3 : Unit) (h4 : PH) => cb (f_X2_mostPlan (rt this 7) h4) (fun (r5 : Int32) (h6 : PH) => lt r5 (fun (x7 : Int32) => lt (fun (h8 : PH) => some (.inl x7, h8)) (fun (j27 : PH → Option ((Int32 ⊕ Nat) × PH)) => if x7 = (-1 : Int32) then (j27 h6) else (if a1 = (2 : Int32) then (j27 h6) else (cb (f_X3_grantedBy (rt this 6) x7 (h6.1 (rt this 5) 0) h6) (fun (r9 : Int32) (h10 : PH) => lt r9 (fun (x11 : Int32) => lt (fun (t12 : Int32) (h13 : PH) => some (.inl t12, h13)) (fun (j62 : Int32 → PH → Option ((Int32 ⊕ Nat) × PH)) => if a1 = (1 : Int32) then (j62 x11 h10) else (cb (f_X8_weightOf (rt this 2) x11 h10) (fun (r14 : Int32) (h15 : PH) => j62 r14 h15))))))))))))
set_option maxRecDepth 100000 in
set_option maxHeartbeats 4000000 in
theorem ct_X11_most (l : Launch) (hlt : l.stackTraces = false) (this : Nat) (a1 : Int32) (h0 : PH) (hk : (kd this).1 = 11) : CTx mkI l yX11_most cX11_most 4 (some .int) (rmx 7 1 6) 1 6 [.ref this, .int a1] h0 (f_X11_most this a1 h0) := by
  refine ctx_of (by decide) (Nat.le_of_ble_eq_true rfl) ?_
  intro p e s m args below meth c D cA ad A X hr hlk htab
  have X : Cx p s m args c RX11 cX11_most 4 D cA ad A := X
  unfold f_X11_most
  refine so_pick (L' := [(0, .ref this), (1, .int a1)]) X [0, 1] rfl ?_
  refine so_aload_n (i := 0) X 0 (dkX11_most (0, .aload_n 0, 1) (pgm 0 rfl)) rfl rfl ?_
  refine so_iload_n (i := 1) X 1 (dkX11_most (1, .iload_n 1, 1) (pgm 1 rfl)) rfl rfl ?_
  refine so_iconst (v := (2 : Int32)) X (dkX11_most (2, .iconst 2, 1) (pgm 2 rfl)) ic_2 ?_
  refine so_callX (n := 2) (As := [.int a1, .int (2 : Int32)]) X hlk htab (ct_X11_checkWhat l hlt this a1 (2 : Int32) h0 hk) hk (by decide) rfl lk_1232 lk_1234 lk_37 lk_121 lk_1235 (by decide +kernel) rfl rfl rfl (rm_okxx (by omega) (by decide)) ⟨Nat.le_of_ble_eq_true rfl, Nat.le_of_ble_eq_true rfl⟩ ⟨Nat.le_of_ble_eq_true rfl, Nat.le_of_ble_eq_true rfl⟩ (Nat.le_of_ble_eq_true rfl) (dkX11_most (3, .invokevirtual 246, 3) (pgm 3 rfl)) (fun r1 h2 => ?_) rfl
  refine so_aload_n (i := 0) X 0 (dkX11_most (6, .aload_n 0, 1) (pgm 4 rfl)) rfl rfl ?_
  refine sf_getR X ff_11_7 lk_572 hk (dkX11_most (7, .getfield 57, 3) (pgm 5 rfl)) ?_
  refine so_callV (n := 0) (As := []) X (ct_X2_settled l (rt this 7) h2 (fo (rk_11_7 this hk))) (fo (rk_11_7 this hk)) (by decide) rfl lk_666 lk_667 lk_668 lk_128 lk_669 (by decide +kernel) rfl rfl rfl (rm_okx (by omega) (by decide)) ⟨Nat.le_of_ble_eq_true rfl, Nat.le_of_ble_eq_true rfl⟩ (Nat.le_of_ble_eq_true rfl) (dkX11_most (10, .invokevirtual 194, 3) (pgm 6 rfl)) (fun r3 h4 => ?_) rfl
  refine so_callV (n := 0) (As := []) X (ct_X2_mostPlan l (rt this 7) h4 (fo (rk_11_7 this hk))) (fo (rk_11_7 this hk)) (by decide) rfl lk_1236 lk_1237 lk_1238 lk_128 lk_1239 (by decide +kernel) rfl rfl rfl (rm_okx (by omega) (by decide)) ⟨Nat.le_of_ble_eq_true rfl, Nat.le_of_ble_eq_true rfl⟩ (Nat.le_of_ble_eq_true rfl) (dkX11_most (13, .invokevirtual 250, 3) (pgm 7 rfl)) (fun r5 h6 => ?_) rfl
  refine so_istore_n (i := 2) X (dkX11_most (16, .istore_n 2, 1) (pgm 8 rfl)) rfl (by decide) (Lf := fun x7 => [(2, .int x7), (0, .ref this), (1, .int a1)]) (fun _ => rfl) (fun x7 => ?_)
  refine so_iload_n (i := 2) X 0 (dkX11_most (17, .iload_n 2, 1) (pgm 9 rfl)) rfl rfl ?_
  refine so_iconst (v := (-1 : Int32)) X (dkX11_most (18, .iconst (-1), 1) (pgm 10 rfl)) ic_m1 ?_
  refine so_join (jf := fun (h8 : PH) => some (.inl x7, h8)) (fun (j : PH → Option ((Int32 ⊕ Nat) × PH)) => ∀  (h8 : PH), SWo (QX mkI below args s D cA ad A 1 6) p l e (rmx 7 1 6) s m args below meth c 1 6 4 D cA ad A 27 [(2, .int x7)] [] h8 (j h8)) ?_ (fun j27 hj27 => ?_)
  · intro h8
    refine so_iload_n (i := 2) X 0 (dkX11_most (27, .iload_n 2, 1) (pgm 15 rfl)) rfl rfl ?_
    exact so_iretX X hr hlk (Nat.le_of_ble_eq_true rfl) (Nat.le_of_ble_eq_true rfl) (dkX11_most (28, .ireturn, 1) (pgm 16 rfl))
  refine so_icmp_eq (tgt := 27) X (dkX11_most (19, .if_icmp .eq 8, 3) (pgm 11 rfl)) rfl (fun _ => ?_) (fun _ => ?_)
  · exact so_pick X [0] rfl (hj27 h6)
  · refine so_iload_n (i := 1) X 2 (dkX11_most (22, .iload_n 1, 1) (pgm 12 rfl)) rfl rfl ?_
    refine so_iconst (v := (2 : Int32)) X (dkX11_most (23, .iconst 2, 1) (pgm 13 rfl)) ic_2 ?_
    refine so_icmp_ne (tgt := 29) X (dkX11_most (24, .if_icmp .ne 5, 3) (pgm 14 rfl)) rfl (fun _ => ?_) (fun _ => ?_)
    · refine so_aload_n (i := 0) X 1 (dkX11_most (29, .aload_n 0, 1) (pgm 17 rfl)) rfl rfl ?_
      refine sf_getR X ff_11_6 lk_571 hk (dkX11_most (30, .getfield 48, 3) (pgm 18 rfl)) ?_
      refine so_iload_n (i := 2) X 0 (dkX11_most (33, .iload_n 2, 1) (pgm 19 rfl)) rfl rfl ?_
      refine so_aload_n (i := 0) X 1 (dkX11_most (34, .aload_n 0, 1) (pgm 20 rfl)) rfl rfl ?_
      refine sf_getR X ff_11_5 lk_570 hk (dkX11_most (35, .getfield 39, 3) (pgm 21 rfl)) ?_
      refine sf_getI X ff_0_0 lk_338 (fo (rk_11_5 this hk)) (dkX11_most (38, .getfield 165, 3) (pgm 22 rfl)) ?_
      refine so_callV (n := 2) (As := [.int x7, .int (h6.1 (rt this 5) 0)]) X (ct_X3_grantedBy l (rt this 6) x7 (h6.1 (rt this 5) 0) h6 (fo (rk_11_6 this hk))) (fo (rk_11_6 this hk)) (by decide) rfl lk_752 lk_677 lk_678 lk_126 lk_679 (by decide +kernel) rfl rfl rfl (rm_okx (by omega) (by decide)) ⟨Nat.le_of_ble_eq_true rfl, Nat.le_of_ble_eq_true rfl⟩ (Nat.le_of_ble_eq_true rfl) (dkX11_most (41, .invokevirtual 190, 3) (pgm 23 rfl)) (fun r9 h10 => ?_) rfl
      refine so_istore_n (i := 3) X (dkX11_most (44, .istore_n 3, 1) (pgm 24 rfl)) rfl (by decide) (Lf := fun x11 => [(3, .int x11), (2, .int x7), (0, .ref this), (1, .int a1)]) (fun _ => rfl) (fun x11 => ?_)
      refine so_iload_n (i := 1) X 3 (dkX11_most (45, .iload_n 1, 1) (pgm 25 rfl)) rfl rfl ?_
      refine so_iconst (v := (1 : Int32)) X (dkX11_most (46, .iconst 1, 1) (pgm 26 rfl)) ic_1 ?_
      refine so_join (jf := fun (t12 : Int32) (h13 : PH) => some (.inl t12, h13)) (fun (j : Int32 → PH → Option ((Int32 ⊕ Nat) × PH)) => ∀ (t12 : Int32) (h13 : PH), SWo (QX mkI below args s D cA ad A 1 6) p l e (rmx 7 1 6) s m args below meth c 1 6 4 D cA ad A 62 [] [.int t12] h13 (j t12 h13)) ?_ (fun j62 hj62 => ?_)
      · intro t12 h13
        exact so_iretX X hr hlk (Nat.le_of_ble_eq_true rfl) (Nat.le_of_ble_eq_true rfl) (dkX11_most (62, .ireturn, 1) (pgm 34 rfl))
      refine so_icmp_ne (tgt := 54) X (dkX11_most (47, .if_icmp .ne 7, 3) (pgm 27 rfl)) rfl (fun _ => ?_) (fun _ => ?_)
      · refine so_aload_n (i := 0) X 2 (dkX11_most (54, .aload_n 0, 1) (pgm 30 rfl)) rfl rfl ?_
        refine sf_getR X ff_11_2 lk_567 hk (dkX11_most (55, .getfield 20, 3) (pgm 31 rfl)) ?_
        refine so_iload_n (i := 3) X 0 (dkX11_most (58, .iload_n 3, 1) (pgm 32 rfl)) rfl rfl ?_
        refine so_callV (n := 1) (As := [.int x11]) X (ct_X8_weightOf l (rt this 2) x11 h10 (fo (rk_11_2 this hk))) (fo (rk_11_2 this hk)) (by decide) rfl lk_740 lk_741 lk_742 lk_122 lk_743 (by decide +kernel) rfl rfl rfl (rm_okx (by omega) (by decide)) ⟨Nat.le_of_ble_eq_true rfl, Nat.le_of_ble_eq_true rfl⟩ (Nat.le_of_ble_eq_true rfl) (dkX11_most (59, .invokevirtual 254, 3) (pgm 33 rfl)) (fun r14 h15 => ?_) rfl
        exact so_pick X [] rfl (hj62 r14 h15)
      · refine so_iload_n (i := 3) X 0 (dkX11_most (50, .iload_n 3, 1) (pgm 28 rfl)) rfl rfl ?_
        refine so_goto (tgt := 62) X (dkX11_most (51, .goto 11, 3) (pgm 29 rfl)) rfl ?_
        exact so_pick X [] rfl (hj62 x11 h10)
    · exact so_pick X [0] rfl (hj27 h6)
def pgX11_hearts : List (Nat × Instr × Nat) := [(0, .aload_n 0, 1), (1, .iload_n 1, 1), (2, .invokevirtual 240, 3), (5, .aload_n 0, 1), (6, .iload_n 2, 1), (7, .iconst 1, 1), (8, .invokevirtual 246, 3), (11, .aload_n 0, 1), (12, .getfield 57, 3), (15, .invokevirtual 194, 3), (18, .iload_n 1, 1), (19, .invokevirtual 260, 3), (22, .istore_n 3, 1), (23, .iload_n 3, 1), (24, .iconst (-1), 1), (25, .if_icmp .eq 8, 3), (28, .iload_n 2, 1), (29, .iconst 1, 1), (30, .if_icmp .ne 7, 3), (33, .iload_n 3, 1), (34, .goto 7, 3), (37, .iload_n 3, 1), (38, .invokestatic 263, 3), (41, .ireturn, 1)]
theorem dkX11_hearts : ∀ q ∈ pgX11_hearts, decode cX11_hearts q.1 = .ok q.2 := by decide +kernel
def f_X11_hearts (this : Nat) (a1 : Int32) (a2 : Int32) (h0 : PH) : Option ((Int32 ⊕ Nat) × PH) :=
  cbx (f_X11_checkOpen this a1 h0) (fun (r1 : Unit) (h2 : PH) => cbx (f_X11_checkWhat this a2 (1 : Int32) h2) (fun (r3 : Unit) (h4 : PH) => cb (f_X2_settled (rt this 7) h4) (fun (r5 : Unit) (h6 : PH) => cb (f_X2_givenUpFor (rt this 7) a1 h6) (fun (r7 : Int32) (h8 : PH) => lt r7 (fun (x9 : Int32) => lt (fun (t10 : Int32) (h11 : PH) => some (.inl t10, h11)) (fun (j41 : Int32 → PH → Option ((Int32 ⊕ Nat) × PH)) => lt (fun (h12 : PH) => j41 x9 h12) (fun (j33 : PH → Option ((Int32 ⊕ Nat) × PH)) => if x9 = (-1 : Int32) then (j33 h8) else (if a2 = (1 : Int32) then (j33 h8) else (cb (f_J6_bitCount_0f7a4 x9 h8) (fun (r13 : Int32) (h14 : PH) => j41 r13 h14))))))))))
set_option maxRecDepth 100000 in
set_option maxHeartbeats 4000000 in
theorem ct_X11_hearts (l : Launch) (hlt : l.stackTraces = false) (this : Nat) (a1 : Int32) (a2 : Int32) (h0 : PH) (hk : (kd this).1 = 11) : CTx mkI l yX11_hearts cX11_hearts 4 (some .int) (rmx 8 3 18) 3 18 [.ref this, .int a1, .int a2] h0 (f_X11_hearts this a1 a2 h0) := by
  refine ctx_of (by decide) (Nat.le_of_ble_eq_true rfl) ?_
  intro p e s m args below meth c D cA ad A X hr hlk htab
  have X : Cx p s m args c RX11 cX11_hearts 4 D cA ad A := X
  unfold f_X11_hearts
  refine so_pick (L' := [(0, .ref this), (1, .int a1), (2, .int a2)]) X [0, 1, 2] rfl ?_
  refine so_aload_n (i := 0) X 0 (dkX11_hearts (0, .aload_n 0, 1) (pgm 0 rfl)) rfl rfl ?_
  refine so_iload_n (i := 1) X 1 (dkX11_hearts (1, .iload_n 1, 1) (pgm 1 rfl)) rfl rfl ?_
  refine so_callX (n := 1) (As := [.int a1]) X hlk htab (ct_X11_checkOpen l hlt this a1 h0 hk) hk (by decide) rfl lk_1216 lk_1218 lk_36 lk_121 lk_1219 (by decide +kernel) rfl rfl rfl (rm_okxx (by omega) (by decide)) ⟨Nat.le_of_ble_eq_true rfl, Nat.le_of_ble_eq_true rfl⟩ ⟨Nat.le_of_ble_eq_true rfl, Nat.le_of_ble_eq_true rfl⟩ (Nat.le_of_ble_eq_true rfl) (dkX11_hearts (2, .invokevirtual 240, 3) (pgm 2 rfl)) (fun r1 h2 => ?_) rfl
  refine so_aload_n (i := 0) X 0 (dkX11_hearts (5, .aload_n 0, 1) (pgm 3 rfl)) rfl rfl ?_
  refine so_iload_n (i := 2) X 2 (dkX11_hearts (6, .iload_n 2, 1) (pgm 4 rfl)) rfl rfl ?_
  refine so_iconst (v := (1 : Int32)) X (dkX11_hearts (7, .iconst 1, 1) (pgm 5 rfl)) ic_1 ?_
  refine so_callX (n := 2) (As := [.int a2, .int (1 : Int32)]) X hlk htab (ct_X11_checkWhat l hlt this a2 (1 : Int32) h2 hk) hk (by decide) rfl lk_1232 lk_1234 lk_37 lk_121 lk_1235 (by decide +kernel) rfl rfl rfl (rm_okxx (by omega) (by decide)) ⟨Nat.le_of_ble_eq_true rfl, Nat.le_of_ble_eq_true rfl⟩ ⟨Nat.le_of_ble_eq_true rfl, Nat.le_of_ble_eq_true rfl⟩ (Nat.le_of_ble_eq_true rfl) (dkX11_hearts (8, .invokevirtual 246, 3) (pgm 6 rfl)) (fun r3 h4 => ?_) rfl
  refine so_aload_n (i := 0) X 0 (dkX11_hearts (11, .aload_n 0, 1) (pgm 7 rfl)) rfl rfl ?_
  refine sf_getR X ff_11_7 lk_572 hk (dkX11_hearts (12, .getfield 57, 3) (pgm 8 rfl)) ?_
  refine so_callV (n := 0) (As := []) X (ct_X2_settled l (rt this 7) h4 (fo (rk_11_7 this hk))) (fo (rk_11_7 this hk)) (by decide) rfl lk_666 lk_667 lk_668 lk_128 lk_669 (by decide +kernel) rfl rfl rfl (rm_okx (by omega) (by decide)) ⟨Nat.le_of_ble_eq_true rfl, Nat.le_of_ble_eq_true rfl⟩ (Nat.le_of_ble_eq_true rfl) (dkX11_hearts (15, .invokevirtual 194, 3) (pgm 9 rfl)) (fun r5 h6 => ?_) rfl
  refine so_iload_n (i := 1) X 1 (dkX11_hearts (18, .iload_n 1, 1) (pgm 10 rfl)) rfl rfl ?_
  refine so_callV (n := 1) (As := [.int a1]) X (ct_X2_givenUpFor l (rt this 7) a1 h6 (fo (rk_11_7 this hk))) (fo (rk_11_7 this hk)) (by decide) rfl lk_1248 lk_1249 lk_1250 lk_128 lk_1251 (by decide +kernel) rfl rfl rfl (rm_okx (by omega) (by decide)) ⟨Nat.le_of_ble_eq_true rfl, Nat.le_of_ble_eq_true rfl⟩ (Nat.le_of_ble_eq_true rfl) (dkX11_hearts (19, .invokevirtual 260, 3) (pgm 11 rfl)) (fun r7 h8 => ?_) rfl
  refine so_istore_n (i := 3) X (dkX11_hearts (22, .istore_n 3, 1) (pgm 12 rfl)) rfl (by decide) (Lf := fun x9 => [(3, .int x9), (0, .ref this), (1, .int a1), (2, .int a2)]) (fun _ => rfl) (fun x9 => ?_)
  refine so_iload_n (i := 3) X 0 (dkX11_hearts (23, .iload_n 3, 1) (pgm 13 rfl)) rfl rfl ?_
  refine so_iconst (v := (-1 : Int32)) X (dkX11_hearts (24, .iconst (-1), 1) (pgm 14 rfl)) ic_m1 ?_
  refine so_join (jf := fun (t10 : Int32) (h11 : PH) => some (.inl t10, h11)) (fun (j : Int32 → PH → Option ((Int32 ⊕ Nat) × PH)) => ∀ (t10 : Int32) (h11 : PH), SWo (QX mkI below args s D cA ad A 3 18) p l e (rmx 8 3 18) s m args below meth c 3 18 4 D cA ad A 41 [] [.int t10] h11 (j t10 h11)) ?_ (fun j41 hj41 => ?_)
  · intro t10 h11
    exact so_iretX X hr hlk (Nat.le_of_ble_eq_true rfl) (Nat.le_of_ble_eq_true rfl) (dkX11_hearts (41, .ireturn, 1) (pgm 23 rfl))
  refine so_join (jf := fun (h12 : PH) => j41 x9 h12) (fun (j : PH → Option ((Int32 ⊕ Nat) × PH)) => ∀  (h12 : PH), SWo (QX mkI below args s D cA ad A 3 18) p l e (rmx 8 3 18) s m args below meth c 3 18 4 D cA ad A 33 [(3, .int x9)] [] h12 (j h12)) ?_ (fun j33 hj33 => ?_)
  · intro h12
    refine so_iload_n (i := 3) X 0 (dkX11_hearts (33, .iload_n 3, 1) (pgm 19 rfl)) rfl rfl ?_
    refine so_goto (tgt := 41) X (dkX11_hearts (34, .goto 7, 3) (pgm 20 rfl)) rfl ?_
    exact so_pick X [] rfl (hj41 x9 h12)
  refine so_icmp_eq (tgt := 33) X (dkX11_hearts (25, .if_icmp .eq 8, 3) (pgm 15 rfl)) rfl (fun _ => ?_) (fun _ => ?_)
  · exact so_pick X [0] rfl (hj33 h8)
  · refine so_iload_n (i := 2) X 3 (dkX11_hearts (28, .iload_n 2, 1) (pgm 16 rfl)) rfl rfl ?_
    refine so_iconst (v := (1 : Int32)) X (dkX11_hearts (29, .iconst 1, 1) (pgm 17 rfl)) ic_1 ?_
    refine so_icmp_ne (tgt := 37) X (dkX11_hearts (30, .if_icmp .ne 7, 3) (pgm 18 rfl)) rfl (fun _ => ?_) (fun _ => ?_)
    · refine so_iload_n (i := 3) X 0 (dkX11_hearts (37, .iload_n 3, 1) (pgm 21 rfl)) rfl rfl ?_
      refine so_callS (n := 1) (As := [.int x9]) X (ct_J6_bitCount_0f7a4 l x9 h8 ) lk_766 lk_635 lk_147 lk_636 (by decide +kernel) rfl rfl rfl (rm_okx (by omega) (by decide)) ⟨Nat.le_of_ble_eq_true rfl, Nat.le_of_ble_eq_true rfl⟩ (Nat.le_of_ble_eq_true rfl) (dkX11_hearts (38, .invokestatic 263, 3) (pgm 22 rfl)) (fun r13 h14 => ?_) rfl
      exact so_pick X [] rfl (hj41 r13 h14)
    · exact so_pick X [0] rfl (hj33 h8)
def pgX11_follows : List (Nat × Instr × Nat) := [(0, .aload_n 0, 1), (1, .iload_n 1, 1), (2, .invokevirtual 240, 3), (5, .aload_n 0, 1), (6, .getfield 57, 3), (9, .invokevirtual 194, 3), (12, .iload_n 1, 1), (13, .invokevirtual 268, 3), (16, .ireturn, 1)]
theorem dkX11_follows : ∀ q ∈ pgX11_follows, decode cX11_follows q.1 = .ok q.2 := by decide +kernel
def f_X11_follows (this : Nat) (a1 : Int32) (h0 : PH) : Option ((Int32 ⊕ Nat) × PH) :=
  cbx (f_X11_checkOpen this a1 h0) (fun (r1 : Unit) (h2 : PH) => cb (f_X2_settled (rt this 7) h2) (fun (r3 : Unit) (h4 : PH) => cb (f_X2_followersOf (rt this 7) a1 h4) (fun (r5 : Int32) (h6 : PH) => some (.inl r5, h6))))
set_option maxRecDepth 100000 in
set_option maxHeartbeats 4000000 in
theorem ct_X11_follows (l : Launch) (hlt : l.stackTraces = false) (this : Nat) (a1 : Int32) (h0 : PH) (hk : (kd this).1 = 11) : CTx mkI l yX11_follows cX11_follows 2 (some .int) (rmx 8 2 12) 2 12 [.ref this, .int a1] h0 (f_X11_follows this a1 h0) := by
  refine ctx_of (by decide) (Nat.le_of_ble_eq_true rfl) ?_
  intro p e s m args below meth c D cA ad A X hr hlk htab
  have X : Cx p s m args c RX11 cX11_follows 2 D cA ad A := X
  unfold f_X11_follows
  refine so_pick (L' := [(0, .ref this), (1, .int a1)]) X [0, 1] rfl ?_
  refine so_aload_n (i := 0) X 0 (dkX11_follows (0, .aload_n 0, 1) (pgm 0 rfl)) rfl rfl ?_
  refine so_iload_n (i := 1) X 1 (dkX11_follows (1, .iload_n 1, 1) (pgm 1 rfl)) rfl rfl ?_
  refine so_callX (n := 1) (As := [.int a1]) X hlk htab (ct_X11_checkOpen l hlt this a1 h0 hk) hk (by decide) rfl lk_1216 lk_1218 lk_36 lk_121 lk_1219 (by decide +kernel) rfl rfl rfl (rm_okxx (by omega) (by decide)) ⟨Nat.le_of_ble_eq_true rfl, Nat.le_of_ble_eq_true rfl⟩ ⟨Nat.le_of_ble_eq_true rfl, Nat.le_of_ble_eq_true rfl⟩ (Nat.le_of_ble_eq_true rfl) (dkX11_follows (2, .invokevirtual 240, 3) (pgm 2 rfl)) (fun r1 h2 => ?_) rfl
  refine so_aload_n (i := 0) X 0 (dkX11_follows (5, .aload_n 0, 1) (pgm 3 rfl)) rfl rfl ?_
  refine sf_getR X ff_11_7 lk_572 hk (dkX11_follows (6, .getfield 57, 3) (pgm 4 rfl)) ?_
  refine so_callV (n := 0) (As := []) X (ct_X2_settled l (rt this 7) h2 (fo (rk_11_7 this hk))) (fo (rk_11_7 this hk)) (by decide) rfl lk_666 lk_667 lk_668 lk_128 lk_669 (by decide +kernel) rfl rfl rfl (rm_okx (by omega) (by decide)) ⟨Nat.le_of_ble_eq_true rfl, Nat.le_of_ble_eq_true rfl⟩ (Nat.le_of_ble_eq_true rfl) (dkX11_follows (9, .invokevirtual 194, 3) (pgm 5 rfl)) (fun r3 h4 => ?_) rfl
  refine so_iload_n (i := 1) X 1 (dkX11_follows (12, .iload_n 1, 1) (pgm 6 rfl)) rfl rfl ?_
  refine so_callV (n := 1) (As := [.int a1]) X (ct_X2_followersOf l (rt this 7) a1 h4 (fo (rk_11_7 this hk))) (fo (rk_11_7 this hk)) (by decide) rfl lk_1259 lk_1260 lk_1261 lk_128 lk_1262 (by decide +kernel) rfl rfl rfl (rm_okx (by omega) (by decide)) ⟨Nat.le_of_ble_eq_true rfl, Nat.le_of_ble_eq_true rfl⟩ (Nat.le_of_ble_eq_true rfl) (dkX11_follows (13, .invokevirtual 268, 3) (pgm 7 rfl)) (fun r5 h6 => ?_) rfl
  exact so_iretX X hr hlk (Nat.le_of_ble_eq_true rfl) (Nat.le_of_ble_eq_true rfl) (dkX11_follows (16, .ireturn, 1) (pgm 8 rfl))
def pgX11_sure : List (Nat × Instr × Nat) := [(0, .aload_n 0, 1), (1, .iload_n 1, 1), (2, .invokevirtual 231, 3), (5, .aload_n 0, 1), (6, .getfield 57, 3), (9, .invokevirtual 194, 3), (12, .iload_n 1, 1), (13, .iload_n 2, 1), (14, .invokevirtual 271, 3), (17, .ireturn, 1)]
theorem dkX11_sure : ∀ q ∈ pgX11_sure, decode cX11_sure q.1 = .ok q.2 := by decide +kernel
def f_X11_sure (this : Nat) (a1 : Int32) (a2 : Int32) (h0 : PH) : Option ((Int32 ⊕ Nat) × PH) :=
  cbx (f_X11_checkSet this a1 h0) (fun (r1 : Unit) (h2 : PH) => cb (f_X2_settled (rt this 7) h2) (fun (r3 : Unit) (h4 : PH) => cb (f_X2_sureCells (rt this 7) a1 a2 h4) (fun (r5 : Int32) (h6 : PH) => some (.inl r5, h6))))
set_option maxRecDepth 100000 in
set_option maxHeartbeats 4000000 in
theorem ct_X11_sure (l : Launch) (hlt : l.stackTraces = false) (this : Nat) (a1 : Int32) (a2 : Int32) (h0 : PH) (hk : (kd this).1 = 11) : CTx mkI l yX11_sure cX11_sure 3 (some .int) (rmx 7 1 6) 1 6 [.ref this, .int a1, .int a2] h0 (f_X11_sure this a1 a2 h0) := by
  refine ctx_of (by decide) (Nat.le_of_ble_eq_true rfl) ?_
  intro p e s m args below meth c D cA ad A X hr hlk htab
  have X : Cx p s m args c RX11 cX11_sure 3 D cA ad A := X
  unfold f_X11_sure
  refine so_pick (L' := [(0, .ref this), (1, .int a1), (2, .int a2)]) X [0, 1, 2] rfl ?_
  refine so_aload_n (i := 0) X 0 (dkX11_sure (0, .aload_n 0, 1) (pgm 0 rfl)) rfl rfl ?_
  refine so_iload_n (i := 1) X 1 (dkX11_sure (1, .iload_n 1, 1) (pgm 1 rfl)) rfl rfl ?_
  refine so_callX (n := 1) (As := [.int a1]) X hlk htab (ct_X11_checkSet l hlt this a1 h0 hk) hk (by decide) rfl lk_1192 lk_1194 lk_35 lk_121 lk_1195 (by decide +kernel) rfl rfl rfl (rm_okxx (by omega) (by decide)) ⟨Nat.le_of_ble_eq_true rfl, Nat.le_of_ble_eq_true rfl⟩ ⟨Nat.le_of_ble_eq_true rfl, Nat.le_of_ble_eq_true rfl⟩ (Nat.le_of_ble_eq_true rfl) (dkX11_sure (2, .invokevirtual 231, 3) (pgm 2 rfl)) (fun r1 h2 => ?_) rfl
  refine so_aload_n (i := 0) X 0 (dkX11_sure (5, .aload_n 0, 1) (pgm 3 rfl)) rfl rfl ?_
  refine sf_getR X ff_11_7 lk_572 hk (dkX11_sure (6, .getfield 57, 3) (pgm 4 rfl)) ?_
  refine so_callV (n := 0) (As := []) X (ct_X2_settled l (rt this 7) h2 (fo (rk_11_7 this hk))) (fo (rk_11_7 this hk)) (by decide) rfl lk_666 lk_667 lk_668 lk_128 lk_669 (by decide +kernel) rfl rfl rfl (rm_okx (by omega) (by decide)) ⟨Nat.le_of_ble_eq_true rfl, Nat.le_of_ble_eq_true rfl⟩ (Nat.le_of_ble_eq_true rfl) (dkX11_sure (9, .invokevirtual 194, 3) (pgm 5 rfl)) (fun r3 h4 => ?_) rfl
  refine so_iload_n (i := 1) X 1 (dkX11_sure (12, .iload_n 1, 1) (pgm 6 rfl)) rfl rfl ?_
  refine so_iload_n (i := 2) X 2 (dkX11_sure (13, .iload_n 2, 1) (pgm 7 rfl)) rfl rfl ?_
  refine so_callV (n := 2) (As := [.int a1, .int a2]) X (ct_X2_sureCells l (rt this 7) a1 a2 h4 (fo (rk_11_7 this hk))) (fo (rk_11_7 this hk)) (by decide) rfl lk_1270 lk_1271 lk_1272 lk_128 lk_1273 (by decide +kernel) rfl rfl rfl (rm_okx (by omega) (by decide)) ⟨Nat.le_of_ble_eq_true rfl, Nat.le_of_ble_eq_true rfl⟩ (Nat.le_of_ble_eq_true rfl) (dkX11_sure (14, .invokevirtual 271, 3) (pgm 8 rfl)) (fun r5 h6 => ?_) rfl
  exact so_iretX X hr hlk (Nat.le_of_ble_eq_true rfl) (Nat.le_of_ble_eq_true rfl) (dkX11_sure (17, .ireturn, 1) (pgm 9 rfl))
def pgX11_expected : List (Nat × Instr × Nat) := [(0, .aload_n 0, 1), (1, .iload_n 1, 1), (2, .invokevirtual 177, 3), (5, .iload_n 1, 1), (6, .invokestatic 263, 3), (9, .iconst 4, 1), (10, .if_icmp .le 14, 3), (13, .new 116, 3), (16, .dup, 1), (17, .ldc_w 275, 3), (20, .invokespecial 120, 3), (23, .athrow, 1), (24, .aload_n 0, 1), (25, .iload_n 2, 1), (26, .invokevirtual 277, 3), (29, .aload_n 0, 1), (30, .getfield 57, 3), (33, .iload_n 1, 1), (34, .iload_n 2, 1), (35, .invokevirtual 280, 3), (38, .lreturn, 1)]
theorem dkX11_expected : ∀ q ∈ pgX11_expected, decode cX11_expected q.1 = .ok q.2 := by decide +kernel
def f_X11_expected (this : Nat) (a1 : Int32) (a2 : Int32) (h0 : PH) : Option ((Int64 ⊕ Nat) × PH) :=
  cbx (f_X11_checkCells this a1 h0) (fun (r1 : Unit) (h2 : PH) => cb (f_J6_bitCount_0f7a4 a1 h2) (fun (r3 : Int32) (h4 : PH) => if r3 ≤ (4 : Int32) then (cbx (f_X11_checkHundredths this a2 h4) (fun (r5 : Unit) (h6 : PH) => cb (f_X2_weightExpected (rt this 7) a1 a2 h6) (fun (r7 : Int64) (h8 : PH) => some (.inl r7, h8)))) else (some (.inr 0, h4))))
set_option maxRecDepth 100000 in
set_option maxHeartbeats 4000000 in
theorem ct_X11_expected (l : Launch) (hlt : l.stackTraces = false) (this : Nat) (a1 : Int32) (a2 : Int32) (h0 : PH) (hk : (kd this).1 = 11) : CTx mkL l yX11_expected cX11_expected 3 (some .long) (rmx 7 2 12) 2 12 [.ref this, .int a1, .int a2] h0 (f_X11_expected this a1 a2 h0) := by
  refine ctx_of (by decide) (Nat.le_of_ble_eq_true rfl) ?_
  intro p e s m args below meth c D cA ad A X hr hlk htab
  have X : Cx p s m args c RX11 cX11_expected 3 D cA ad A := X
  unfold f_X11_expected
  refine so_pick (L' := [(0, .ref this), (1, .int a1), (2, .int a2)]) X [0, 1, 2] rfl ?_
  refine so_aload_n (i := 0) X 0 (dkX11_expected (0, .aload_n 0, 1) (pgm 0 rfl)) rfl rfl ?_
  refine so_iload_n (i := 1) X 1 (dkX11_expected (1, .iload_n 1, 1) (pgm 1 rfl)) rfl rfl ?_
  refine so_callX (n := 1) (As := [.int a1]) X hlk htab (ct_X11_checkCells l hlt this a1 h0 hk) hk (by decide) rfl lk_1164 lk_1166 lk_34 lk_121 lk_1167 (by decide +kernel) rfl rfl rfl (rm_okxx (by omega) (by decide)) ⟨Nat.le_of_ble_eq_true rfl, Nat.le_of_ble_eq_true rfl⟩ ⟨Nat.le_of_ble_eq_true rfl, Nat.le_of_ble_eq_true rfl⟩ (Nat.le_of_ble_eq_true rfl) (dkX11_expected (2, .invokevirtual 177, 3) (pgm 2 rfl)) (fun r1 h2 => ?_) rfl
  refine so_iload_n (i := 1) X 1 (dkX11_expected (5, .iload_n 1, 1) (pgm 3 rfl)) rfl rfl ?_
  refine so_callS (n := 1) (As := [.int a1]) X (ct_J6_bitCount_0f7a4 l a1 h2 ) lk_766 lk_635 lk_147 lk_636 (by decide +kernel) rfl rfl rfl (rm_okx (by omega) (by decide)) ⟨Nat.le_of_ble_eq_true rfl, Nat.le_of_ble_eq_true rfl⟩ (Nat.le_of_ble_eq_true rfl) (dkX11_expected (6, .invokestatic 263, 3) (pgm 4 rfl)) (fun r3 h4 => ?_) rfl
  refine so_iconst (v := (4 : Int32)) X (dkX11_expected (9, .iconst 4, 1) (pgm 5 rfl)) ic_4 ?_
  refine so_icmp_le (tgt := 24) X (dkX11_expected (10, .if_icmp .le 14, 3) (pgm 6 rfl)) rfl (fun _ => ?_) (fun _ => ?_)
  · refine so_aload_n (i := 0) X 0 (dkX11_expected (24, .aload_n 0, 1) (pgm 12 rfl)) rfl rfl ?_
    refine so_iload_n (i := 2) X 2 (dkX11_expected (25, .iload_n 2, 1) (pgm 13 rfl)) rfl rfl ?_
    refine so_callX (n := 1) (As := [.int a2]) X hlk htab (ct_X11_checkHundredths l hlt this a2 h4 hk) hk (by decide) rfl lk_1284 lk_1286 lk_38 lk_121 lk_1287 (by decide +kernel) rfl rfl rfl (rm_okxx (by omega) (by decide)) ⟨Nat.le_of_ble_eq_true rfl, Nat.le_of_ble_eq_true rfl⟩ ⟨Nat.le_of_ble_eq_true rfl, Nat.le_of_ble_eq_true rfl⟩ (Nat.le_of_ble_eq_true rfl) (dkX11_expected (26, .invokevirtual 277, 3) (pgm 14 rfl)) (fun r5 h6 => ?_) rfl
    refine so_aload_n (i := 0) X 0 (dkX11_expected (29, .aload_n 0, 1) (pgm 15 rfl)) rfl rfl ?_
    refine sf_getR X ff_11_7 lk_572 hk (dkX11_expected (30, .getfield 57, 3) (pgm 16 rfl)) ?_
    refine so_iload_n (i := 1) X 1 (dkX11_expected (33, .iload_n 1, 1) (pgm 17 rfl)) rfl rfl ?_
    refine so_iload_n (i := 2) X 2 (dkX11_expected (34, .iload_n 2, 1) (pgm 18 rfl)) rfl rfl ?_
    refine so_callV (n := 2) (As := [.int a1, .int a2]) X (ct_X2_weightExpected l (rt this 7) a1 a2 h6 (fo (rk_11_7 this hk))) (fo (rk_11_7 this hk)) (by decide) rfl lk_1289 lk_1290 lk_1291 lk_128 lk_1292 (by decide +kernel) rfl rfl rfl (rm_okx (by omega) (by decide)) ⟨Nat.le_of_ble_eq_true rfl, Nat.le_of_ble_eq_true rfl⟩ (Nat.le_of_ble_eq_true rfl) (dkX11_expected (35, .invokevirtual 280, 3) (pgm 19 rfl)) (fun r7 h8 => ?_) rfl
    exact so_lretX X hr hlk (Nat.le_of_ble_eq_true rfl) (Nat.le_of_ble_eq_true rfl) (dkX11_expected (38, .lreturn, 1) (pgm 20 rfl))
  · exact so_throwSW (n := 33) (tx := "more than four cells") X hlt hlk htab 0 (pgm 33 rfl) lk_779 lk_139 (by decide) at_RX11_120_0 (by decide) (dkX11_expected (13, .new 116, 3) (pgm 7 rfl)) (dkX11_expected (16, .dup, 1) (pgm 8 rfl)) (dkX11_expected (17, .ldc_w 275, 3) (pgm 9 rfl)) (dkX11_expected (20, .invokespecial 120, 3) (pgm 10 rfl)) (dkX11_expected (23, .athrow, 1) (pgm 11 rfl)) (Nat.le_of_ble_eq_true rfl) (Nat.le_of_ble_eq_true rfl) (Nat.le_of_ble_eq_true rfl) (Nat.le_of_ble_eq_true rfl) (Nat.le_of_ble_eq_true rfl) (Nat.le_of_ble_eq_true rfl)
def pgX11_bestChance : List (Nat × Instr × Nat) := [(0, .aload_n 0, 1), (1, .iload_n 1, 1), (2, .invokevirtual 277, 3), (5, .aload_n 0, 1), (6, .getfield 57, 3), (9, .invokevirtual 194, 3), (12, .iload_n 1, 1), (13, .invokevirtual 284, 3), (16, .ireturn, 1)]
theorem dkX11_bestChance : ∀ q ∈ pgX11_bestChance, decode cX11_bestChance q.1 = .ok q.2 := by decide +kernel
def f_X11_bestChance (this : Nat) (a1 : Int32) (h0 : PH) : Option ((Int32 ⊕ Nat) × PH) :=
  cbx (f_X11_checkHundredths this a1 h0) (fun (r1 : Unit) (h2 : PH) => cb (f_X2_settled (rt this 7) h2) (fun (r3 : Unit) (h4 : PH) => cb (f_X2_bestByChance (rt this 7) a1 h4) (fun (r5 : Int32) (h6 : PH) => some (.inl r5, h6))))
set_option maxRecDepth 100000 in
set_option maxHeartbeats 4000000 in
theorem ct_X11_bestChance (l : Launch) (hlt : l.stackTraces = false) (this : Nat) (a1 : Int32) (h0 : PH) (hk : (kd this).1 = 11) : CTx mkI l yX11_bestChance cX11_bestChance 2 (some .int) (rmx 7 1 6) 1 6 [.ref this, .int a1] h0 (f_X11_bestChance this a1 h0) := by
  refine ctx_of (by decide) (Nat.le_of_ble_eq_true rfl) ?_
  intro p e s m args below meth c D cA ad A X hr hlk htab
  have X : Cx p s m args c RX11 cX11_bestChance 2 D cA ad A := X
  unfold f_X11_bestChance
  refine so_pick (L' := [(0, .ref this), (1, .int a1)]) X [0, 1] rfl ?_
  refine so_aload_n (i := 0) X 0 (dkX11_bestChance (0, .aload_n 0, 1) (pgm 0 rfl)) rfl rfl ?_
  refine so_iload_n (i := 1) X 1 (dkX11_bestChance (1, .iload_n 1, 1) (pgm 1 rfl)) rfl rfl ?_
  refine so_callX (n := 1) (As := [.int a1]) X hlk htab (ct_X11_checkHundredths l hlt this a1 h0 hk) hk (by decide) rfl lk_1284 lk_1286 lk_38 lk_121 lk_1287 (by decide +kernel) rfl rfl rfl (rm_okxx (by omega) (by decide)) ⟨Nat.le_of_ble_eq_true rfl, Nat.le_of_ble_eq_true rfl⟩ ⟨Nat.le_of_ble_eq_true rfl, Nat.le_of_ble_eq_true rfl⟩ (Nat.le_of_ble_eq_true rfl) (dkX11_bestChance (2, .invokevirtual 277, 3) (pgm 2 rfl)) (fun r1 h2 => ?_) rfl
  refine so_aload_n (i := 0) X 0 (dkX11_bestChance (5, .aload_n 0, 1) (pgm 3 rfl)) rfl rfl ?_
  refine sf_getR X ff_11_7 lk_572 hk (dkX11_bestChance (6, .getfield 57, 3) (pgm 4 rfl)) ?_
  refine so_callV (n := 0) (As := []) X (ct_X2_settled l (rt this 7) h2 (fo (rk_11_7 this hk))) (fo (rk_11_7 this hk)) (by decide) rfl lk_666 lk_667 lk_668 lk_128 lk_669 (by decide +kernel) rfl rfl rfl (rm_okx (by omega) (by decide)) ⟨Nat.le_of_ble_eq_true rfl, Nat.le_of_ble_eq_true rfl⟩ (Nat.le_of_ble_eq_true rfl) (dkX11_bestChance (9, .invokevirtual 194, 3) (pgm 5 rfl)) (fun r3 h4 => ?_) rfl
  refine so_iload_n (i := 1) X 1 (dkX11_bestChance (12, .iload_n 1, 1) (pgm 6 rfl)) rfl rfl ?_
  refine so_callV (n := 1) (As := [.int a1]) X (ct_X2_bestByChance l (rt this 7) a1 h4 (fo (rk_11_7 this hk))) (fo (rk_11_7 this hk)) (by decide) rfl lk_1303 lk_1304 lk_1305 lk_128 lk_1306 (by decide +kernel) rfl rfl rfl (rm_okx (by omega) (by decide)) ⟨Nat.le_of_ble_eq_true rfl, Nat.le_of_ble_eq_true rfl⟩ (Nat.le_of_ble_eq_true rfl) (dkX11_bestChance (13, .invokevirtual 284, 3) (pgm 7 rfl)) (fun r5 h6 => ?_) rfl
  exact so_iretX X hr hlk (Nat.le_of_ble_eq_true rfl) (Nat.le_of_ble_eq_true rfl) (dkX11_bestChance (16, .ireturn, 1) (pgm 8 rfl))
def pgX11_served : List (Nat × Instr × Nat) := [(0, .aload_n 0, 1), (1, .iload_n 1, 1), (2, .invokevirtual 287, 3), (5, .aload_n 0, 1), (6, .getfield 57, 3), (9, .invokevirtual 194, 3), (12, .pop, 1), (13, .aload_n 0, 1), (14, .getfield 66, 3), (17, .iload_n 1, 1), (18, .invokevirtual 290, 3), (21, .ireturn, 1)]
theorem dkX11_served : ∀ q ∈ pgX11_served, decode cX11_served q.1 = .ok q.2 := by decide +kernel
def f_X11_served (this : Nat) (a1 : Int32) (h0 : PH) : Option ((Int32 ⊕ Nat) × PH) :=
  cbx (f_X11_checkRule this a1 h0) (fun (r1 : Unit) (h2 : PH) => cb (f_X2_settled (rt this 7) h2) (fun (r3 : Unit) (h4 : PH) => cb (f_X7_servedAsAsked (rt this 8) a1 h4) (fun (r5 : Int32) (h6 : PH) => some (.inl r5, h6))))
set_option maxRecDepth 100000 in
set_option maxHeartbeats 4000000 in
theorem ct_X11_served (l : Launch) (hlt : l.stackTraces = false) (this : Nat) (a1 : Int32) (h0 : PH) (hk : (kd this).1 = 11) : CTx mkI l yX11_served cX11_served 2 (some .int) (rmx 7 1 6) 1 6 [.ref this, .int a1] h0 (f_X11_served this a1 h0) := by
  refine ctx_of (by decide) (Nat.le_of_ble_eq_true rfl) ?_
  intro p e s m args below meth c D cA ad A X hr hlk htab
  have X : Cx p s m args c RX11 cX11_served 2 D cA ad A := X
  unfold f_X11_served
  refine so_pick (L' := [(0, .ref this), (1, .int a1)]) X [0, 1] rfl ?_
  refine so_aload_n (i := 0) X 0 (dkX11_served (0, .aload_n 0, 1) (pgm 0 rfl)) rfl rfl ?_
  refine so_iload_n (i := 1) X 1 (dkX11_served (1, .iload_n 1, 1) (pgm 1 rfl)) rfl rfl ?_
  refine so_callX (n := 1) (As := [.int a1]) X hlk htab (ct_X11_checkRule l hlt this a1 h0 hk) hk (by decide) rfl lk_1316 lk_1318 lk_39 lk_121 lk_1319 (by decide +kernel) rfl rfl rfl (rm_okxx (by omega) (by decide)) ⟨Nat.le_of_ble_eq_true rfl, Nat.le_of_ble_eq_true rfl⟩ ⟨Nat.le_of_ble_eq_true rfl, Nat.le_of_ble_eq_true rfl⟩ (Nat.le_of_ble_eq_true rfl) (dkX11_served (2, .invokevirtual 287, 3) (pgm 2 rfl)) (fun r1 h2 => ?_) rfl
  refine so_aload_n (i := 0) X 0 (dkX11_served (5, .aload_n 0, 1) (pgm 3 rfl)) rfl rfl ?_
  refine sf_getR X ff_11_7 lk_572 hk (dkX11_served (6, .getfield 57, 3) (pgm 4 rfl)) ?_
  refine so_callV (n := 0) (As := []) X (ct_X2_settled l (rt this 7) h2 (fo (rk_11_7 this hk))) (fo (rk_11_7 this hk)) (by decide) rfl lk_666 lk_667 lk_668 lk_128 lk_669 (by decide +kernel) rfl rfl rfl (rm_okx (by omega) (by decide)) ⟨Nat.le_of_ble_eq_true rfl, Nat.le_of_ble_eq_true rfl⟩ (Nat.le_of_ble_eq_true rfl) (dkX11_served (9, .invokevirtual 194, 3) (pgm 5 rfl)) (fun r3 h4 => ?_) rfl
  refine so_pop X (dkX11_served (12, .pop, 1) (pgm 6 rfl)) rfl ?_
  refine so_aload_n (i := 0) X 0 (dkX11_served (13, .aload_n 0, 1) (pgm 7 rfl)) rfl rfl ?_
  refine sf_getR X ff_11_8 lk_573 hk (dkX11_served (14, .getfield 66, 3) (pgm 8 rfl)) ?_
  refine so_iload_n (i := 1) X 1 (dkX11_served (17, .iload_n 1, 1) (pgm 9 rfl)) rfl rfl ?_
  refine so_callV (n := 1) (As := [.int a1]) X (ct_X7_servedAsAsked l (rt this 8) a1 h4 (fo (rk_11_8 this hk))) (fo (rk_11_8 this hk)) (by decide) rfl lk_708 lk_709 lk_710 lk_129 lk_711 (by decide +kernel) rfl rfl rfl (rm_okx (by omega) (by decide)) ⟨Nat.le_of_ble_eq_true rfl, Nat.le_of_ble_eq_true rfl⟩ (Nat.le_of_ble_eq_true rfl) (dkX11_served (18, .invokevirtual 290, 3) (pgm 10 rfl)) (fun r5 h6 => ?_) rfl
  exact so_iretX X hr hlk (Nat.le_of_ble_eq_true rfl) (Nat.le_of_ble_eq_true rfl) (dkX11_served (21, .ireturn, 1) (pgm 11 rfl))
def pgX11_share : List (Nat × Instr × Nat) := [(0, .aload_n 0, 1), (1, .iload_n 1, 1), (2, .invokevirtual 293, 3), (5, .aload_n 0, 1), (6, .iload_n 2, 1), (7, .invokevirtual 287, 3), (10, .aload_n 0, 1), (11, .getfield 57, 3), (14, .invokevirtual 194, 3), (17, .pop, 1), (18, .aload_n 0, 1), (19, .getfield 66, 3), (22, .iload_n 1, 1), (23, .aload_n 0, 1), (24, .getfield 66, 3), (27, .iload_n 2, 1), (28, .invokevirtual 290, 3), (31, .invokevirtual 296, 3), (34, .ireturn, 1)]
theorem dkX11_share : ∀ q ∈ pgX11_share, decode cX11_share q.1 = .ok q.2 := by decide +kernel
def f_X11_share (this : Nat) (a1 : Int32) (a2 : Int32) (h0 : PH) : Option ((Int32 ⊕ Nat) × PH) :=
  cbx (f_X11_checkPerson this a1 h0) (fun (r1 : Unit) (h2 : PH) => cbx (f_X11_checkRule this a2 h2) (fun (r3 : Unit) (h4 : PH) => cb (f_X2_settled (rt this 7) h4) (fun (r5 : Unit) (h6 : PH) => cb (f_X7_servedAsAsked (rt this 8) a2 h6) (fun (r7 : Int32) (h8 : PH) => cb (f_X7_weightFor (rt this 8) a1 r7 h8) (fun (r9 : Int32) (h10 : PH) => some (.inl r9, h10))))))
set_option maxRecDepth 100000 in
set_option maxHeartbeats 4000000 in
theorem ct_X11_share (l : Launch) (hlt : l.stackTraces = false) (this : Nat) (a1 : Int32) (a2 : Int32) (h0 : PH) (hk : (kd this).1 = 11) : CTx mkI l yX11_share cX11_share 3 (some .int) (rmx 7 2 12) 2 12 [.ref this, .int a1, .int a2] h0 (f_X11_share this a1 a2 h0) := by
  refine ctx_of (by decide) (Nat.le_of_ble_eq_true rfl) ?_
  intro p e s m args below meth c D cA ad A X hr hlk htab
  have X : Cx p s m args c RX11 cX11_share 3 D cA ad A := X
  unfold f_X11_share
  refine so_pick (L' := [(0, .ref this), (1, .int a1), (2, .int a2)]) X [0, 1, 2] rfl ?_
  refine so_aload_n (i := 0) X 0 (dkX11_share (0, .aload_n 0, 1) (pgm 0 rfl)) rfl rfl ?_
  refine so_iload_n (i := 1) X 1 (dkX11_share (1, .iload_n 1, 1) (pgm 1 rfl)) rfl rfl ?_
  refine so_callX (n := 1) (As := [.int a1]) X hlk htab (ct_X11_checkPerson l hlt this a1 h0 hk) hk (by decide) rfl lk_1328 lk_1330 lk_40 lk_121 lk_1331 (by decide +kernel) rfl rfl rfl (rm_okxx (by omega) (by decide)) ⟨Nat.le_of_ble_eq_true rfl, Nat.le_of_ble_eq_true rfl⟩ ⟨Nat.le_of_ble_eq_true rfl, Nat.le_of_ble_eq_true rfl⟩ (Nat.le_of_ble_eq_true rfl) (dkX11_share (2, .invokevirtual 293, 3) (pgm 2 rfl)) (fun r1 h2 => ?_) rfl
  refine so_aload_n (i := 0) X 0 (dkX11_share (5, .aload_n 0, 1) (pgm 3 rfl)) rfl rfl ?_
  refine so_iload_n (i := 2) X 2 (dkX11_share (6, .iload_n 2, 1) (pgm 4 rfl)) rfl rfl ?_
  refine so_callX (n := 1) (As := [.int a2]) X hlk htab (ct_X11_checkRule l hlt this a2 h2 hk) hk (by decide) rfl lk_1316 lk_1318 lk_39 lk_121 lk_1319 (by decide +kernel) rfl rfl rfl (rm_okxx (by omega) (by decide)) ⟨Nat.le_of_ble_eq_true rfl, Nat.le_of_ble_eq_true rfl⟩ ⟨Nat.le_of_ble_eq_true rfl, Nat.le_of_ble_eq_true rfl⟩ (Nat.le_of_ble_eq_true rfl) (dkX11_share (7, .invokevirtual 287, 3) (pgm 5 rfl)) (fun r3 h4 => ?_) rfl
  refine so_aload_n (i := 0) X 0 (dkX11_share (10, .aload_n 0, 1) (pgm 6 rfl)) rfl rfl ?_
  refine sf_getR X ff_11_7 lk_572 hk (dkX11_share (11, .getfield 57, 3) (pgm 7 rfl)) ?_
  refine so_callV (n := 0) (As := []) X (ct_X2_settled l (rt this 7) h4 (fo (rk_11_7 this hk))) (fo (rk_11_7 this hk)) (by decide) rfl lk_666 lk_667 lk_668 lk_128 lk_669 (by decide +kernel) rfl rfl rfl (rm_okx (by omega) (by decide)) ⟨Nat.le_of_ble_eq_true rfl, Nat.le_of_ble_eq_true rfl⟩ (Nat.le_of_ble_eq_true rfl) (dkX11_share (14, .invokevirtual 194, 3) (pgm 8 rfl)) (fun r5 h6 => ?_) rfl
  refine so_pop X (dkX11_share (17, .pop, 1) (pgm 9 rfl)) rfl ?_
  refine so_aload_n (i := 0) X 0 (dkX11_share (18, .aload_n 0, 1) (pgm 10 rfl)) rfl rfl ?_
  refine sf_getR X ff_11_8 lk_573 hk (dkX11_share (19, .getfield 66, 3) (pgm 11 rfl)) ?_
  refine so_iload_n (i := 1) X 1 (dkX11_share (22, .iload_n 1, 1) (pgm 12 rfl)) rfl rfl ?_
  refine so_aload_n (i := 0) X 0 (dkX11_share (23, .aload_n 0, 1) (pgm 13 rfl)) rfl rfl ?_
  refine sf_getR X ff_11_8 lk_573 hk (dkX11_share (24, .getfield 66, 3) (pgm 14 rfl)) ?_
  refine so_iload_n (i := 2) X 2 (dkX11_share (27, .iload_n 2, 1) (pgm 15 rfl)) rfl rfl ?_
  refine so_callV (n := 1) (As := [.int a2]) X (ct_X7_servedAsAsked l (rt this 8) a2 h6 (fo (rk_11_8 this hk))) (fo (rk_11_8 this hk)) (by decide) rfl lk_708 lk_709 lk_710 lk_129 lk_711 (by decide +kernel) rfl rfl rfl (rm_okx (by omega) (by decide)) ⟨Nat.le_of_ble_eq_true rfl, Nat.le_of_ble_eq_true rfl⟩ (Nat.le_of_ble_eq_true rfl) (dkX11_share (28, .invokevirtual 290, 3) (pgm 16 rfl)) (fun r7 h8 => ?_) rfl
  refine so_callV (n := 2) (As := [.int a1, .int r7]) X (ct_X7_weightFor l (rt this 8) a1 r7 h8 (fo (rk_11_8 this hk))) (fo (rk_11_8 this hk)) (by decide) rfl lk_1333 lk_1334 lk_1335 lk_129 lk_1336 (by decide +kernel) rfl rfl rfl (rm_okx (by omega) (by decide)) ⟨Nat.le_of_ble_eq_true rfl, Nat.le_of_ble_eq_true rfl⟩ (Nat.le_of_ble_eq_true rfl) (dkX11_share (31, .invokevirtual 296, 3) (pgm 17 rfl)) (fun r9 h10 => ?_) rfl
  exact so_iretX X hr hlk (Nat.le_of_ble_eq_true rfl) (Nat.le_of_ble_eq_true rfl) (dkX11_share (34, .ireturn, 1) (pgm 18 rfl))
def pgX11_gains : List (Nat × Instr × Nat) := [(0, .aload_n 0, 1), (1, .iload_n 1, 1), (2, .invokevirtual 293, 3), (5, .aload_n 0, 1), (6, .iload_n 2, 1), (7, .invokevirtual 287, 3), (10, .aload_n 0, 1), (11, .iload_n 3, 1), (12, .iconst 1, 1), (13, .invokevirtual 246, 3), (16, .aload_n 0, 1), (17, .getfield 57, 3), (20, .invokevirtual 194, 3), (23, .pop, 1), (24, .aload_n 0, 1), (25, .getfield 66, 3), (28, .iload_n 1, 1), (29, .iload_n 2, 1), (30, .invokevirtual 299, 3), (33, .iload_n 3, 1), (34, .ifCond .ne 13, 3), (37, .aload_n 0, 1), (38, .getfield 66, 3), (41, .getfield 302, 3), (44, .goto 10, 3), (47, .aload_n 0, 1), (48, .getfield 66, 3), (51, .getfield 305, 3), (54, .ireturn, 1)]
theorem dkX11_gains : ∀ q ∈ pgX11_gains, decode cX11_gains q.1 = .ok q.2 := by decide +kernel
def f_X11_gains (this : Nat) (a1 : Int32) (a2 : Int32) (a3 : Int32) (h0 : PH) : Option ((Int32 ⊕ Nat) × PH) :=
  cbx (f_X11_checkPerson this a1 h0) (fun (r1 : Unit) (h2 : PH) => cbx (f_X11_checkRule this a2 h2) (fun (r3 : Unit) (h4 : PH) => cbx (f_X11_checkWhat this a3 (1 : Int32) h4) (fun (r5 : Unit) (h6 : PH) => cb (f_X2_settled (rt this 7) h6) (fun (r7 : Unit) (h8 : PH) => cb (f_X7_findGain (rt this 8) a1 a2 h8) (fun (r9 : Unit) (h10 : PH) => lt (fun (t11 : Int32) (h12 : PH) => some (.inl t11, h12)) (fun (j54 : Int32 → PH → Option ((Int32 ⊕ Nat) × PH)) => if a3 = 0 then (j54 (h10.1 (rt this 8) 6) h10) else (j54 (h10.1 (rt this 8) 7) h10)))))))
set_option maxRecDepth 100000 in
set_option maxHeartbeats 4000000 in
theorem ct_X11_gains (l : Launch) (hlt : l.stackTraces = false) (this : Nat) (a1 : Int32) (a2 : Int32) (a3 : Int32) (h0 : PH) (hk : (kd this).1 = 11) : CTx mkI l yX11_gains cX11_gains 4 (some .int) (rmx 7 3 18) 3 18 [.ref this, .int a1, .int a2, .int a3] h0 (f_X11_gains this a1 a2 a3 h0) := by
  refine ctx_of (by decide) (Nat.le_of_ble_eq_true rfl) ?_
  intro p e s m args below meth c D cA ad A X hr hlk htab
  have X : Cx p s m args c RX11 cX11_gains 4 D cA ad A := X
  unfold f_X11_gains
  refine so_pick (L' := [(0, .ref this), (1, .int a1), (2, .int a2), (3, .int a3)]) X [0, 1, 2, 3] rfl ?_
  refine so_aload_n (i := 0) X 0 (dkX11_gains (0, .aload_n 0, 1) (pgm 0 rfl)) rfl rfl ?_
  refine so_iload_n (i := 1) X 1 (dkX11_gains (1, .iload_n 1, 1) (pgm 1 rfl)) rfl rfl ?_
  refine so_callX (n := 1) (As := [.int a1]) X hlk htab (ct_X11_checkPerson l hlt this a1 h0 hk) hk (by decide) rfl lk_1328 lk_1330 lk_40 lk_121 lk_1331 (by decide +kernel) rfl rfl rfl (rm_okxx (by omega) (by decide)) ⟨Nat.le_of_ble_eq_true rfl, Nat.le_of_ble_eq_true rfl⟩ ⟨Nat.le_of_ble_eq_true rfl, Nat.le_of_ble_eq_true rfl⟩ (Nat.le_of_ble_eq_true rfl) (dkX11_gains (2, .invokevirtual 293, 3) (pgm 2 rfl)) (fun r1 h2 => ?_) rfl
  refine so_aload_n (i := 0) X 0 (dkX11_gains (5, .aload_n 0, 1) (pgm 3 rfl)) rfl rfl ?_
  refine so_iload_n (i := 2) X 2 (dkX11_gains (6, .iload_n 2, 1) (pgm 4 rfl)) rfl rfl ?_
  refine so_callX (n := 1) (As := [.int a2]) X hlk htab (ct_X11_checkRule l hlt this a2 h2 hk) hk (by decide) rfl lk_1316 lk_1318 lk_39 lk_121 lk_1319 (by decide +kernel) rfl rfl rfl (rm_okxx (by omega) (by decide)) ⟨Nat.le_of_ble_eq_true rfl, Nat.le_of_ble_eq_true rfl⟩ ⟨Nat.le_of_ble_eq_true rfl, Nat.le_of_ble_eq_true rfl⟩ (Nat.le_of_ble_eq_true rfl) (dkX11_gains (7, .invokevirtual 287, 3) (pgm 5 rfl)) (fun r3 h4 => ?_) rfl
  refine so_aload_n (i := 0) X 0 (dkX11_gains (10, .aload_n 0, 1) (pgm 6 rfl)) rfl rfl ?_
  refine so_iload_n (i := 3) X 3 (dkX11_gains (11, .iload_n 3, 1) (pgm 7 rfl)) rfl rfl ?_
  refine so_iconst (v := (1 : Int32)) X (dkX11_gains (12, .iconst 1, 1) (pgm 8 rfl)) ic_1 ?_
  refine so_callX (n := 2) (As := [.int a3, .int (1 : Int32)]) X hlk htab (ct_X11_checkWhat l hlt this a3 (1 : Int32) h4 hk) hk (by decide) rfl lk_1232 lk_1234 lk_37 lk_121 lk_1235 (by decide +kernel) rfl rfl rfl (rm_okxx (by omega) (by decide)) ⟨Nat.le_of_ble_eq_true rfl, Nat.le_of_ble_eq_true rfl⟩ ⟨Nat.le_of_ble_eq_true rfl, Nat.le_of_ble_eq_true rfl⟩ (Nat.le_of_ble_eq_true rfl) (dkX11_gains (13, .invokevirtual 246, 3) (pgm 9 rfl)) (fun r5 h6 => ?_) rfl
  refine so_aload_n (i := 0) X 0 (dkX11_gains (16, .aload_n 0, 1) (pgm 10 rfl)) rfl rfl ?_
  refine sf_getR X ff_11_7 lk_572 hk (dkX11_gains (17, .getfield 57, 3) (pgm 11 rfl)) ?_
  refine so_callV (n := 0) (As := []) X (ct_X2_settled l (rt this 7) h6 (fo (rk_11_7 this hk))) (fo (rk_11_7 this hk)) (by decide) rfl lk_666 lk_667 lk_668 lk_128 lk_669 (by decide +kernel) rfl rfl rfl (rm_okx (by omega) (by decide)) ⟨Nat.le_of_ble_eq_true rfl, Nat.le_of_ble_eq_true rfl⟩ (Nat.le_of_ble_eq_true rfl) (dkX11_gains (20, .invokevirtual 194, 3) (pgm 12 rfl)) (fun r7 h8 => ?_) rfl
  refine so_pop X (dkX11_gains (23, .pop, 1) (pgm 13 rfl)) rfl ?_
  refine so_aload_n (i := 0) X 0 (dkX11_gains (24, .aload_n 0, 1) (pgm 14 rfl)) rfl rfl ?_
  refine sf_getR X ff_11_8 lk_573 hk (dkX11_gains (25, .getfield 66, 3) (pgm 15 rfl)) ?_
  refine so_iload_n (i := 1) X 1 (dkX11_gains (28, .iload_n 1, 1) (pgm 16 rfl)) rfl rfl ?_
  refine so_iload_n (i := 2) X 2 (dkX11_gains (29, .iload_n 2, 1) (pgm 17 rfl)) rfl rfl ?_
  refine so_callV (n := 2) (As := [.int a1, .int a2]) X (ct_X7_findGain l (rt this 8) a1 a2 h8 (fo (rk_11_8 this hk))) (fo (rk_11_8 this hk)) (by decide) rfl lk_1344 lk_1345 lk_1346 lk_129 lk_1347 (by decide +kernel) rfl rfl rfl (rm_okx (by omega) (by decide)) ⟨Nat.le_of_ble_eq_true rfl, Nat.le_of_ble_eq_true rfl⟩ (Nat.le_of_ble_eq_true rfl) (dkX11_gains (30, .invokevirtual 299, 3) (pgm 18 rfl)) (fun r9 h10 => ?_) rfl
  refine so_iload_n (i := 3) X 3 (dkX11_gains (33, .iload_n 3, 1) (pgm 19 rfl)) rfl rfl ?_
  refine so_join (jf := fun (t11 : Int32) (h12 : PH) => some (.inl t11, h12)) (fun (j : Int32 → PH → Option ((Int32 ⊕ Nat) × PH)) => ∀ (t11 : Int32) (h12 : PH), SWo (QX mkI below args s D cA ad A 3 18) p l e (rmx 7 3 18) s m args below meth c 3 18 4 D cA ad A 54 [] [.int t11] h12 (j t11 h12)) ?_ (fun j54 hj54 => ?_)
  · intro t11 h12
    exact so_iretX X hr hlk (Nat.le_of_ble_eq_true rfl) (Nat.le_of_ble_eq_true rfl) (dkX11_gains (54, .ireturn, 1) (pgm 28 rfl))
  refine so_if_ne (tgt := 47) X (dkX11_gains (34, .ifCond .ne 13, 3) (pgm 20 rfl)) rfl (fun _ => ?_) (fun _ => ?_)
  · refine so_aload_n (i := 0) X 0 (dkX11_gains (47, .aload_n 0, 1) (pgm 25 rfl)) rfl rfl ?_
    refine sf_getR X ff_11_8 lk_573 hk (dkX11_gains (48, .getfield 66, 3) (pgm 26 rfl)) ?_
    refine sf_getI X ff_7_7 lk_433 (fo (rk_11_8 this hk)) (dkX11_gains (51, .getfield 305, 3) (pgm 27 rfl)) ?_
    exact so_pick X [] rfl (hj54 (h10.1 (rt this 8) 7) h10)
  · refine so_aload_n (i := 0) X 0 (dkX11_gains (37, .aload_n 0, 1) (pgm 21 rfl)) rfl rfl ?_
    refine sf_getR X ff_11_8 lk_573 hk (dkX11_gains (38, .getfield 66, 3) (pgm 22 rfl)) ?_
    refine sf_getI X ff_7_6 lk_431 (fo (rk_11_8 this hk)) (dkX11_gains (41, .getfield 302, 3) (pgm 23 rfl)) ?_
    refine so_goto (tgt := 54) X (dkX11_gains (44, .goto 10, 3) (pgm 24 rfl)) rfl ?_
    exact so_pick X [] rfl (hj54 (h10.1 (rt this 8) 6) h10)
def pgX11_wants : List (Nat × Instr × Nat) := [(0, .aload_n 0, 1), (1, .iload_n 1, 1), (2, .invokevirtual 308, 3), (5, .astore_n 3, 1), (6, .aload_n 0, 1), (7, .getfield 20, 3), (10, .getfield 312, 3), (13, .ifCond .ne 14, 3), (16, .new 226, 3), (19, .dup, 1), (20, .ldc_w 315, 3), (23, .invokespecial 230, 3), (26, .athrow, 1), (27, .iload_n 2, 1), (28, .ifCond .eq 8, 3), (31, .iload_n 2, 1), (32, .iconst 1, 1), (33, .if_icmp .ne 7, 3), (36, .iconst 1, 1), (37, .goto 4, 3), (40, .iconst 0, 1), (41, .istore 4, 2), (43, .iload 4, 2), (45, .ifCond .ne 25, 3), (48, .iload_n 2, 1), (49, .bipush 10, 2), (51, .if_icmp .lt 9, 3), (54, .iload_n 2, 1), (55, .bipush 12, 2), (57, .if_icmp .le 13, 3), (60, .new 116, 3), (63, .dup, 1), (64, .ldc 175, 2), (66, .invokespecial 120, 3), (69, .athrow, 1), (70, .aload_n 0, 1), (71, .getfield 73, 3), (74, .aload_n 3, 1), (75, .invokevirtual 317, 3), (78, .ifCond .ne 14, 3), (81, .new 116, 3), (84, .dup, 1), (85, .ldc_w 321, 3), (88, .invokespecial 120, 3), (91, .athrow, 1), (92, .aload_n 0, 1), (93, .getfield 73, 3), (96, .invokevirtual 323, 3), (99, .iload 4, 2), (101, .ifCond .eq 25, 3), (104, .iload_n 2, 1), (105, .ifCond .ne 13, 3), (108, .aload_n 0, 1), (109, .getfield 73, 3), (112, .getfield 326, 3), (115, .goto 10, 3), (118, .aload_n 0, 1), (119, .getfield 73, 3), (122, .getfield 329, 3), (125, .ireturn, 1), (126, .aload_n 0, 1), (127, .getfield 73, 3), (130, .iload_n 2, 1), (131, .bipush 10, 2), (133, .isub, 1), (134, .invokevirtual 332, 3), (137, .ireturn, 1)]
theorem dkX11_wants : ∀ q ∈ pgX11_wants, decode cX11_wants q.1 = .ok q.2 := by decide +kernel
def f_X11_wants (this : Nat) (a1 : Int32) (a2 : Int32) (h0 : PH) : Option ((Int32 ⊕ Nat) × PH) :=
  cbx (f_X11_trayThere this a1 h0) (fun (r1 : Nat) (h2 : PH) => gk r1 10 (if (h2.1 (rt this 2) 1) = 0 then (some (.inr 2, h2)) else (lt (fun (t3 : Int32) (h4 : PH) => lt t3 (fun (x5 : Int32) => lt (fun (h6 : PH) => cb (f_X5_take (rt this 9) r1 h6) (fun (r7 : Int32) (h8 : PH) => if r7 = 0 then (some (.inr 0, h8)) else (cb (f_X5_find (rt this 9) h8) (fun (r9 : Unit) (h10 : PH) => if x5 = 0 then (cb (f_X5_numberAt (rt this 9) (a2 - (10 : Int32)) h10) (fun (r11 : Int32) (h12 : PH) => some (.inl r11, h12))) else (lt (fun (t13 : Int32) (h14 : PH) => some (.inl t13, h14)) (fun (j125 : Int32 → PH → Option ((Int32 ⊕ Nat) × PH)) => if a2 = 0 then (j125 (h10.1 (rt this 9) 5) h10) else (j125 (h10.1 (rt this 9) 6) h10))))))) (fun (j70 : PH → Option ((Int32 ⊕ Nat) × PH)) => if x5 = 0 then (lt (fun (h15 : PH) => some (.inr 0, h15)) (fun (j60 : PH → Option ((Int32 ⊕ Nat) × PH)) => if a2 < (10 : Int32) then (j60 h4) else (if a2 ≤ (12 : Int32) then (j70 h4) else (j60 h4)))) else (j70 h4)))) (fun (j41 : Int32 → PH → Option ((Int32 ⊕ Nat) × PH)) => lt (fun (h16 : PH) => j41 (1 : Int32) h16) (fun (j36 : PH → Option ((Int32 ⊕ Nat) × PH)) => if a2 = 0 then (j36 h2) else (if a2 = (1 : Int32) then (j36 h2) else (j41 (0 : Int32) h2)))))))
set_option maxRecDepth 100000 in
set_option maxHeartbeats 4000000 in
theorem ct_X11_wants (l : Launch) (hlt : l.stackTraces = false) (this : Nat) (a1 : Int32) (a2 : Int32) (h0 : PH) (hk : (kd this).1 = 11) : CTx mkI l yX11_wants cX11_wants 5 (some .int) (rmx 10 2 12) 2 12 [.ref this, .int a1, .int a2] h0 (f_X11_wants this a1 a2 h0) := by
  refine ctx_of (by decide) (Nat.le_of_ble_eq_true rfl) ?_
  intro p e s m args below meth c D cA ad A X hr hlk htab
  have X : Cx p s m args c RX11 cX11_wants 5 D cA ad A := X
  unfold f_X11_wants
  refine so_pick (L' := [(0, .ref this), (1, .int a1), (2, .int a2)]) X [0, 1, 2] rfl ?_
  refine so_aload_n (i := 0) X 0 (dkX11_wants (0, .aload_n 0, 1) (pgm 0 rfl)) rfl rfl ?_
  refine so_iload_n (i := 1) X 1 (dkX11_wants (1, .iload_n 1, 1) (pgm 1 rfl)) rfl rfl ?_
  refine so_callX (n := 1) (As := [.int a1]) X hlk htab (ct_X11_trayThere l hlt this a1 h0 hk) hk (by decide) rfl lk_1362 lk_1364 lk_42 lk_121 lk_1365 (by decide +kernel) rfl rfl rfl (rm_okxx (by omega) (by decide)) ⟨Nat.le_of_ble_eq_true rfl, Nat.le_of_ble_eq_true rfl⟩ ⟨Nat.le_of_ble_eq_true rfl, Nat.le_of_ble_eq_true rfl⟩ (Nat.le_of_ble_eq_true rfl) (dkX11_wants (2, .invokevirtual 308, 3) (pgm 2 rfl)) (fun r1 h2 => ?_) rfl
  refine so_gk (fun hkr1 => ?_)
  refine so_astore_n0 (i := 3) (L' := [(3, .ref r1), (0, .ref this), (1, .int a1), (2, .int a2)]) X (dkX11_wants (5, .astore_n 3, 1) (pgm 3 rfl)) rfl (by decide) rfl ?_
  refine so_aload_n (i := 0) X 1 (dkX11_wants (6, .aload_n 0, 1) (pgm 4 rfl)) rfl rfl ?_
  refine sf_getR X ff_11_2 lk_567 hk (dkX11_wants (7, .getfield 20, 3) (pgm 5 rfl)) ?_
  refine sf_getI X ff_8_1 lk_169 (fo (rk_11_2 this hk)) (dkX11_wants (10, .getfield 312, 3) (pgm 6 rfl)) ?_
  refine so_if_ne (tgt := 27) X (dkX11_wants (13, .ifCond .ne 14, 3) (pgm 7 rfl)) rfl (fun _ => ?_) (fun _ => ?_)
  · refine so_iload_n (i := 2) X 3 (dkX11_wants (27, .iload_n 2, 1) (pgm 13 rfl)) rfl rfl ?_
    refine so_join (jf := fun (t3 : Int32) (h4 : PH) => lt t3 (fun (x5 : Int32) => lt (fun (h6 : PH) => cb (f_X5_take (rt this 9) r1 h6) (fun (r7 : Int32) (h8 : PH) => if r7 = 0 then (some (.inr 0, h8)) else (cb (f_X5_find (rt this 9) h8) (fun (r9 : Unit) (h10 : PH) => if x5 = 0 then (cb (f_X5_numberAt (rt this 9) (a2 - (10 : Int32)) h10) (fun (r11 : Int32) (h12 : PH) => some (.inl r11, h12))) else (lt (fun (t13 : Int32) (h14 : PH) => some (.inl t13, h14)) (fun (j125 : Int32 → PH → Option ((Int32 ⊕ Nat) × PH)) => if a2 = 0 then (j125 (h10.1 (rt this 9) 5) h10) else (j125 (h10.1 (rt this 9) 6) h10))))))) (fun (j70 : PH → Option ((Int32 ⊕ Nat) × PH)) => if x5 = 0 then (lt (fun (h15 : PH) => some (.inr 0, h15)) (fun (j60 : PH → Option ((Int32 ⊕ Nat) × PH)) => if a2 < (10 : Int32) then (j60 h4) else (if a2 ≤ (12 : Int32) then (j70 h4) else (j60 h4)))) else (j70 h4)))) (fun (j : Int32 → PH → Option ((Int32 ⊕ Nat) × PH)) => ∀ (t3 : Int32) (h4 : PH), SWo (QX mkI below args s D cA ad A 2 12) p l e (rmx 10 2 12) s m args below meth c 1 6 5 D cA ad A 41 [(0, .ref this), (2, .int a2), (3, .ref r1)] [.int t3] h4 (j t3 h4)) ?_ (fun j41 hj41 => ?_)
    · intro t3 h4
      refine so_istore (i := 4) X (dkX11_wants (41, .istore 4, 2) (pgm 21 rfl)) (by decide) (Lf := fun x5 => [(4, .int x5), (0, .ref this), (2, .int a2), (3, .ref r1)]) (fun _ => rfl) (fun x5 => ?_)
      refine so_iload (i := 4) X 0 (dkX11_wants (43, .iload 4, 2) (pgm 22 rfl)) rfl ?_
      refine so_join (jf := fun (h6 : PH) => cb (f_X5_take (rt this 9) r1 h6) (fun (r7 : Int32) (h8 : PH) => if r7 = 0 then (some (.inr 0, h8)) else (cb (f_X5_find (rt this 9) h8) (fun (r9 : Unit) (h10 : PH) => if x5 = 0 then (cb (f_X5_numberAt (rt this 9) (a2 - (10 : Int32)) h10) (fun (r11 : Int32) (h12 : PH) => some (.inl r11, h12))) else (lt (fun (t13 : Int32) (h14 : PH) => some (.inl t13, h14)) (fun (j125 : Int32 → PH → Option ((Int32 ⊕ Nat) × PH)) => if a2 = 0 then (j125 (h10.1 (rt this 9) 5) h10) else (j125 (h10.1 (rt this 9) 6) h10))))))) (fun (j : PH → Option ((Int32 ⊕ Nat) × PH)) => ∀  (h6 : PH), SWo (QX mkI below args s D cA ad A 2 12) p l e (rmx 10 2 12) s m args below meth c 1 6 5 D cA ad A 70 [(0, .ref this), (2, .int a2), (3, .ref r1), (4, .int x5)] [] h6 (j h6)) ?_ (fun j70 hj70 => ?_)
      · intro h6
        refine so_aload_n (i := 0) X 0 (dkX11_wants (70, .aload_n 0, 1) (pgm 35 rfl)) rfl rfl ?_
        refine sf_getR X ff_11_9 lk_574 hk (dkX11_wants (71, .getfield 73, 3) (pgm 36 rfl)) ?_
        refine so_aload_n (i := 3) X 2 (dkX11_wants (74, .aload_n 3, 1) (pgm 37 rfl)) rfl rfl ?_
        refine so_callV (n := 1) (As := [.ref r1]) X (ct_X5_take l (rt this 9) r1 h6 (fo (rk_11_9 this hk)) hkr1) (fo (rk_11_9 this hk)) (by decide) rfl lk_1384 lk_1385 lk_1386 lk_130 lk_1387 (by decide +kernel) rfl rfl rfl (rm_okx (by omega) (by decide)) ⟨Nat.le_of_ble_eq_true rfl, Nat.le_of_ble_eq_true rfl⟩ (Nat.le_of_ble_eq_true rfl) (dkX11_wants (75, .invokevirtual 317, 3) (pgm 38 rfl)) (fun r7 h8 => ?_) rfl
        refine so_if_ne (tgt := 92) X (dkX11_wants (78, .ifCond .ne 14, 3) (pgm 39 rfl)) rfl (fun _ => ?_) (fun _ => ?_)
        · refine so_aload_n (i := 0) X 0 (dkX11_wants (92, .aload_n 0, 1) (pgm 45 rfl)) rfl rfl ?_
          refine sf_getR X ff_11_9 lk_574 hk (dkX11_wants (93, .getfield 73, 3) (pgm 46 rfl)) ?_
          refine so_callV (n := 0) (As := []) X (ct_X5_find l (rt this 9) h8 (fo (rk_11_9 this hk))) (fo (rk_11_9 this hk)) (by decide) rfl lk_1389 lk_1390 lk_1391 lk_130 lk_1392 (by decide +kernel) rfl rfl rfl (rm_okx (by omega) (by decide)) ⟨Nat.le_of_ble_eq_true rfl, Nat.le_of_ble_eq_true rfl⟩ (Nat.le_of_ble_eq_true rfl) (dkX11_wants (96, .invokevirtual 323, 3) (pgm 47 rfl)) (fun r9 h10 => ?_) rfl
          refine so_iload (i := 4) X 3 (dkX11_wants (99, .iload 4, 2) (pgm 48 rfl)) rfl ?_
          refine so_if_eq (tgt := 126) X (dkX11_wants (101, .ifCond .eq 25, 3) (pgm 49 rfl)) rfl (fun _ => ?_) (fun _ => ?_)
          · refine so_aload_n (i := 0) X 0 (dkX11_wants (126, .aload_n 0, 1) (pgm 60 rfl)) rfl rfl ?_
            refine sf_getR X ff_11_9 lk_574 hk (dkX11_wants (127, .getfield 73, 3) (pgm 61 rfl)) ?_
            refine so_iload_n (i := 2) X 1 (dkX11_wants (130, .iload_n 2, 1) (pgm 62 rfl)) rfl rfl ?_
            refine so_bipush (v := (10 : Int32)) X (dkX11_wants (131, .bipush 10, 2) (pgm 63 rfl)) bp_10 ?_
            refine so_isub X (dkX11_wants (133, .isub, 1) (pgm 64 rfl)) ?_
            refine so_callV (n := 1) (As := [.int (a2 - (10 : Int32))]) X (ct_X5_numberAt l (rt this 9) (a2 - (10 : Int32)) h10 (fo (rk_11_9 this hk))) (fo (rk_11_9 this hk)) (by decide) rfl lk_1405 lk_1406 lk_1407 lk_130 lk_1408 (by decide +kernel) rfl rfl rfl (rm_okx (by omega) (by decide)) ⟨Nat.le_of_ble_eq_true rfl, Nat.le_of_ble_eq_true rfl⟩ (Nat.le_of_ble_eq_true rfl) (dkX11_wants (134, .invokevirtual 332, 3) (pgm 65 rfl)) (fun r11 h12 => ?_) rfl
            exact so_iretX X hr hlk (Nat.le_of_ble_eq_true rfl) (Nat.le_of_ble_eq_true rfl) (dkX11_wants (137, .ireturn, 1) (pgm 66 rfl))
          · refine so_iload_n (i := 2) X 1 (dkX11_wants (104, .iload_n 2, 1) (pgm 50 rfl)) rfl rfl ?_
            refine so_join (jf := fun (t13 : Int32) (h14 : PH) => some (.inl t13, h14)) (fun (j : Int32 → PH → Option ((Int32 ⊕ Nat) × PH)) => ∀ (t13 : Int32) (h14 : PH), SWo (QX mkI below args s D cA ad A 2 12) p l e (rmx 10 2 12) s m args below meth c 1 6 5 D cA ad A 125 [] [.int t13] h14 (j t13 h14)) ?_ (fun j125 hj125 => ?_)
            · intro t13 h14
              exact so_iretX X hr hlk (Nat.le_of_ble_eq_true rfl) (Nat.le_of_ble_eq_true rfl) (dkX11_wants (125, .ireturn, 1) (pgm 59 rfl))
            refine so_if_ne (tgt := 118) X (dkX11_wants (105, .ifCond .ne 13, 3) (pgm 51 rfl)) rfl (fun _ => ?_) (fun _ => ?_)
            · refine so_aload_n (i := 0) X 0 (dkX11_wants (118, .aload_n 0, 1) (pgm 56 rfl)) rfl rfl ?_
              refine sf_getR X ff_11_9 lk_574 hk (dkX11_wants (119, .getfield 73, 3) (pgm 57 rfl)) ?_
              refine sf_getI X ff_5_6 lk_465 (fo (rk_11_9 this hk)) (dkX11_wants (122, .getfield 329, 3) (pgm 58 rfl)) ?_
              exact so_pick X [] rfl (hj125 (h10.1 (rt this 9) 6) h10)
            · refine so_aload_n (i := 0) X 0 (dkX11_wants (108, .aload_n 0, 1) (pgm 52 rfl)) rfl rfl ?_
              refine sf_getR X ff_11_9 lk_574 hk (dkX11_wants (109, .getfield 73, 3) (pgm 53 rfl)) ?_
              refine sf_getI X ff_5_5 lk_463 (fo (rk_11_9 this hk)) (dkX11_wants (112, .getfield 326, 3) (pgm 54 rfl)) ?_
              refine so_goto (tgt := 125) X (dkX11_wants (115, .goto 10, 3) (pgm 55 rfl)) rfl ?_
              exact so_pick X [] rfl (hj125 (h10.1 (rt this 9) 5) h10)
        · exact so_throwSW (n := 40) (tx := "numbers that are no weathers") X hlt hlk htab 0 (pgm 40 rfl) lk_779 lk_139 (by decide) at_RX11_120_0 (by decide) (dkX11_wants (81, .new 116, 3) (pgm 40 rfl)) (dkX11_wants (84, .dup, 1) (pgm 41 rfl)) (dkX11_wants (85, .ldc_w 321, 3) (pgm 42 rfl)) (dkX11_wants (88, .invokespecial 120, 3) (pgm 43 rfl)) (dkX11_wants (91, .athrow, 1) (pgm 44 rfl)) (Nat.le_of_ble_eq_true rfl) (Nat.le_of_ble_eq_true rfl) (Nat.le_of_ble_eq_true rfl) (Nat.le_of_ble_eq_true rfl) (Nat.le_of_ble_eq_true rfl) (Nat.le_of_ble_eq_true rfl)
      refine so_if_ne (tgt := 70) X (dkX11_wants (45, .ifCond .ne 25, 3) (pgm 23 rfl)) rfl (fun _ => ?_) (fun _ => ?_)
      · exact so_pick X [1, 2, 3, 0] rfl (hj70 h4)
      · refine so_iload_n (i := 2) X 2 (dkX11_wants (48, .iload_n 2, 1) (pgm 24 rfl)) rfl rfl ?_
        refine so_bipush (v := (10 : Int32)) X (dkX11_wants (49, .bipush 10, 2) (pgm 25 rfl)) bp_10 ?_
        refine so_join (jf := fun (h15 : PH) => some (.inr 0, h15)) (fun (j : PH → Option ((Int32 ⊕ Nat) × PH)) => ∀  (h15 : PH), SWo (QX mkI below args s D cA ad A 2 12) p l e (rmx 10 2 12) s m args below meth c 1 6 5 D cA ad A 60 [] [] h15 (j h15)) ?_ (fun j60 hj60 => ?_)
        · intro h15
          exact so_throwS (n := 29) (tx := "another what") X hlt hlk htab 0 (pgm 29 rfl) lk_779 lk_139 (by decide) at_RX11_120_0 (by decide) (dkX11_wants (60, .new 116, 3) (pgm 30 rfl)) (dkX11_wants (63, .dup, 1) (pgm 31 rfl)) (dkX11_wants (64, .ldc 175, 2) (pgm 32 rfl)) (dkX11_wants (66, .invokespecial 120, 3) (pgm 33 rfl)) (dkX11_wants (69, .athrow, 1) (pgm 34 rfl)) (Nat.le_of_ble_eq_true rfl) (Nat.le_of_ble_eq_true rfl) (Nat.le_of_ble_eq_true rfl) (Nat.le_of_ble_eq_true rfl) (Nat.le_of_ble_eq_true rfl) (Nat.le_of_ble_eq_true rfl)
        refine so_icmp_lt (tgt := 60) X (dkX11_wants (51, .if_icmp .lt 9, 3) (pgm 26 rfl)) rfl (fun _ => ?_) (fun _ => ?_)
        · exact so_pick X [] rfl (hj60 h4)
        · refine so_iload_n (i := 2) X 2 (dkX11_wants (54, .iload_n 2, 1) (pgm 27 rfl)) rfl rfl ?_
          refine so_bipush (v := (12 : Int32)) X (dkX11_wants (55, .bipush 12, 2) (pgm 28 rfl)) bp_12 ?_
          refine so_icmp_le (tgt := 70) X (dkX11_wants (57, .if_icmp .le 13, 3) (pgm 29 rfl)) rfl (fun _ => ?_) (fun _ => ?_)
          · exact so_pick X [1, 2, 3, 0] rfl (hj70 h4)
          · exact so_pick X [] rfl (hj60 h4)
    refine so_join (jf := fun (h16 : PH) => j41 (1 : Int32) h16) (fun (j : PH → Option ((Int32 ⊕ Nat) × PH)) => ∀  (h16 : PH), SWo (QX mkI below args s D cA ad A 2 12) p l e (rmx 10 2 12) s m args below meth c 1 6 5 D cA ad A 36 [(0, .ref this), (2, .int a2), (3, .ref r1)] [] h16 (j h16)) ?_ (fun j36 hj36 => ?_)
    · intro h16
      refine so_iconst (v := (1 : Int32)) X (dkX11_wants (36, .iconst 1, 1) (pgm 18 rfl)) ic_1 ?_
      refine so_goto (tgt := 41) X (dkX11_wants (37, .goto 4, 3) (pgm 19 rfl)) rfl ?_
      exact so_pick X [0, 1, 2] rfl (hj41 (1 : Int32) h16)
    refine so_if_eq (tgt := 36) X (dkX11_wants (28, .ifCond .eq 8, 3) (pgm 14 rfl)) rfl (fun _ => ?_) (fun _ => ?_)
    · exact so_pick X [1, 3, 0] rfl (hj36 h2)
    · refine so_iload_n (i := 2) X 3 (dkX11_wants (31, .iload_n 2, 1) (pgm 15 rfl)) rfl rfl ?_
      refine so_iconst (v := (1 : Int32)) X (dkX11_wants (32, .iconst 1, 1) (pgm 16 rfl)) ic_1 ?_
      refine so_icmp_ne (tgt := 40) X (dkX11_wants (33, .if_icmp .ne 7, 3) (pgm 17 rfl)) rfl (fun _ => ?_) (fun _ => ?_)
      · refine so_iconst (v := (0 : Int32)) X (dkX11_wants (40, .iconst 0, 1) (pgm 20 rfl)) ic_0 ?_
        exact so_pick X [1, 3, 0] rfl (hj41 (0 : Int32) h2)
      · exact so_pick X [1, 3, 0] rfl (hj36 h2)
  · exact so_throwSW (n := 39) (tx := "no parishes") X hlt hlk htab 2 (pgm 39 rfl) lk_1367 lk_148 (by decide) at_RX11_230_2 (by decide) (dkX11_wants (16, .new 226, 3) (pgm 8 rfl)) (dkX11_wants (19, .dup, 1) (pgm 9 rfl)) (dkX11_wants (20, .ldc_w 315, 3) (pgm 10 rfl)) (dkX11_wants (23, .invokespecial 230, 3) (pgm 11 rfl)) (dkX11_wants (26, .athrow, 1) (pgm 12 rfl)) (Nat.le_of_ble_eq_true rfl) (Nat.le_of_ble_eq_true rfl) (Nat.le_of_ble_eq_true rfl) (Nat.le_of_ble_eq_true rfl) (Nat.le_of_ble_eq_true rfl) (Nat.le_of_ble_eq_true rfl)
def pgX11_readings : List (Nat × Instr × Nat) := [(0, .aload_n 0, 1), (1, .iload_n 1, 1), (2, .invokevirtual 308, 3), (5, .astore_n 3, 1), (6, .aload_n 0, 1), (7, .iload_n 2, 1), (8, .iconst 3, 1), (9, .invokevirtual 246, 3), (12, .aload_n 0, 1), (13, .getfield 82, 3), (16, .aload_n 3, 1), (17, .invokevirtual 335, 3), (20, .ifCond .ne 14, 3), (23, .new 116, 3), (26, .dup, 1), (27, .ldc_w 336, 3), (30, .invokespecial 120, 3), (33, .athrow, 1), (34, .aload_n 0, 1), (35, .getfield 82, 3), (38, .invokevirtual 338, 3), (41, .iload_n 2, 1), (42, .iconst 2, 1), (43, .if_icmp .ge 25, 3), (46, .iload_n 2, 1), (47, .ifCond .ne 13, 3), (50, .aload_n 0, 1), (51, .getfield 82, 3), (54, .invokevirtual 341, 3), (57, .goto 10, 3), (60, .aload_n 0, 1), (61, .getfield 82, 3), (64, .invokevirtual 344, 3), (67, .ireturn, 1), (68, .aload_n 0, 1), (69, .getfield 57, 3), (72, .invokevirtual 194, 3), (75, .pop, 1), (76, .aload_n 0, 1), (77, .getfield 82, 3), (80, .iload_n 2, 1), (81, .iconst 2, 1), (82, .if_icmp .ne 7, 3), (85, .iconst 1, 1), (86, .goto 4, 3), (89, .iconst 0, 1), (90, .invokevirtual 347, 3), (93, .ireturn, 1)]
theorem dkX11_readings : ∀ q ∈ pgX11_readings, decode cX11_readings q.1 = .ok q.2 := by decide +kernel
def f_X11_readings (this : Nat) (a1 : Int32) (a2 : Int32) (h0 : PH) : Option ((Int32 ⊕ Nat) × PH) :=
  cbx (f_X11_trayThere this a1 h0) (fun (r1 : Nat) (h2 : PH) => gk r1 10 (cbx (f_X11_checkWhat this a2 (3 : Int32) h2) (fun (r3 : Unit) (h4 : PH) => cb (f_X1_take (rt this 10) r1 h4) (fun (r5 : Int32) (h6 : PH) => if r5 = 0 then (some (.inr 0, h6)) else (cb (f_X1_bracket (rt this 10) h6) (fun (r7 : Unit) (h8 : PH) => if (2 : Int32) ≤ a2 then (cb (f_X2_settled (rt this 7) h8) (fun (r9 : Unit) (h10 : PH) => lt (fun (t11 : Int32) (h12 : PH) => cb (f_X1_heldIn (rt this 10) t11 h12) (fun (r13 : Int32) (h14 : PH) => some (.inl r13, h14))) (fun (j90 : Int32 → PH → Option ((Int32 ⊕ Nat) × PH)) => if a2 = (2 : Int32) then (j90 (1 : Int32) h10) else (j90 (0 : Int32) h10)))) else (lt (fun (t15 : Int32) (h16 : PH) => some (.inl t15, h16)) (fun (j67 : Int32 → PH → Option ((Int32 ⊕ Nat) × PH)) => if a2 = 0 then (cb (f_X1_all (rt this 10) h8) (fun (r19 : Int32) (h20 : PH) => j67 r19 h20)) else (cb (f_X1_unlike (rt this 10) h8) (fun (r17 : Int32) (h18 : PH) => j67 r17 h18))))))))))
set_option maxRecDepth 100000 in
set_option maxHeartbeats 4000000 in
theorem ct_X11_readings (l : Launch) (hlt : l.stackTraces = false) (this : Nat) (a1 : Int32) (a2 : Int32) (h0 : PH) (hk : (kd this).1 = 11) : CTx mkI l yX11_readings cX11_readings 4 (some .int) (rmx 7 3 18) 3 18 [.ref this, .int a1, .int a2] h0 (f_X11_readings this a1 a2 h0) := by
  refine ctx_of (by decide) (Nat.le_of_ble_eq_true rfl) ?_
  intro p e s m args below meth c D cA ad A X hr hlk htab
  have X : Cx p s m args c RX11 cX11_readings 4 D cA ad A := X
  unfold f_X11_readings
  refine so_pick (L' := [(0, .ref this), (1, .int a1), (2, .int a2)]) X [0, 1, 2] rfl ?_
  refine so_aload_n (i := 0) X 0 (dkX11_readings (0, .aload_n 0, 1) (pgm 0 rfl)) rfl rfl ?_
  refine so_iload_n (i := 1) X 1 (dkX11_readings (1, .iload_n 1, 1) (pgm 1 rfl)) rfl rfl ?_
  refine so_callX (n := 1) (As := [.int a1]) X hlk htab (ct_X11_trayThere l hlt this a1 h0 hk) hk (by decide) rfl lk_1362 lk_1364 lk_42 lk_121 lk_1365 (by decide +kernel) rfl rfl rfl (rm_okxx (by omega) (by decide)) ⟨Nat.le_of_ble_eq_true rfl, Nat.le_of_ble_eq_true rfl⟩ ⟨Nat.le_of_ble_eq_true rfl, Nat.le_of_ble_eq_true rfl⟩ (Nat.le_of_ble_eq_true rfl) (dkX11_readings (2, .invokevirtual 308, 3) (pgm 2 rfl)) (fun r1 h2 => ?_) rfl
  refine so_gk (fun hkr1 => ?_)
  refine so_astore_n0 (i := 3) (L' := [(3, .ref r1), (0, .ref this), (1, .int a1), (2, .int a2)]) X (dkX11_readings (5, .astore_n 3, 1) (pgm 3 rfl)) rfl (by decide) rfl ?_
  refine so_aload_n (i := 0) X 1 (dkX11_readings (6, .aload_n 0, 1) (pgm 4 rfl)) rfl rfl ?_
  refine so_iload_n (i := 2) X 3 (dkX11_readings (7, .iload_n 2, 1) (pgm 5 rfl)) rfl rfl ?_
  refine so_iconst (v := (3 : Int32)) X (dkX11_readings (8, .iconst 3, 1) (pgm 6 rfl)) ic_3 ?_
  refine so_callX (n := 2) (As := [.int a2, .int (3 : Int32)]) X hlk htab (ct_X11_checkWhat l hlt this a2 (3 : Int32) h2 hk) hk (by decide) rfl lk_1232 lk_1234 lk_37 lk_121 lk_1235 (by decide +kernel) rfl rfl rfl (rm_okxx (by omega) (by decide)) ⟨Nat.le_of_ble_eq_true rfl, Nat.le_of_ble_eq_true rfl⟩ ⟨Nat.le_of_ble_eq_true rfl, Nat.le_of_ble_eq_true rfl⟩ (Nat.le_of_ble_eq_true rfl) (dkX11_readings (9, .invokevirtual 246, 3) (pgm 7 rfl)) (fun r3 h4 => ?_) rfl
  refine so_aload_n (i := 0) X 1 (dkX11_readings (12, .aload_n 0, 1) (pgm 8 rfl)) rfl rfl ?_
  refine sf_getR X ff_11_10 lk_575 hk (dkX11_readings (13, .getfield 82, 3) (pgm 9 rfl)) ?_
  refine so_aload_n (i := 3) X 0 (dkX11_readings (16, .aload_n 3, 1) (pgm 10 rfl)) rfl rfl ?_
  refine so_callV (n := 1) (As := [.ref r1]) X (ct_X1_take l (rt this 10) r1 h4 (fo (rk_11_10 this hk)) hkr1) (fo (rk_11_10 this hk)) (by decide) rfl lk_1416 lk_1417 lk_1418 lk_131 lk_1419 (by decide +kernel) rfl rfl rfl (rm_okx (by omega) (by decide)) ⟨Nat.le_of_ble_eq_true rfl, Nat.le_of_ble_eq_true rfl⟩ (Nat.le_of_ble_eq_true rfl) (dkX11_readings (17, .invokevirtual 335, 3) (pgm 11 rfl)) (fun r5 h6 => ?_) rfl
  refine so_if_ne (tgt := 34) X (dkX11_readings (20, .ifCond .ne 14, 3) (pgm 12 rfl)) rfl (fun _ => ?_) (fun _ => ?_)
  · refine so_aload_n (i := 0) X 1 (dkX11_readings (34, .aload_n 0, 1) (pgm 18 rfl)) rfl rfl ?_
    refine sf_getR X ff_11_10 lk_575 hk (dkX11_readings (35, .getfield 82, 3) (pgm 19 rfl)) ?_
    refine so_callV (n := 0) (As := []) X (ct_X1_bracket l (rt this 10) h6 (fo (rk_11_10 this hk))) (fo (rk_11_10 this hk)) (by decide) rfl lk_1429 lk_1430 lk_1431 lk_131 lk_1432 (by decide +kernel) rfl rfl rfl (rm_okx (by omega) (by decide)) ⟨Nat.le_of_ble_eq_true rfl, Nat.le_of_ble_eq_true rfl⟩ (Nat.le_of_ble_eq_true rfl) (dkX11_readings (38, .invokevirtual 338, 3) (pgm 20 rfl)) (fun r7 h8 => ?_) rfl
    refine so_iload_n (i := 2) X 3 (dkX11_readings (41, .iload_n 2, 1) (pgm 21 rfl)) rfl rfl ?_
    refine so_iconst (v := (2 : Int32)) X (dkX11_readings (42, .iconst 2, 1) (pgm 22 rfl)) ic_2 ?_
    refine so_icmp_ge (tgt := 68) X (dkX11_readings (43, .if_icmp .ge 25, 3) (pgm 23 rfl)) rfl (fun _ => ?_) (fun _ => ?_)
    · refine so_aload_n (i := 0) X 1 (dkX11_readings (68, .aload_n 0, 1) (pgm 34 rfl)) rfl rfl ?_
      refine sf_getR X ff_11_7 lk_572 hk (dkX11_readings (69, .getfield 57, 3) (pgm 35 rfl)) ?_
      refine so_callV (n := 0) (As := []) X (ct_X2_settled l (rt this 7) h8 (fo (rk_11_7 this hk))) (fo (rk_11_7 this hk)) (by decide) rfl lk_666 lk_667 lk_668 lk_128 lk_669 (by decide +kernel) rfl rfl rfl (rm_okx (by omega) (by decide)) ⟨Nat.le_of_ble_eq_true rfl, Nat.le_of_ble_eq_true rfl⟩ (Nat.le_of_ble_eq_true rfl) (dkX11_readings (72, .invokevirtual 194, 3) (pgm 36 rfl)) (fun r9 h10 => ?_) rfl
      refine so_pop X (dkX11_readings (75, .pop, 1) (pgm 37 rfl)) rfl ?_
      refine so_aload_n (i := 0) X 1 (dkX11_readings (76, .aload_n 0, 1) (pgm 38 rfl)) rfl rfl ?_
      refine sf_getR X ff_11_10 lk_575 hk (dkX11_readings (77, .getfield 82, 3) (pgm 39 rfl)) ?_
      refine so_iload_n (i := 2) X 3 (dkX11_readings (80, .iload_n 2, 1) (pgm 40 rfl)) rfl rfl ?_
      refine so_iconst (v := (2 : Int32)) X (dkX11_readings (81, .iconst 2, 1) (pgm 41 rfl)) ic_2 ?_
      refine so_join (jf := fun (t11 : Int32) (h12 : PH) => cb (f_X1_heldIn (rt this 10) t11 h12) (fun (r13 : Int32) (h14 : PH) => some (.inl r13, h14))) (fun (j : Int32 → PH → Option ((Int32 ⊕ Nat) × PH)) => ∀ (t11 : Int32) (h12 : PH), SWo (QX mkI below args s D cA ad A 3 18) p l e (rmx 7 3 18) s m args below meth c 2 12 4 D cA ad A 90 [] [.int t11, .ref (rt this 10)] h12 (j t11 h12)) ?_ (fun j90 hj90 => ?_)
      · intro t11 h12
        refine so_callV (n := 1) (As := [.int t11]) X (ct_X1_heldIn l (rt this 10) t11 h12 (fo (rk_11_10 this hk))) (fo (rk_11_10 this hk)) (by decide) rfl lk_1450 lk_1451 lk_1452 lk_131 lk_1453 (by decide +kernel) rfl rfl rfl (rm_okx (by omega) (by decide)) ⟨Nat.le_of_ble_eq_true rfl, Nat.le_of_ble_eq_true rfl⟩ (Nat.le_of_ble_eq_true rfl) (dkX11_readings (90, .invokevirtual 347, 3) (pgm 46 rfl)) (fun r13 h14 => ?_) rfl
        exact so_iretX X hr hlk (Nat.le_of_ble_eq_true rfl) (Nat.le_of_ble_eq_true rfl) (dkX11_readings (93, .ireturn, 1) (pgm 47 rfl))
      refine so_icmp_ne (tgt := 89) X (dkX11_readings (82, .if_icmp .ne 7, 3) (pgm 42 rfl)) rfl (fun _ => ?_) (fun _ => ?_)
      · refine so_iconst (v := (0 : Int32)) X (dkX11_readings (89, .iconst 0, 1) (pgm 45 rfl)) ic_0 ?_
        exact so_pick X [] rfl (hj90 (0 : Int32) h10)
      · refine so_iconst (v := (1 : Int32)) X (dkX11_readings (85, .iconst 1, 1) (pgm 43 rfl)) ic_1 ?_
        refine so_goto (tgt := 90) X (dkX11_readings (86, .goto 4, 3) (pgm 44 rfl)) rfl ?_
        exact so_pick X [] rfl (hj90 (1 : Int32) h10)
    · refine so_iload_n (i := 2) X 3 (dkX11_readings (46, .iload_n 2, 1) (pgm 24 rfl)) rfl rfl ?_
      refine so_join (jf := fun (t15 : Int32) (h16 : PH) => some (.inl t15, h16)) (fun (j : Int32 → PH → Option ((Int32 ⊕ Nat) × PH)) => ∀ (t15 : Int32) (h16 : PH), SWo (QX mkI below args s D cA ad A 3 18) p l e (rmx 7 3 18) s m args below meth c 2 12 4 D cA ad A 67 [] [.int t15] h16 (j t15 h16)) ?_ (fun j67 hj67 => ?_)
      · intro t15 h16
        exact so_iretX X hr hlk (Nat.le_of_ble_eq_true rfl) (Nat.le_of_ble_eq_true rfl) (dkX11_readings (67, .ireturn, 1) (pgm 33 rfl))
      refine so_if_ne (tgt := 60) X (dkX11_readings (47, .ifCond .ne 13, 3) (pgm 25 rfl)) rfl (fun _ => ?_) (fun _ => ?_)
      · refine so_aload_n (i := 0) X 1 (dkX11_readings (60, .aload_n 0, 1) (pgm 30 rfl)) rfl rfl ?_
        refine sf_getR X ff_11_10 lk_575 hk (dkX11_readings (61, .getfield 82, 3) (pgm 31 rfl)) ?_
        refine so_callV (n := 0) (As := []) X (ct_X1_unlike l (rt this 10) h8 (fo (rk_11_10 this hk))) (fo (rk_11_10 this hk)) (by decide) rfl lk_1441 lk_1442 lk_1443 lk_131 lk_1444 (by decide +kernel) rfl rfl rfl (rm_okx (by omega) (by decide)) ⟨Nat.le_of_ble_eq_true rfl, Nat.le_of_ble_eq_true rfl⟩ (Nat.le_of_ble_eq_true rfl) (dkX11_readings (64, .invokevirtual 344, 3) (pgm 32 rfl)) (fun r17 h18 => ?_) rfl
        exact so_pick X [] rfl (hj67 r17 h18)
      · refine so_aload_n (i := 0) X 1 (dkX11_readings (50, .aload_n 0, 1) (pgm 26 rfl)) rfl rfl ?_
        refine sf_getR X ff_11_10 lk_575 hk (dkX11_readings (51, .getfield 82, 3) (pgm 27 rfl)) ?_
        refine so_callV (n := 0) (As := []) X (ct_X1_all l (rt this 10) h8 (fo (rk_11_10 this hk))) (fo (rk_11_10 this hk)) (by decide) rfl lk_1437 lk_1438 lk_1439 lk_131 lk_1440 (by decide +kernel) rfl rfl rfl (rm_okx (by omega) (by decide)) ⟨Nat.le_of_ble_eq_true rfl, Nat.le_of_ble_eq_true rfl⟩ (Nat.le_of_ble_eq_true rfl) (dkX11_readings (54, .invokevirtual 341, 3) (pgm 28 rfl)) (fun r19 h20 => ?_) rfl
        refine so_goto (tgt := 67) X (dkX11_readings (57, .goto 10, 3) (pgm 29 rfl)) rfl ?_
        exact so_pick X [] rfl (hj67 r19 h20)
  · exact so_throwSW (n := 41) (tx := "numbers that say nothing") X hlt hlk htab 0 (pgm 41 rfl) lk_779 lk_139 (by decide) at_RX11_120_0 (by decide) (dkX11_readings (23, .new 116, 3) (pgm 13 rfl)) (dkX11_readings (26, .dup, 1) (pgm 14 rfl)) (dkX11_readings (27, .ldc_w 336, 3) (pgm 15 rfl)) (dkX11_readings (30, .invokespecial 120, 3) (pgm 16 rfl)) (dkX11_readings (33, .athrow, 1) (pgm 17 rfl)) (Nat.le_of_ble_eq_true rfl) (Nat.le_of_ble_eq_true rfl) (Nat.le_of_ble_eq_true rfl) (Nat.le_of_ble_eq_true rfl) (Nat.le_of_ble_eq_true rfl) (Nat.le_of_ble_eq_true rfl)
def pgX11_thank : List (Nat × Instr × Nat) := [(0, .aload_n 0, 1), (1, .iload_n 1, 1), (2, .invokevirtual 293, 3), (5, .iload_n 2, 1), (6, .iconst 1, 1), (7, .if_icmp .lt 9, 3), (10, .iload_n 2, 1), (11, .bipush 99, 2), (13, .if_icmp .le 14, 3), (16, .new 116, 3), (19, .dup, 1), (20, .ldc_w 361, 3), (23, .invokespecial 120, 3), (26, .athrow, 1), (27, .aload_n 0, 1), (28, .getfield 39, 3), (31, .invokevirtual 354, 3), (34, .aload_n 0, 1), (35, .getfield 39, 3), (38, .getfield 363, 3), (41, .iload_n 1, 1), (42, .dup2, 1), (43, .iaload, 1), (44, .iload_n 2, 1), (45, .isub, 1), (46, .iastore, 1), (47, .aload_n 0, 1), (48, .getfield 39, 3), (51, .getfield 363, 3), (54, .iload_n 1, 1), (55, .iaload, 1), (56, .ireturn, 1)]
theorem dkX11_thank : ∀ q ∈ pgX11_thank, decode cX11_thank q.1 = .ok q.2 := by decide +kernel
def f_X11_thank (this : Nat) (a1 : Int32) (a2 : Int32) (h0 : PH) : Option ((Int32 ⊕ Nat) × PH) :=
  cbx (f_X11_checkPerson this a1 h0) (fun (r1 : Unit) (h2 : PH) => lt (fun (h3 : PH) => some (.inr 0, h3)) (fun (j16 : PH → Option ((Int32 ⊕ Nat) × PH)) => if a2 < (1 : Int32) then (j16 h2) else (if a2 ≤ (99 : Int32) then (cb (f_X0_remember (rt this 5) h2) (fun (r4 : Unit) (h5 : PH) => ldI h5 (rt (rt this 5) 2) 6 a1 (fun (x6 : Int32) => stI h5 (rt (rt this 5) 2) 6 a1 (x6 - a2) (fun (h7 : PH) => ldI h7 (rt (rt this 5) 2) 6 a1 (fun (x8 : Int32) => some (.inl x8, h7)))))) else (j16 h2))))
set_option maxRecDepth 100000 in
set_option maxHeartbeats 4000000 in
theorem ct_X11_thank (l : Launch) (hlt : l.stackTraces = false) (this : Nat) (a1 : Int32) (a2 : Int32) (h0 : PH) (hk : (kd this).1 = 11) : CTx mkI l yX11_thank cX11_thank 3 (some .int) (rmx 7 2 12) 2 12 [.ref this, .int a1, .int a2] h0 (f_X11_thank this a1 a2 h0) := by
  refine ctx_of (by decide) (Nat.le_of_ble_eq_true rfl) ?_
  intro p e s m args below meth c D cA ad A X hr hlk htab
  have X : Cx p s m args c RX11 cX11_thank 3 D cA ad A := X
  unfold f_X11_thank
  refine so_pick (L' := [(0, .ref this), (1, .int a1), (2, .int a2)]) X [0, 1, 2] rfl ?_
  refine so_aload_n (i := 0) X 0 (dkX11_thank (0, .aload_n 0, 1) (pgm 0 rfl)) rfl rfl ?_
  refine so_iload_n (i := 1) X 1 (dkX11_thank (1, .iload_n 1, 1) (pgm 1 rfl)) rfl rfl ?_
  refine so_callX (n := 1) (As := [.int a1]) X hlk htab (ct_X11_checkPerson l hlt this a1 h0 hk) hk (by decide) rfl lk_1328 lk_1330 lk_40 lk_121 lk_1331 (by decide +kernel) rfl rfl rfl (rm_okxx (by omega) (by decide)) ⟨Nat.le_of_ble_eq_true rfl, Nat.le_of_ble_eq_true rfl⟩ ⟨Nat.le_of_ble_eq_true rfl, Nat.le_of_ble_eq_true rfl⟩ (Nat.le_of_ble_eq_true rfl) (dkX11_thank (2, .invokevirtual 293, 3) (pgm 2 rfl)) (fun r1 h2 => ?_) rfl
  refine so_iload_n (i := 2) X 2 (dkX11_thank (5, .iload_n 2, 1) (pgm 3 rfl)) rfl rfl ?_
  refine so_iconst (v := (1 : Int32)) X (dkX11_thank (6, .iconst 1, 1) (pgm 4 rfl)) ic_1 ?_
  refine so_join (jf := fun (h3 : PH) => some (.inr 0, h3)) (fun (j : PH → Option ((Int32 ⊕ Nat) × PH)) => ∀  (h3 : PH), SWo (QX mkI below args s D cA ad A 2 12) p l e (rmx 7 2 12) s m args below meth c 1 6 3 D cA ad A 16 [] [] h3 (j h3)) ?_ (fun j16 hj16 => ?_)
  · intro h3
    exact so_throwSW (n := 42) (tx := "not so many thanks") X hlt hlk htab 0 (pgm 42 rfl) lk_779 lk_139 (by decide) at_RX11_120_0 (by decide) (dkX11_thank (16, .new 116, 3) (pgm 9 rfl)) (dkX11_thank (19, .dup, 1) (pgm 10 rfl)) (dkX11_thank (20, .ldc_w 361, 3) (pgm 11 rfl)) (dkX11_thank (23, .invokespecial 120, 3) (pgm 12 rfl)) (dkX11_thank (26, .athrow, 1) (pgm 13 rfl)) (Nat.le_of_ble_eq_true rfl) (Nat.le_of_ble_eq_true rfl) (Nat.le_of_ble_eq_true rfl) (Nat.le_of_ble_eq_true rfl) (Nat.le_of_ble_eq_true rfl) (Nat.le_of_ble_eq_true rfl)
  refine so_icmp_lt (tgt := 16) X (dkX11_thank (7, .if_icmp .lt 9, 3) (pgm 5 rfl)) rfl (fun _ => ?_) (fun _ => ?_)
  · exact so_pick X [] rfl (hj16 h2)
  · refine so_iload_n (i := 2) X 2 (dkX11_thank (10, .iload_n 2, 1) (pgm 6 rfl)) rfl rfl ?_
    refine so_bipush (v := (99 : Int32)) X (dkX11_thank (11, .bipush 99, 2) (pgm 7 rfl)) bp_99 ?_
    refine so_icmp_le (tgt := 27) X (dkX11_thank (13, .if_icmp .le 14, 3) (pgm 8 rfl)) rfl (fun _ => ?_) (fun _ => ?_)
    · refine so_aload_n (i := 0) X 0 (dkX11_thank (27, .aload_n 0, 1) (pgm 14 rfl)) rfl rfl ?_
      refine sf_getR X ff_11_5 lk_570 hk (dkX11_thank (28, .getfield 39, 3) (pgm 15 rfl)) ?_
      refine so_callV (n := 0) (As := []) X (ct_X0_remember l (rt this 5) h2 (fo (rk_11_5 this hk))) (fo (rk_11_5 this hk)) (by decide) rfl lk_753 lk_754 lk_755 lk_125 lk_756 (by decide +kernel) rfl rfl rfl (rm_okx (by omega) (by decide)) ⟨Nat.le_of_ble_eq_true rfl, Nat.le_of_ble_eq_true rfl⟩ (Nat.le_of_ble_eq_true rfl) (dkX11_thank (31, .invokevirtual 354, 3) (pgm 16 rfl)) (fun r4 h5 => ?_) rfl
      refine so_aload_n (i := 0) X 0 (dkX11_thank (34, .aload_n 0, 1) (pgm 17 rfl)) rfl rfl ?_
      refine sf_getR X ff_11_5 lk_570 hk (dkX11_thank (35, .getfield 39, 3) (pgm 18 rfl)) ?_
      refine sf_getR X ff_0_2 lk_343 (fo (rk_11_5 this hk)) (dkX11_thank (38, .getfield 363, 3) (pgm 19 rfl)) ?_
      refine so_iload_n (i := 1) X 1 (dkX11_thank (41, .iload_n 1, 1) (pgm 20 rfl)) rfl rfl ?_
      refine so_dup2 X (dkX11_thank (42, .dup2, 1) (pgm 21 rfl)) rfl rfl ?_
      refine so_iald X (rk_0_2 (rt this 5) (fo (rk_11_5 this hk))) (dkX11_thank (43, .iaload, 1) (pgm 22 rfl)) (fun x6 => ?_)
      refine so_iload_n (i := 2) X 2 (dkX11_thank (44, .iload_n 2, 1) (pgm 23 rfl)) rfl rfl ?_
      refine so_isub X (dkX11_thank (45, .isub, 1) (pgm 24 rfl)) ?_
      refine so_iast X (rk_0_2 (rt this 5) (fo (rk_11_5 this hk))) (dkX11_thank (46, .iastore, 1) (pgm 25 rfl)) (fun h7 => ?_)
      refine so_aload_n (i := 0) X 0 (dkX11_thank (47, .aload_n 0, 1) (pgm 26 rfl)) rfl rfl ?_
      refine sf_getR X ff_11_5 lk_570 hk (dkX11_thank (48, .getfield 39, 3) (pgm 27 rfl)) ?_
      refine sf_getR X ff_0_2 lk_343 (fo (rk_11_5 this hk)) (dkX11_thank (51, .getfield 363, 3) (pgm 28 rfl)) ?_
      refine so_iload_n (i := 1) X 1 (dkX11_thank (54, .iload_n 1, 1) (pgm 29 rfl)) rfl rfl ?_
      refine so_iald X (rk_0_2 (rt this 5) (fo (rk_11_5 this hk))) (dkX11_thank (55, .iaload, 1) (pgm 30 rfl)) (fun x8 => ?_)
      exact so_iretX X hr hlk (Nat.le_of_ble_eq_true rfl) (Nat.le_of_ble_eq_true rfl) (dkX11_thank (56, .ireturn, 1) (pgm 31 rfl))
    · exact so_pick X [] rfl (hj16 h2)
def pgX11_owes : List (Nat × Instr × Nat) := [(0, .aload_n 0, 1), (1, .iload_n 1, 1), (2, .invokevirtual 293, 3), (5, .aload_n 0, 1), (6, .getfield 39, 3), (9, .getfield 363, 3), (12, .iload_n 1, 1), (13, .iaload, 1), (14, .ireturn, 1)]
theorem dkX11_owes : ∀ q ∈ pgX11_owes, decode cX11_owes q.1 = .ok q.2 := by decide +kernel
def f_X11_owes (this : Nat) (a1 : Int32) (h0 : PH) : Option ((Int32 ⊕ Nat) × PH) :=
  cbx (f_X11_checkPerson this a1 h0) (fun (r1 : Unit) (h2 : PH) => ldI h2 (rt (rt this 5) 2) 6 a1 (fun (x3 : Int32) => some (.inl x3, h2)))
set_option maxRecDepth 100000 in
set_option maxHeartbeats 4000000 in
theorem ct_X11_owes (l : Launch) (hlt : l.stackTraces = false) (this : Nat) (a1 : Int32) (h0 : PH) (hk : (kd this).1 = 11) : CTx mkI l yX11_owes cX11_owes 2 (some .int) (rmx 7 1 6) 1 6 [.ref this, .int a1] h0 (f_X11_owes this a1 h0) := by
  refine ctx_of (by decide) (Nat.le_of_ble_eq_true rfl) ?_
  intro p e s m args below meth c D cA ad A X hr hlk htab
  have X : Cx p s m args c RX11 cX11_owes 2 D cA ad A := X
  unfold f_X11_owes
  refine so_pick (L' := [(0, .ref this), (1, .int a1)]) X [0, 1] rfl ?_
  refine so_aload_n (i := 0) X 0 (dkX11_owes (0, .aload_n 0, 1) (pgm 0 rfl)) rfl rfl ?_
  refine so_iload_n (i := 1) X 1 (dkX11_owes (1, .iload_n 1, 1) (pgm 1 rfl)) rfl rfl ?_
  refine so_callX (n := 1) (As := [.int a1]) X hlk htab (ct_X11_checkPerson l hlt this a1 h0 hk) hk (by decide) rfl lk_1328 lk_1330 lk_40 lk_121 lk_1331 (by decide +kernel) rfl rfl rfl (rm_okxx (by omega) (by decide)) ⟨Nat.le_of_ble_eq_true rfl, Nat.le_of_ble_eq_true rfl⟩ ⟨Nat.le_of_ble_eq_true rfl, Nat.le_of_ble_eq_true rfl⟩ (Nat.le_of_ble_eq_true rfl) (dkX11_owes (2, .invokevirtual 293, 3) (pgm 2 rfl)) (fun r1 h2 => ?_) rfl
  refine so_aload_n (i := 0) X 0 (dkX11_owes (5, .aload_n 0, 1) (pgm 3 rfl)) rfl rfl ?_
  refine sf_getR X ff_11_5 lk_570 hk (dkX11_owes (6, .getfield 39, 3) (pgm 4 rfl)) ?_
  refine sf_getR X ff_0_2 lk_343 (fo (rk_11_5 this hk)) (dkX11_owes (9, .getfield 363, 3) (pgm 5 rfl)) ?_
  refine so_iload_n (i := 1) X 1 (dkX11_owes (12, .iload_n 1, 1) (pgm 6 rfl)) rfl rfl ?_
  refine so_iald X (rk_0_2 (rt this 5) (fo (rk_11_5 this hk))) (dkX11_owes (13, .iaload, 1) (pgm 7 rfl)) (fun x3 => ?_)
  exact so_iretX X hr hlk (Nat.le_of_ble_eq_true rfl) (Nat.le_of_ble_eq_true rfl) (dkX11_owes (14, .ireturn, 1) (pgm 8 rfl))
def pgX11_withdraw : List (Nat × Instr × Nat) := [(0, .aload_n 0, 1), (1, .iload_n 1, 1), (2, .invokevirtual 152, 3), (5, .aload_n 0, 1), (6, .getfield 39, 3), (9, .getfield 165, 3), (12, .iload_n 1, 1), (13, .ishr, 1), (14, .iconst 1, 1), (15, .iand, 1), (16, .ifCond .ne 13, 3), (19, .new 226, 3), (22, .dup, 1), (23, .ldc 206, 2), (25, .invokespecial 230, 3), (28, .athrow, 1), (29, .aload_n 0, 1), (30, .getfield 39, 3), (33, .invokevirtual 354, 3), (36, .aload_n 0, 1), (37, .getfield 39, 3), (40, .dup, 1), (41, .getfield 165, 3), (44, .iconst 1, 1), (45, .iload_n 1, 1), (46, .ishl, 1), (47, .iconst (-1), 1), (48, .ixor, 1), (49, .iand, 1), (50, .putfield 165, 3), (53, .aload_n 0, 1), (54, .getfield 39, 3), (57, .getfield 165, 3), (60, .invokestatic 263, 3), (63, .ireturn, 1)]
theorem dkX11_withdraw : ∀ q ∈ pgX11_withdraw, decode cX11_withdraw q.1 = .ok q.2 := by decide +kernel
def f_X11_withdraw (this : Nat) (a1 : Int32) (h0 : PH) : Option ((Int32 ⊕ Nat) × PH) :=
  cbx (f_X11_checkWish this a1 h0) (fun (r1 : Unit) (h2 : PH) => if (((h2.1 (rt this 5) 0) >>> (a1 &&& 31)) &&& (1 : Int32)) = 0 then (some (.inr 2, h2)) else (cb (f_X0_remember (rt this 5) h2) (fun (r3 : Unit) (h4 : PH) => lt (pI h4 (rt this 5) 0 ((h4.1 (rt this 5) 0) &&& (((1 : Int32) <<< (a1 &&& 31)) ^^^ (-1 : Int32)))) (fun (h5 : PH) => cb (f_J6_bitCount_0f7a4 (h5.1 (rt this 5) 0) h5) (fun (r6 : Int32) (h7 : PH) => some (.inl r6, h7))))))
set_option maxRecDepth 100000 in
set_option maxHeartbeats 4000000 in
theorem ct_X11_withdraw (l : Launch) (hlt : l.stackTraces = false) (this : Nat) (a1 : Int32) (h0 : PH) (hk : (kd this).1 = 11) : CTx mkI l yX11_withdraw cX11_withdraw 2 (some .int) (rmx 7 2 12) 2 12 [.ref this, .int a1] h0 (f_X11_withdraw this a1 h0) := by
  refine ctx_of (by decide) (Nat.le_of_ble_eq_true rfl) ?_
  intro p e s m args below meth c D cA ad A X hr hlk htab
  have X : Cx p s m args c RX11 cX11_withdraw 2 D cA ad A := X
  unfold f_X11_withdraw
  refine so_pick (L' := [(0, .ref this), (1, .int a1)]) X [0, 1] rfl ?_
  refine so_aload_n (i := 0) X 0 (dkX11_withdraw (0, .aload_n 0, 1) (pgm 0 rfl)) rfl rfl ?_
  refine so_iload_n (i := 1) X 1 (dkX11_withdraw (1, .iload_n 1, 1) (pgm 1 rfl)) rfl rfl ?_
  refine so_callX (n := 1) (As := [.int a1]) X hlk htab (ct_X11_checkWish l hlt this a1 h0 hk) hk (by decide) rfl lk_1132 lk_1134 lk_33 lk_121 lk_1135 (by decide +kernel) rfl rfl rfl (rm_okxx (by omega) (by decide)) ⟨Nat.le_of_ble_eq_true rfl, Nat.le_of_ble_eq_true rfl⟩ ⟨Nat.le_of_ble_eq_true rfl, Nat.le_of_ble_eq_true rfl⟩ (Nat.le_of_ble_eq_true rfl) (dkX11_withdraw (2, .invokevirtual 152, 3) (pgm 2 rfl)) (fun r1 h2 => ?_) rfl
  refine so_aload_n (i := 0) X 0 (dkX11_withdraw (5, .aload_n 0, 1) (pgm 3 rfl)) rfl rfl ?_
  refine sf_getR X ff_11_5 lk_570 hk (dkX11_withdraw (6, .getfield 39, 3) (pgm 4 rfl)) ?_
  refine sf_getI X ff_0_0 lk_338 (fo (rk_11_5 this hk)) (dkX11_withdraw (9, .getfield 165, 3) (pgm 5 rfl)) ?_
  refine so_iload_n (i := 1) X 1 (dkX11_withdraw (12, .iload_n 1, 1) (pgm 6 rfl)) rfl rfl ?_
  refine so_ishr X (dkX11_withdraw (13, .ishr, 1) (pgm 7 rfl)) ?_
  refine so_iconst (v := (1 : Int32)) X (dkX11_withdraw (14, .iconst 1, 1) (pgm 8 rfl)) ic_1 ?_
  refine so_iand X (dkX11_withdraw (15, .iand, 1) (pgm 9 rfl)) ?_
  refine so_if_ne (tgt := 29) X (dkX11_withdraw (16, .ifCond .ne 13, 3) (pgm 10 rfl)) rfl (fun _ => ?_) (fun _ => ?_)
  · refine so_aload_n (i := 0) X 0 (dkX11_withdraw (29, .aload_n 0, 1) (pgm 16 rfl)) rfl rfl ?_
    refine sf_getR X ff_11_5 lk_570 hk (dkX11_withdraw (30, .getfield 39, 3) (pgm 17 rfl)) ?_
    refine so_callV (n := 0) (As := []) X (ct_X0_remember l (rt this 5) h2 (fo (rk_11_5 this hk))) (fo (rk_11_5 this hk)) (by decide) rfl lk_753 lk_754 lk_755 lk_125 lk_756 (by decide +kernel) rfl rfl rfl (rm_okx (by omega) (by decide)) ⟨Nat.le_of_ble_eq_true rfl, Nat.le_of_ble_eq_true rfl⟩ (Nat.le_of_ble_eq_true rfl) (dkX11_withdraw (33, .invokevirtual 354, 3) (pgm 18 rfl)) (fun r3 h4 => ?_) rfl
    refine so_aload_n (i := 0) X 0 (dkX11_withdraw (36, .aload_n 0, 1) (pgm 19 rfl)) rfl rfl ?_
    refine sf_getR X ff_11_5 lk_570 hk (dkX11_withdraw (37, .getfield 39, 3) (pgm 20 rfl)) ?_
    refine so_dup X (dkX11_withdraw (40, .dup, 1) (pgm 21 rfl)) rfl ?_
    refine sf_getI X ff_0_0 lk_338 (fo (rk_11_5 this hk)) (dkX11_withdraw (41, .getfield 165, 3) (pgm 22 rfl)) ?_
    refine so_iconst (v := (1 : Int32)) X (dkX11_withdraw (44, .iconst 1, 1) (pgm 23 rfl)) ic_1 ?_
    refine so_iload_n (i := 1) X 1 (dkX11_withdraw (45, .iload_n 1, 1) (pgm 24 rfl)) rfl rfl ?_
    refine so_ishl X (dkX11_withdraw (46, .ishl, 1) (pgm 25 rfl)) ?_
    refine so_iconst (v := (-1 : Int32)) X (dkX11_withdraw (47, .iconst (-1), 1) (pgm 26 rfl)) ic_m1 ?_
    refine so_ixor X (dkX11_withdraw (48, .ixor, 1) (pgm 27 rfl)) ?_
    refine so_iand X (dkX11_withdraw (49, .iand, 1) (pgm 28 rfl)) ?_
    refine sf_putI X ff_0_0 ft_0 rfl lk_338 (fo (rk_11_5 this hk)) rfl rfl (dkX11_withdraw (50, .putfield 165, 3) (pgm 29 rfl)) (fun h5 => ?_)
    refine so_aload_n (i := 0) X 0 (dkX11_withdraw (53, .aload_n 0, 1) (pgm 30 rfl)) rfl rfl ?_
    refine sf_getR X ff_11_5 lk_570 hk (dkX11_withdraw (54, .getfield 39, 3) (pgm 31 rfl)) ?_
    refine sf_getI X ff_0_0 lk_338 (fo (rk_11_5 this hk)) (dkX11_withdraw (57, .getfield 165, 3) (pgm 32 rfl)) ?_
    refine so_callS (n := 1) (As := [.int (h5.1 (rt this 5) 0)]) X (ct_J6_bitCount_0f7a4 l (h5.1 (rt this 5) 0) h5 ) lk_766 lk_635 lk_147 lk_636 (by decide +kernel) rfl rfl rfl (rm_okx (by omega) (by decide)) ⟨Nat.le_of_ble_eq_true rfl, Nat.le_of_ble_eq_true rfl⟩ (Nat.le_of_ble_eq_true rfl) (dkX11_withdraw (60, .invokestatic 263, 3) (pgm 33 rfl)) (fun r6 h7 => ?_) rfl
    exact so_iretX X hr hlk (Nat.le_of_ble_eq_true rfl) (Nat.le_of_ble_eq_true rfl) (dkX11_withdraw (63, .ireturn, 1) (pgm 34 rfl))
  · exact so_throwS (n := 32) (tx := "the wish is not open") X hlt hlk htab 2 (pgm 32 rfl) lk_1367 lk_148 (by decide) at_RX11_230_2 (by decide) (dkX11_withdraw (19, .new 226, 3) (pgm 11 rfl)) (dkX11_withdraw (22, .dup, 1) (pgm 12 rfl)) (dkX11_withdraw (23, .ldc 206, 2) (pgm 13 rfl)) (dkX11_withdraw (25, .invokespecial 230, 3) (pgm 14 rfl)) (dkX11_withdraw (28, .athrow, 1) (pgm 15 rfl)) (Nat.le_of_ble_eq_true rfl) (Nat.le_of_ble_eq_true rfl) (Nat.le_of_ble_eq_true rfl) (Nat.le_of_ble_eq_true rfl) (Nat.le_of_ble_eq_true rfl) (Nat.le_of_ble_eq_true rfl)
def pgX11_again : List (Nat × Instr × Nat) := [(0, .aload_n 0, 1), (1, .iload_n 1, 1), (2, .invokevirtual 152, 3), (5, .aload_n 0, 1), (6, .getfield 39, 3), (9, .getfield 165, 3), (12, .iload_n 1, 1), (13, .ishr, 1), (14, .iconst 1, 1), (15, .iand, 1), (16, .iconst 1, 1), (17, .if_icmp .ne 14, 3), (20, .new 226, 3), (23, .dup, 1), (24, .ldc_w 366, 3), (27, .invokespecial 230, 3), (30, .athrow, 1), (31, .aload_n 0, 1), (32, .getfield 39, 3), (35, .invokevirtual 354, 3), (38, .aload_n 0, 1), (39, .getfield 39, 3), (42, .dup, 1), (43, .getfield 165, 3), (46, .iconst 1, 1), (47, .iload_n 1, 1), (48, .ishl, 1), (49, .ior, 1), (50, .putfield 165, 3), (53, .aload_n 0, 1), (54, .getfield 39, 3), (57, .getfield 168, 3), (60, .iload_n 1, 1), (61, .iconst 0, 1), (62, .iastore, 1), (63, .aload_n 0, 1), (64, .getfield 39, 3), (67, .getfield 165, 3), (70, .invokestatic 263, 3), (73, .ireturn, 1)]
theorem dkX11_again : ∀ q ∈ pgX11_again, decode cX11_again q.1 = .ok q.2 := by decide +kernel
def f_X11_again (this : Nat) (a1 : Int32) (h0 : PH) : Option ((Int32 ⊕ Nat) × PH) :=
  cbx (f_X11_checkWish this a1 h0) (fun (r1 : Unit) (h2 : PH) => if (((h2.1 (rt this 5) 0) >>> (a1 &&& 31)) &&& (1 : Int32)) = (1 : Int32) then (some (.inr 2, h2)) else (cb (f_X0_remember (rt this 5) h2) (fun (r3 : Unit) (h4 : PH) => lt (pI h4 (rt this 5) 0 ((h4.1 (rt this 5) 0) ||| ((1 : Int32) <<< (a1 &&& 31)))) (fun (h5 : PH) => stI h5 (rt (rt this 5) 1) 10 a1 (0 : Int32) (fun (h6 : PH) => cb (f_J6_bitCount_0f7a4 (h6.1 (rt this 5) 0) h6) (fun (r7 : Int32) (h8 : PH) => some (.inl r7, h8)))))))
set_option maxRecDepth 100000 in
set_option maxHeartbeats 4000000 in
theorem ct_X11_again (l : Launch) (hlt : l.stackTraces = false) (this : Nat) (a1 : Int32) (h0 : PH) (hk : (kd this).1 = 11) : CTx mkI l yX11_again cX11_again 2 (some .int) (rmx 7 2 12) 2 12 [.ref this, .int a1] h0 (f_X11_again this a1 h0) := by
  refine ctx_of (by decide) (Nat.le_of_ble_eq_true rfl) ?_
  intro p e s m args below meth c D cA ad A X hr hlk htab
  have X : Cx p s m args c RX11 cX11_again 2 D cA ad A := X
  unfold f_X11_again
  refine so_pick (L' := [(0, .ref this), (1, .int a1)]) X [0, 1] rfl ?_
  refine so_aload_n (i := 0) X 0 (dkX11_again (0, .aload_n 0, 1) (pgm 0 rfl)) rfl rfl ?_
  refine so_iload_n (i := 1) X 1 (dkX11_again (1, .iload_n 1, 1) (pgm 1 rfl)) rfl rfl ?_
  refine so_callX (n := 1) (As := [.int a1]) X hlk htab (ct_X11_checkWish l hlt this a1 h0 hk) hk (by decide) rfl lk_1132 lk_1134 lk_33 lk_121 lk_1135 (by decide +kernel) rfl rfl rfl (rm_okxx (by omega) (by decide)) ⟨Nat.le_of_ble_eq_true rfl, Nat.le_of_ble_eq_true rfl⟩ ⟨Nat.le_of_ble_eq_true rfl, Nat.le_of_ble_eq_true rfl⟩ (Nat.le_of_ble_eq_true rfl) (dkX11_again (2, .invokevirtual 152, 3) (pgm 2 rfl)) (fun r1 h2 => ?_) rfl
  refine so_aload_n (i := 0) X 0 (dkX11_again (5, .aload_n 0, 1) (pgm 3 rfl)) rfl rfl ?_
  refine sf_getR X ff_11_5 lk_570 hk (dkX11_again (6, .getfield 39, 3) (pgm 4 rfl)) ?_
  refine sf_getI X ff_0_0 lk_338 (fo (rk_11_5 this hk)) (dkX11_again (9, .getfield 165, 3) (pgm 5 rfl)) ?_
  refine so_iload_n (i := 1) X 1 (dkX11_again (12, .iload_n 1, 1) (pgm 6 rfl)) rfl rfl ?_
  refine so_ishr X (dkX11_again (13, .ishr, 1) (pgm 7 rfl)) ?_
  refine so_iconst (v := (1 : Int32)) X (dkX11_again (14, .iconst 1, 1) (pgm 8 rfl)) ic_1 ?_
  refine so_iand X (dkX11_again (15, .iand, 1) (pgm 9 rfl)) ?_
  refine so_iconst (v := (1 : Int32)) X (dkX11_again (16, .iconst 1, 1) (pgm 10 rfl)) ic_1 ?_
  refine so_icmp_ne (tgt := 31) X (dkX11_again (17, .if_icmp .ne 14, 3) (pgm 11 rfl)) rfl (fun _ => ?_) (fun _ => ?_)
  · refine so_aload_n (i := 0) X 0 (dkX11_again (31, .aload_n 0, 1) (pgm 17 rfl)) rfl rfl ?_
    refine sf_getR X ff_11_5 lk_570 hk (dkX11_again (32, .getfield 39, 3) (pgm 18 rfl)) ?_
    refine so_callV (n := 0) (As := []) X (ct_X0_remember l (rt this 5) h2 (fo (rk_11_5 this hk))) (fo (rk_11_5 this hk)) (by decide) rfl lk_753 lk_754 lk_755 lk_125 lk_756 (by decide +kernel) rfl rfl rfl (rm_okx (by omega) (by decide)) ⟨Nat.le_of_ble_eq_true rfl, Nat.le_of_ble_eq_true rfl⟩ (Nat.le_of_ble_eq_true rfl) (dkX11_again (35, .invokevirtual 354, 3) (pgm 19 rfl)) (fun r3 h4 => ?_) rfl
    refine so_aload_n (i := 0) X 0 (dkX11_again (38, .aload_n 0, 1) (pgm 20 rfl)) rfl rfl ?_
    refine sf_getR X ff_11_5 lk_570 hk (dkX11_again (39, .getfield 39, 3) (pgm 21 rfl)) ?_
    refine so_dup X (dkX11_again (42, .dup, 1) (pgm 22 rfl)) rfl ?_
    refine sf_getI X ff_0_0 lk_338 (fo (rk_11_5 this hk)) (dkX11_again (43, .getfield 165, 3) (pgm 23 rfl)) ?_
    refine so_iconst (v := (1 : Int32)) X (dkX11_again (46, .iconst 1, 1) (pgm 24 rfl)) ic_1 ?_
    refine so_iload_n (i := 1) X 1 (dkX11_again (47, .iload_n 1, 1) (pgm 25 rfl)) rfl rfl ?_
    refine so_ishl X (dkX11_again (48, .ishl, 1) (pgm 26 rfl)) ?_
    refine so_ior X (dkX11_again (49, .ior, 1) (pgm 27 rfl)) ?_
    refine sf_putI X ff_0_0 ft_0 rfl lk_338 (fo (rk_11_5 this hk)) rfl rfl (dkX11_again (50, .putfield 165, 3) (pgm 28 rfl)) (fun h5 => ?_)
    refine so_aload_n (i := 0) X 0 (dkX11_again (53, .aload_n 0, 1) (pgm 29 rfl)) rfl rfl ?_
    refine sf_getR X ff_11_5 lk_570 hk (dkX11_again (54, .getfield 39, 3) (pgm 30 rfl)) ?_
    refine sf_getR X ff_0_1 lk_341 (fo (rk_11_5 this hk)) (dkX11_again (57, .getfield 168, 3) (pgm 31 rfl)) ?_
    refine so_iload_n (i := 1) X 1 (dkX11_again (60, .iload_n 1, 1) (pgm 32 rfl)) rfl rfl ?_
    refine so_iconst (v := (0 : Int32)) X (dkX11_again (61, .iconst 0, 1) (pgm 33 rfl)) ic_0 ?_
    refine so_iast X (rk_0_1 (rt this 5) (fo (rk_11_5 this hk))) (dkX11_again (62, .iastore, 1) (pgm 34 rfl)) (fun h6 => ?_)
    refine so_aload_n (i := 0) X 0 (dkX11_again (63, .aload_n 0, 1) (pgm 35 rfl)) rfl rfl ?_
    refine sf_getR X ff_11_5 lk_570 hk (dkX11_again (64, .getfield 39, 3) (pgm 36 rfl)) ?_
    refine sf_getI X ff_0_0 lk_338 (fo (rk_11_5 this hk)) (dkX11_again (67, .getfield 165, 3) (pgm 37 rfl)) ?_
    refine so_callS (n := 1) (As := [.int (h6.1 (rt this 5) 0)]) X (ct_J6_bitCount_0f7a4 l (h6.1 (rt this 5) 0) h6 ) lk_766 lk_635 lk_147 lk_636 (by decide +kernel) rfl rfl rfl (rm_okx (by omega) (by decide)) ⟨Nat.le_of_ble_eq_true rfl, Nat.le_of_ble_eq_true rfl⟩ (Nat.le_of_ble_eq_true rfl) (dkX11_again (70, .invokestatic 263, 3) (pgm 38 rfl)) (fun r7 h8 => ?_) rfl
    exact so_iretX X hr hlk (Nat.le_of_ble_eq_true rfl) (Nat.le_of_ble_eq_true rfl) (dkX11_again (73, .ireturn, 1) (pgm 39 rfl))
  · exact so_throwSW (n := 43) (tx := "the wish is open") X hlt hlk htab 2 (pgm 43 rfl) lk_1367 lk_148 (by decide) at_RX11_230_2 (by decide) (dkX11_again (20, .new 226, 3) (pgm 12 rfl)) (dkX11_again (23, .dup, 1) (pgm 13 rfl)) (dkX11_again (24, .ldc_w 366, 3) (pgm 14 rfl)) (dkX11_again (27, .invokespecial 230, 3) (pgm 15 rfl)) (dkX11_again (30, .athrow, 1) (pgm 16 rfl)) (Nat.le_of_ble_eq_true rfl) (Nat.le_of_ble_eq_true rfl) (Nat.le_of_ble_eq_true rfl) (Nat.le_of_ble_eq_true rfl) (Nat.le_of_ble_eq_true rfl) (Nat.le_of_ble_eq_true rfl)
def pgX11_undo : List (Nat × Instr × Nat) := [(0, .iload_n 1, 1), (1, .iconst 1, 1), (2, .if_icmp .lt 14, 3), (5, .iload_n 1, 1), (6, .aload_n 0, 1), (7, .getfield 39, 3), (10, .getfield 368, 3), (13, .if_icmp .le 14, 3), (16, .new 116, 3), (19, .dup, 1), (20, .ldc_w 371, 3), (23, .invokespecial 120, 3), (26, .athrow, 1), (27, .aload_n 0, 1), (28, .getfield 39, 3), (31, .iload_n 1, 1), (32, .invokevirtual 373, 3), (35, .aload_n 0, 1), (36, .getfield 39, 3), (39, .getfield 368, 3), (42, .ireturn, 1)]
theorem dkX11_undo : ∀ q ∈ pgX11_undo, decode cX11_undo q.1 = .ok q.2 := by decide +kernel
def f_X11_undo (this : Nat) (a1 : Int32) (h0 : PH) : Option ((Int32 ⊕ Nat) × PH) :=
  lt (fun (h1 : PH) => some (.inr 0, h1)) (fun (j16 : PH → Option ((Int32 ⊕ Nat) × PH)) => if a1 < (1 : Int32) then (j16 h0) else (if a1 ≤ (h0.1 (rt this 5) 3) then (cb (f_X0_takeBack (rt this 5) a1 h0) (fun (r2 : Unit) (h3 : PH) => some (.inl (h3.1 (rt this 5) 3), h3))) else (j16 h0)))
set_option maxRecDepth 100000 in
set_option maxHeartbeats 4000000 in
theorem ct_X11_undo (l : Launch) (hlt : l.stackTraces = false) (this : Nat) (a1 : Int32) (h0 : PH) (hk : (kd this).1 = 11) : CTx mkI l yX11_undo cX11_undo 2 (some .int) (rmx 6 1 6) 1 6 [.ref this, .int a1] h0 (f_X11_undo this a1 h0) := by
  refine ctx_of (by decide) (Nat.le_of_ble_eq_true rfl) ?_
  intro p e s m args below meth c D cA ad A X hr hlk htab
  have X : Cx p s m args c RX11 cX11_undo 2 D cA ad A := X
  unfold f_X11_undo
  refine so_pick (L' := [(0, .ref this), (1, .int a1)]) X [0, 1] rfl ?_
  refine so_iload_n (i := 1) X 1 (dkX11_undo (0, .iload_n 1, 1) (pgm 0 rfl)) rfl rfl ?_
  refine so_iconst (v := (1 : Int32)) X (dkX11_undo (1, .iconst 1, 1) (pgm 1 rfl)) ic_1 ?_
  refine so_join (jf := fun (h1 : PH) => some (.inr 0, h1)) (fun (j : PH → Option ((Int32 ⊕ Nat) × PH)) => ∀  (h1 : PH), SWo (QX mkI below args s D cA ad A 1 6) p l e (rmx 6 1 6) s m args below meth c 0 0 2 D cA ad A 16 [] [] h1 (j h1)) ?_ (fun j16 hj16 => ?_)
  · intro h1
    exact so_throwSW (n := 44) (tx := "not so many deeds") X hlt hlk htab 0 (pgm 44 rfl) lk_779 lk_139 (by decide) at_RX11_120_0 (by decide) (dkX11_undo (16, .new 116, 3) (pgm 8 rfl)) (dkX11_undo (19, .dup, 1) (pgm 9 rfl)) (dkX11_undo (20, .ldc_w 371, 3) (pgm 10 rfl)) (dkX11_undo (23, .invokespecial 120, 3) (pgm 11 rfl)) (dkX11_undo (26, .athrow, 1) (pgm 12 rfl)) (Nat.le_of_ble_eq_true rfl) (Nat.le_of_ble_eq_true rfl) (Nat.le_of_ble_eq_true rfl) (Nat.le_of_ble_eq_true rfl) (Nat.le_of_ble_eq_true rfl) (Nat.le_of_ble_eq_true rfl)
  refine so_icmp_lt (tgt := 16) X (dkX11_undo (2, .if_icmp .lt 14, 3) (pgm 2 rfl)) rfl (fun _ => ?_) (fun _ => ?_)
  · exact so_pick X [] rfl (hj16 h0)
  · refine so_iload_n (i := 1) X 1 (dkX11_undo (5, .iload_n 1, 1) (pgm 3 rfl)) rfl rfl ?_
    refine so_aload_n (i := 0) X 0 (dkX11_undo (6, .aload_n 0, 1) (pgm 4 rfl)) rfl rfl ?_
    refine sf_getR X ff_11_5 lk_570 hk (dkX11_undo (7, .getfield 39, 3) (pgm 5 rfl)) ?_
    refine sf_getI X ff_0_3 lk_345 (fo (rk_11_5 this hk)) (dkX11_undo (10, .getfield 368, 3) (pgm 6 rfl)) ?_
    refine so_icmp_le (tgt := 27) X (dkX11_undo (13, .if_icmp .le 14, 3) (pgm 7 rfl)) rfl (fun _ => ?_) (fun _ => ?_)
    · refine so_aload_n (i := 0) X 0 (dkX11_undo (27, .aload_n 0, 1) (pgm 13 rfl)) rfl rfl ?_
      refine sf_getR X ff_11_5 lk_570 hk (dkX11_undo (28, .getfield 39, 3) (pgm 14 rfl)) ?_
      refine so_iload_n (i := 1) X 1 (dkX11_undo (31, .iload_n 1, 1) (pgm 15 rfl)) rfl rfl ?_
      refine so_callV (n := 1) (As := [.int a1]) X (ct_X0_takeBack l (rt this 5) a1 h0 (fo (rk_11_5 this hk))) (fo (rk_11_5 this hk)) (by decide) rfl lk_1504 lk_1505 lk_1506 lk_125 lk_1507 (by decide +kernel) rfl rfl rfl (rm_okx (by omega) (by decide)) ⟨Nat.le_of_ble_eq_true rfl, Nat.le_of_ble_eq_true rfl⟩ (Nat.le_of_ble_eq_true rfl) (dkX11_undo (32, .invokevirtual 373, 3) (pgm 16 rfl)) (fun r2 h3 => ?_) rfl
      refine so_aload_n (i := 0) X 0 (dkX11_undo (35, .aload_n 0, 1) (pgm 17 rfl)) rfl rfl ?_
      refine sf_getR X ff_11_5 lk_570 hk (dkX11_undo (36, .getfield 39, 3) (pgm 18 rfl)) ?_
      refine sf_getI X ff_0_3 lk_345 (fo (rk_11_5 this hk)) (dkX11_undo (39, .getfield 368, 3) (pgm 19 rfl)) ?_
      exact so_iretX X hr hlk (Nat.le_of_ble_eq_true rfl) (Nat.le_of_ble_eq_true rfl) (dkX11_undo (42, .ireturn, 1) (pgm 20 rfl))
    · exact so_pick X [] rfl (hj16 h0)
def pgX11_judge : List (Nat × Instr × Nat) := [(0, .aload_n 0, 1), (1, .iload_n 1, 1), (2, .invokevirtual 308, 3), (5, .astore_n 3, 1), (6, .aload_n 0, 1), (7, .iload_n 2, 1), (8, .iconst 3, 1), (9, .invokevirtual 246, 3), (12, .aload_n 0, 1), (13, .getfield 39, 3), (16, .getfield 165, 3), (19, .istore 4, 2), (21, .iconst 0, 1), (22, .istore 5, 2), (24, .iconst 0, 1), (25, .istore 6, 2), (27, .iconst 0, 1), (28, .istore 7, 2), (30, .iload 6, 2), (32, .aload_n 3, 1), (33, .getfield 223, 3), (36, .if_icmp .ge 79, 3), (39, .iload 7, 2), (41, .ifCond .ne 74, 3), (44, .aload_n 0, 1), (45, .getfield 48, 3), (48, .aload_n 3, 1), (49, .getfield 376, 3), (52, .iload 6, 2), (54, .laload, 1), (55, .iload 4, 2), (57, .invokevirtual 186, 3), (60, .istore 7, 2), (62, .iload 7, 2), (64, .ifCond .ne (-34), 3), (67, .aload_n 0, 1), (68, .getfield 48, 3), (71, .aload_n 3, 1), (72, .getfield 376, 3), (75, .iload 6, 2), (77, .laload, 1), (78, .l2i, 1), (79, .iload 4, 2), (81, .invokevirtual 190, 3), (84, .istore 8, 2), (86, .iload 5, 2), (88, .aload_n 0, 1), (89, .getfield 20, 3), (92, .iload 8, 2), (94, .invokevirtual 254, 3), (97, .iadd, 1), (98, .istore 5, 2), (100, .iload 4, 2), (102, .iload 8, 2), (104, .iconst (-1), 1), (105, .ixor, 1), (106, .iand, 1), (107, .istore 4, 2), (109, .iinc 6 1, 3), (112, .goto (-82), 3), (115, .iload_n 2, 1), (116, .tableswitch 46 0 2 #[28, 40, 43], 28), (144, .iload 7, 2), (146, .ifCond .ne 7, 3), (149, .iconst (-1), 1), (150, .goto 5, 3), (153, .iload 6, 2), (155, .ireturn, 1), (156, .iload 7, 2), (158, .ireturn, 1), (159, .iload 5, 2), (161, .ireturn, 1), (162, .iload 4, 2), (164, .invokestatic 263, 3), (167, .ireturn, 1)]
theorem dkX11_judge : ∀ q ∈ pgX11_judge, decode cX11_judge q.1 = .ok q.2 := by decide +kernel
def b_X11_judge_30 (this : Nat) (r1 : Nat) (j115 : Int32 → Int32 → Int32 → Int32 → PH → Option ((Int32 ⊕ Nat) × PH)) (rec30 : (Int32 × Int32 × Int32 × Int32) → PH → Option ((Int32 ⊕ Nat) × PH)) (s30 : Int32 × Int32 × Int32 × Int32) (hh30 : PH) : Option ((Int32 ⊕ Nat) × PH) :=
  if (hh30.1 r1 1) ≤ s30.2.2.1 then (j115 s30.1 s30.2.1 s30.2.2.1 s30.2.2.2 hh30) else (if s30.2.2.2 = 0 then (ldL hh30 (rt r1 2) 30 s30.2.2.1 (fun (x18 : Int64) => cb (f_X3_whyNot (rt this 6) x18 s30.1 hh30) (fun (r19 : Int32) (h20 : PH) => lt r19 (fun (x21 : Int32) => if x21 = 0 then (ldL h20 (rt r1 2) 30 s30.2.2.1 (fun (x22 : Int64) => cb (f_X3_grantedBy (rt this 6) x22.toInt32 s30.1 h20) (fun (r23 : Int32) (h24 : PH) => lt r23 (fun (x25 : Int32) => cb (f_X8_weightOf (rt this 2) x25 h24) (fun (r26 : Int32) (h27 : PH) => lt (s30.2.1 + r26) (fun (x28 : Int32) => lt (s30.1 &&& (x25 ^^^ (-1 : Int32))) (fun (x29 : Int32) => lt (s30.2.2.1 + Int32.ofInt 1) (fun (x30 : Int32) => rec30 (x29, x28, x30, x21) h27)))))))) else (rec30 (s30.1, s30.2.1, s30.2.2.1, x21) h20))))) else (j115 s30.1 s30.2.1 s30.2.2.1 s30.2.2.2 hh30))
def f_X11_judge (this : Nat) (a1 : Int32) (a2 : Int32) (h0 : PH) : Option ((Int32 ⊕ Nat) × PH) :=
  cbx (f_X11_trayThere this a1 h0) (fun (r1 : Nat) (h2 : PH) => gk r1 10 (cbx (f_X11_checkWhat this a2 (3 : Int32) h2) (fun (r3 : Unit) (h4 : PH) => lt (h4.1 (rt this 5) 0) (fun (x5 : Int32) => lt (0 : Int32) (fun (x6 : Int32) => lt (0 : Int32) (fun (x7 : Int32) => lt (0 : Int32) (fun (x8 : Int32) => lt (fun (y9 : Int32) (y10 : Int32) (y11 : Int32) (y12 : Int32) (h13 : PH) => if a2.toInt < 0 ∨ 2 < a2.toInt then (cb (f_J6_bitCount_0f7a4 y9 h13) (fun (r14 : Int32) (h15 : PH) => some (.inl r14, h15))) else ([lt (fun (t16 : Int32) (h17 : PH) => some (.inl t16, h17)) (fun (j155 : Int32 → PH → Option ((Int32 ⊕ Nat) × PH)) => if y12 = 0 then (j155 (-1 : Int32) h13) else (j155 y11 h13)), some (.inl y12, h13), some (.inl y10, h13)] : List (Option ((Int32 ⊕ Nat) × PH))).getD (a2.toInt - 0).toNat none) (fun (j115 : Int32 → Int32 → Int32 → Int32 → PH → Option ((Int32 ⊕ Nat) × PH)) => lp (b_X11_judge_30 this r1 j115) FU (x5, x6, x7, x8) h4))))))))
set_option maxRecDepth 100000 in
set_option maxHeartbeats 4000000 in
theorem ct_X11_judge (l : Launch) (hlt : l.stackTraces = false) (this : Nat) (a1 : Int32) (a2 : Int32) (h0 : PH) (hk : (kd this).1 = 11) : CTx mkI l yX11_judge cX11_judge 9 (some .int) (rmx 7 2 12) 2 12 [.ref this, .int a1, .int a2] h0 (f_X11_judge this a1 a2 h0) := by
  refine ctx_of (by decide) (Nat.le_of_ble_eq_true rfl) ?_
  intro p e s m args below meth c D cA ad A X hr hlk htab
  have X : Cx p s m args c RX11 cX11_judge 9 D cA ad A := X
  unfold f_X11_judge
  refine so_pick (L' := [(0, .ref this), (1, .int a1), (2, .int a2)]) X [0, 1, 2] rfl ?_
  refine so_aload_n (i := 0) X 0 (dkX11_judge (0, .aload_n 0, 1) (pgm 0 rfl)) rfl rfl ?_
  refine so_iload_n (i := 1) X 1 (dkX11_judge (1, .iload_n 1, 1) (pgm 1 rfl)) rfl rfl ?_
  refine so_callX (n := 1) (As := [.int a1]) X hlk htab (ct_X11_trayThere l hlt this a1 h0 hk) hk (by decide) rfl lk_1362 lk_1364 lk_42 lk_121 lk_1365 (by decide +kernel) rfl rfl rfl (rm_okxx (by omega) (by decide)) ⟨Nat.le_of_ble_eq_true rfl, Nat.le_of_ble_eq_true rfl⟩ ⟨Nat.le_of_ble_eq_true rfl, Nat.le_of_ble_eq_true rfl⟩ (Nat.le_of_ble_eq_true rfl) (dkX11_judge (2, .invokevirtual 308, 3) (pgm 2 rfl)) (fun r1 h2 => ?_) rfl
  refine so_gk (fun hkr1 => ?_)
  refine so_astore_n0 (i := 3) (L' := [(3, .ref r1), (0, .ref this), (1, .int a1), (2, .int a2)]) X (dkX11_judge (5, .astore_n 3, 1) (pgm 3 rfl)) rfl (by decide) rfl ?_
  refine so_aload_n (i := 0) X 1 (dkX11_judge (6, .aload_n 0, 1) (pgm 4 rfl)) rfl rfl ?_
  refine so_iload_n (i := 2) X 3 (dkX11_judge (7, .iload_n 2, 1) (pgm 5 rfl)) rfl rfl ?_
  refine so_iconst (v := (3 : Int32)) X (dkX11_judge (8, .iconst 3, 1) (pgm 6 rfl)) ic_3 ?_
  refine so_callX (n := 2) (As := [.int a2, .int (3 : Int32)]) X hlk htab (ct_X11_checkWhat l hlt this a2 (3 : Int32) h2 hk) hk (by decide) rfl lk_1232 lk_1234 lk_37 lk_121 lk_1235 (by decide +kernel) rfl rfl rfl (rm_okxx (by omega) (by decide)) ⟨Nat.le_of_ble_eq_true rfl, Nat.le_of_ble_eq_true rfl⟩ ⟨Nat.le_of_ble_eq_true rfl, Nat.le_of_ble_eq_true rfl⟩ (Nat.le_of_ble_eq_true rfl) (dkX11_judge (9, .invokevirtual 246, 3) (pgm 7 rfl)) (fun r3 h4 => ?_) rfl
  refine so_aload_n (i := 0) X 1 (dkX11_judge (12, .aload_n 0, 1) (pgm 8 rfl)) rfl rfl ?_
  refine sf_getR X ff_11_5 lk_570 hk (dkX11_judge (13, .getfield 39, 3) (pgm 9 rfl)) ?_
  refine sf_getI X ff_0_0 lk_338 (fo (rk_11_5 this hk)) (dkX11_judge (16, .getfield 165, 3) (pgm 10 rfl)) ?_
  refine so_istore (i := 4) X (dkX11_judge (19, .istore 4, 2) (pgm 11 rfl)) (by decide) (Lf := fun x5 => [(4, .int x5), (3, .ref r1), (0, .ref this), (1, .int a1), (2, .int a2)]) (fun _ => rfl) (fun x5 => ?_)
  refine so_iconst (v := (0 : Int32)) X (dkX11_judge (21, .iconst 0, 1) (pgm 12 rfl)) ic_0 ?_
  refine so_istore (i := 5) X (dkX11_judge (22, .istore 5, 2) (pgm 13 rfl)) (by decide) (Lf := fun x6 => [(5, .int x6), (4, .int x5), (3, .ref r1), (0, .ref this), (1, .int a1), (2, .int a2)]) (fun _ => rfl) (fun x6 => ?_)
  refine so_iconst (v := (0 : Int32)) X (dkX11_judge (24, .iconst 0, 1) (pgm 14 rfl)) ic_0 ?_
  refine so_istore (i := 6) X (dkX11_judge (25, .istore 6, 2) (pgm 15 rfl)) (by decide) (Lf := fun x7 => [(6, .int x7), (5, .int x6), (4, .int x5), (3, .ref r1), (0, .ref this), (1, .int a1), (2, .int a2)]) (fun _ => rfl) (fun x7 => ?_)
  refine so_iconst (v := (0 : Int32)) X (dkX11_judge (27, .iconst 0, 1) (pgm 16 rfl)) ic_0 ?_
  refine so_istore (i := 7) X (dkX11_judge (28, .istore 7, 2) (pgm 17 rfl)) (by decide) (Lf := fun x8 => [(7, .int x8), (6, .int x7), (5, .int x6), (4, .int x5), (3, .ref r1), (0, .ref this), (1, .int a1), (2, .int a2)]) (fun _ => rfl) (fun x8 => ?_)
  refine so_join (jf := fun (y9 : Int32) (y10 : Int32) (y11 : Int32) (y12 : Int32) (h13 : PH) => if a2.toInt < 0 ∨ 2 < a2.toInt then (cb (f_J6_bitCount_0f7a4 y9 h13) (fun (r14 : Int32) (h15 : PH) => some (.inl r14, h15))) else ([lt (fun (t16 : Int32) (h17 : PH) => some (.inl t16, h17)) (fun (j155 : Int32 → PH → Option ((Int32 ⊕ Nat) × PH)) => if y12 = 0 then (j155 (-1 : Int32) h13) else (j155 y11 h13)), some (.inl y12, h13), some (.inl y10, h13)] : List (Option ((Int32 ⊕ Nat) × PH))).getD (a2.toInt - 0).toNat none) (fun (j : Int32 → Int32 → Int32 → Int32 → PH → Option ((Int32 ⊕ Nat) × PH)) => ∀ (y9 : Int32) (y10 : Int32) (y11 : Int32) (y12 : Int32) (h13 : PH), SWo (QX mkI below args s D cA ad A 2 12) p l e (rmx 7 2 12) s m args below meth c 2 12 9 D cA ad A 115 [(2, .int a2), (4, .int y9), (5, .int y10), (6, .int y11), (7, .int y12)] [] h13 (j y9 y10 y11 y12 h13)) ?_ (fun j115 hj115 => ?_)
  · intro y9 y10 y11 y12 h13
    refine so_iload_n (i := 2) X 0 (dkX11_judge (115, .iload_n 2, 1) (pgm 60 rfl)) rfl rfl ?_
    refine so_tsw (tgt := 162) (os := ([lt (fun (t16 : Int32) (h17 : PH) => some (.inl t16, h17)) (fun (j155 : Int32 → PH → Option ((Int32 ⊕ Nat) × PH)) => if y12 = 0 then (j155 (-1 : Int32) h13) else (j155 y11 h13)), some (.inl y12, h13), some (.inl y10, h13)] : List (Option ((Int32 ⊕ Nat) × PH)))) X (dkX11_judge (116, .tableswitch 46 0 2 #[28, 40, 43], 28) (pgm 61 rfl)) rfl ?_ ?_ rfl
    · refine so_iload (i := 4) X 1 (dkX11_judge (162, .iload 4, 2) (pgm 72 rfl)) rfl ?_
      refine so_callS (n := 1) (As := [.int y9]) X (ct_J6_bitCount_0f7a4 l y9 h13 ) lk_766 lk_635 lk_147 lk_636 (by decide +kernel) rfl rfl rfl (rm_okx (by omega) (by decide)) ⟨Nat.le_of_ble_eq_true rfl, Nat.le_of_ble_eq_true rfl⟩ (Nat.le_of_ble_eq_true rfl) (dkX11_judge (164, .invokestatic 263, 3) (pgm 73 rfl)) (fun r14 h15 => ?_) rfl
      exact so_iretX X hr hlk (Nat.le_of_ble_eq_true rfl) (Nat.le_of_ble_eq_true rfl) (dkX11_judge (167, .ireturn, 1) (pgm 74 rfl))
    · intro kq ok hkq
      match kq, hkq with
      | 0, hkq =>
        obtain rfl := Option.some.inj hkq
        refine ⟨28, 144, rfl, rfl, ?_⟩
        refine so_iload (i := 7) X 4 (dkX11_judge (144, .iload 7, 2) (pgm 62 rfl)) rfl ?_
        refine so_join (jf := fun (t16 : Int32) (h17 : PH) => some (.inl t16, h17)) (fun (j : Int32 → PH → Option ((Int32 ⊕ Nat) × PH)) => ∀ (t16 : Int32) (h17 : PH), SWo (QX mkI below args s D cA ad A 2 12) p l e (rmx 7 2 12) s m args below meth c 2 12 9 D cA ad A 155 [] [.int t16] h17 (j t16 h17)) ?_ (fun j155 hj155 => ?_)
        · intro t16 h17
          exact so_iretX X hr hlk (Nat.le_of_ble_eq_true rfl) (Nat.le_of_ble_eq_true rfl) (dkX11_judge (155, .ireturn, 1) (pgm 67 rfl))
        refine so_if_ne (tgt := 153) X (dkX11_judge (146, .ifCond .ne 7, 3) (pgm 63 rfl)) rfl (fun _ => ?_) (fun _ => ?_)
        · refine so_iload (i := 6) X 3 (dkX11_judge (153, .iload 6, 2) (pgm 66 rfl)) rfl ?_
          exact so_pick X [] rfl (hj155 y11 h13)
        · refine so_iconst (v := (-1 : Int32)) X (dkX11_judge (149, .iconst (-1), 1) (pgm 64 rfl)) ic_m1 ?_
          refine so_goto (tgt := 155) X (dkX11_judge (150, .goto 5, 3) (pgm 65 rfl)) rfl ?_
          exact so_pick X [] rfl (hj155 (-1 : Int32) h13)
      | 1, hkq =>
        obtain rfl := Option.some.inj hkq
        refine ⟨40, 156, rfl, rfl, ?_⟩
        refine so_iload (i := 7) X 4 (dkX11_judge (156, .iload 7, 2) (pgm 68 rfl)) rfl ?_
        exact so_iretX X hr hlk (Nat.le_of_ble_eq_true rfl) (Nat.le_of_ble_eq_true rfl) (dkX11_judge (158, .ireturn, 1) (pgm 69 rfl))
      | 2, hkq =>
        obtain rfl := Option.some.inj hkq
        refine ⟨43, 159, rfl, rfl, ?_⟩
        refine so_iload (i := 5) X 2 (dkX11_judge (159, .iload 5, 2) (pgm 70 rfl)) rfl ?_
        exact so_iretX X hr hlk (Nat.le_of_ble_eq_true rfl) (Nat.le_of_ble_eq_true rfl) (dkX11_judge (161, .ireturn, 1) (pgm 71 rfl))
      | kq + 3, hkq => simp at hkq
  refine so_pick (L' := [(0, .ref this), (2, .int a2), (3, .ref r1), (4, .int x5), (5, .int x6), (6, .int x7), (7, .int x8)]) X [5, 7, 4, 3, 2, 1, 0] rfl ?_
  refine so_loop (body := b_X11_judge_30 this r1 j115) (fun (s30 : Int32 × Int32 × Int32 × Int32) => [(0, .ref this), (2, .int a2), (3, .ref r1), (4, .int s30.1), (5, .int s30.2.1), (6, .int s30.2.2.1), (7, .int s30.2.2.2)]) (fun rec30 hrec30 s30 hh30 => ?_) FU (x5, x6, x7, x8) h4
  unfold b_X11_judge_30
  refine so_iload (i := 6) X 5 (dkX11_judge (30, .iload 6, 2) (pgm 18 rfl)) rfl ?_
  refine so_aload_n (i := 3) X 2 (dkX11_judge (32, .aload_n 3, 1) (pgm 19 rfl)) rfl rfl ?_
  refine sf_getI X ff_10_1 lk_550 hkr1 (dkX11_judge (33, .getfield 223, 3) (pgm 20 rfl)) ?_
  refine so_icmp_ge (tgt := 115) X (dkX11_judge (36, .if_icmp .ge 79, 3) (pgm 21 rfl)) rfl (fun _ => ?_) (fun _ => ?_)
  · exact so_pick X [1, 3, 4, 5, 6] rfl (hj115 s30.1 s30.2.1 s30.2.2.1 s30.2.2.2 hh30)
  · refine so_iload (i := 7) X 6 (dkX11_judge (39, .iload 7, 2) (pgm 22 rfl)) rfl ?_
    refine so_if_ne (tgt := 115) X (dkX11_judge (41, .ifCond .ne 74, 3) (pgm 23 rfl)) rfl (fun _ => ?_) (fun _ => ?_)
    · exact so_pick X [1, 3, 4, 5, 6] rfl (hj115 s30.1 s30.2.1 s30.2.2.1 s30.2.2.2 hh30)
    · refine so_aload_n (i := 0) X 0 (dkX11_judge (44, .aload_n 0, 1) (pgm 24 rfl)) rfl rfl ?_
      refine sf_getR X ff_11_6 lk_571 hk (dkX11_judge (45, .getfield 48, 3) (pgm 25 rfl)) ?_
      refine so_aload_n (i := 3) X 2 (dkX11_judge (48, .aload_n 3, 1) (pgm 26 rfl)) rfl rfl ?_
      refine sf_getR X ff_10_2 lk_555 hkr1 (dkX11_judge (49, .getfield 376, 3) (pgm 27 rfl)) ?_
      refine so_iload (i := 6) X 5 (dkX11_judge (52, .iload 6, 2) (pgm 28 rfl)) rfl ?_
      refine so_lald X (rk_10_2 r1 hkr1) (dkX11_judge (54, .laload, 1) (pgm 29 rfl)) (fun x18 => ?_)
      refine so_iload (i := 4) X 3 (dkX11_judge (55, .iload 4, 2) (pgm 30 rfl)) rfl ?_
      refine so_callV (n := 2) (As := [.long x18, .int s30.1]) X (ct_X3_whyNot l (rt this 6) x18 s30.1 hh30 (fo (rk_11_6 this hk))) (fo (rk_11_6 this hk)) (by decide) rfl lk_630 lk_631 lk_632 lk_126 lk_633 (by decide +kernel) rfl rfl rfl (rm_okx (by omega) (by decide)) ⟨Nat.le_of_ble_eq_true rfl, Nat.le_of_ble_eq_true rfl⟩ (Nat.le_of_ble_eq_true rfl) (dkX11_judge (57, .invokevirtual 186, 3) (pgm 31 rfl)) (fun r19 h20 => ?_) rfl
      refine so_istore (i := 7) X (dkX11_judge (60, .istore 7, 2) (pgm 32 rfl)) (by decide) (Lf := fun x21 => [(7, .int x21), (0, .ref this), (2, .int a2), (3, .ref r1), (4, .int s30.1), (5, .int s30.2.1), (6, .int s30.2.2.1)]) (fun _ => rfl) (fun x21 => ?_)
      refine so_iload (i := 7) X 0 (dkX11_judge (62, .iload 7, 2) (pgm 33 rfl)) rfl ?_
      refine so_if_ne (tgt := 30) X (dkX11_judge (64, .ifCond .ne (-34), 3) (pgm 34 rfl)) rfl (fun _ => ?_) (fun _ => ?_)
      · exact so_pick X [1, 2, 3, 4, 5, 6, 0] rfl (hrec30 (s30.1, s30.2.1, s30.2.2.1, x21) h20)
      · refine so_aload_n (i := 0) X 1 (dkX11_judge (67, .aload_n 0, 1) (pgm 35 rfl)) rfl rfl ?_
        refine sf_getR X ff_11_6 lk_571 hk (dkX11_judge (68, .getfield 48, 3) (pgm 36 rfl)) ?_
        refine so_aload_n (i := 3) X 3 (dkX11_judge (71, .aload_n 3, 1) (pgm 37 rfl)) rfl rfl ?_
        refine sf_getR X ff_10_2 lk_555 hkr1 (dkX11_judge (72, .getfield 376, 3) (pgm 38 rfl)) ?_
        refine so_iload (i := 6) X 6 (dkX11_judge (75, .iload 6, 2) (pgm 39 rfl)) rfl ?_
        refine so_lald X (rk_10_2 r1 hkr1) (dkX11_judge (77, .laload, 1) (pgm 40 rfl)) (fun x22 => ?_)
        refine so_l2i X (dkX11_judge (78, .l2i, 1) (pgm 41 rfl)) ?_
        refine so_iload (i := 4) X 4 (dkX11_judge (79, .iload 4, 2) (pgm 42 rfl)) rfl ?_
        refine so_callV (n := 2) (As := [.int x22.toInt32, .int s30.1]) X (ct_X3_grantedBy l (rt this 6) x22.toInt32 s30.1 h20 (fo (rk_11_6 this hk))) (fo (rk_11_6 this hk)) (by decide) rfl lk_752 lk_677 lk_678 lk_126 lk_679 (by decide +kernel) rfl rfl rfl (rm_okx (by omega) (by decide)) ⟨Nat.le_of_ble_eq_true rfl, Nat.le_of_ble_eq_true rfl⟩ (Nat.le_of_ble_eq_true rfl) (dkX11_judge (81, .invokevirtual 190, 3) (pgm 43 rfl)) (fun r23 h24 => ?_) rfl
        refine so_istore (i := 8) X (dkX11_judge (84, .istore 8, 2) (pgm 44 rfl)) (by decide) (Lf := fun x25 => [(8, .int x25), (7, .int x21), (0, .ref this), (2, .int a2), (3, .ref r1), (4, .int s30.1), (5, .int s30.2.1), (6, .int s30.2.2.1)]) (fun _ => rfl) (fun x25 => ?_)
        refine so_iload (i := 5) X 6 (dkX11_judge (86, .iload 5, 2) (pgm 45 rfl)) rfl ?_
        refine so_aload_n (i := 0) X 2 (dkX11_judge (88, .aload_n 0, 1) (pgm 46 rfl)) rfl rfl ?_
        refine sf_getR X ff_11_2 lk_567 hk (dkX11_judge (89, .getfield 20, 3) (pgm 47 rfl)) ?_
        refine so_iload (i := 8) X 0 (dkX11_judge (92, .iload 8, 2) (pgm 48 rfl)) rfl ?_
        refine so_callV (n := 1) (As := [.int x25]) X (ct_X8_weightOf l (rt this 2) x25 h24 (fo (rk_11_2 this hk))) (fo (rk_11_2 this hk)) (by decide) rfl lk_740 lk_741 lk_742 lk_122 lk_743 (by decide +kernel) rfl rfl rfl (rm_okx (by omega) (by decide)) ⟨Nat.le_of_ble_eq_true rfl, Nat.le_of_ble_eq_true rfl⟩ (Nat.le_of_ble_eq_true rfl) (dkX11_judge (94, .invokevirtual 254, 3) (pgm 49 rfl)) (fun r26 h27 => ?_) rfl
        refine so_iadd X (dkX11_judge (97, .iadd, 1) (pgm 50 rfl)) ?_
        refine so_istore (i := 5) X (dkX11_judge (98, .istore 5, 2) (pgm 51 rfl)) (by decide) (Lf := fun x28 => [(5, .int x28), (8, .int x25), (7, .int x21), (0, .ref this), (2, .int a2), (3, .ref r1), (4, .int s30.1), (6, .int s30.2.2.1)]) (fun _ => rfl) (fun x28 => ?_)
        refine so_iload (i := 4) X 6 (dkX11_judge (100, .iload 4, 2) (pgm 52 rfl)) rfl ?_
        refine so_iload (i := 8) X 1 (dkX11_judge (102, .iload 8, 2) (pgm 53 rfl)) rfl ?_
        refine so_iconst (v := (-1 : Int32)) X (dkX11_judge (104, .iconst (-1), 1) (pgm 54 rfl)) ic_m1 ?_
        refine so_ixor X (dkX11_judge (105, .ixor, 1) (pgm 55 rfl)) ?_
        refine so_iand X (dkX11_judge (106, .iand, 1) (pgm 56 rfl)) ?_
        refine so_istore (i := 4) X (dkX11_judge (107, .istore 4, 2) (pgm 57 rfl)) (by decide) (Lf := fun x29 => [(4, .int x29), (5, .int x28), (8, .int x25), (7, .int x21), (0, .ref this), (2, .int a2), (3, .ref r1), (6, .int s30.2.2.1)]) (fun _ => rfl) (fun x29 => ?_)
        refine so_iinc (i := 6) X 7 (dkX11_judge (109, .iinc 6 1, 3) (pgm 58 rfl)) rfl rfl (by decide) (Lf := fun x30 => [(6, .int x30), (4, .int x29), (5, .int x28), (8, .int x25), (7, .int x21), (0, .ref this), (2, .int a2), (3, .ref r1)]) (fun _ => rfl) (fun x30 => ?_)
        refine so_goto (tgt := 30) X (dkX11_judge (112, .goto (-82), 3) (pgm 59 rfl)) rfl ?_
        exact so_pick X [5, 6, 7, 1, 2, 0, 4] rfl (hrec30 (x29, x28, x30, x21) h27)
def pgX11_perform : List (Nat × Instr × Nat) := [(0, .aload_n 0, 1), (1, .iload_n 1, 1), (2, .invokevirtual 308, 3), (5, .astore_n 2, 1), (6, .iconst 0, 1), (7, .istore_n 3, 1), (8, .iload_n 3, 1), (9, .aload_n 2, 1), (10, .getfield 223, 3), (13, .if_icmp .ge 44, 3), (16, .aload_n 0, 1), (17, .getfield 48, 3), (20, .aload_n 2, 1), (21, .getfield 376, 3), (24, .iload_n 3, 1), (25, .laload, 1), (26, .aload_n 0, 1), (27, .getfield 39, 3), (30, .getfield 165, 3), (33, .invokevirtual 186, 3), (36, .ifCond .ne 21, 3), (39, .aload_n 0, 1), (40, .aload_n 2, 1), (41, .getfield 376, 3), (44, .iload_n 3, 1), (45, .laload, 1), (46, .l2i, 1), (47, .invokevirtual 351, 3), (50, .pop, 1), (51, .iinc 3 1, 3), (54, .goto (-46), 3), (57, .iload_n 3, 1), (58, .ireturn, 1)]
theorem dkX11_perform : ∀ q ∈ pgX11_perform, decode cX11_perform q.1 = .ok q.2 := by decide +kernel
def b_X11_perform_8 (this : Nat) (r1 : Nat) (j57 : Int32 → PH → Option ((Int32 ⊕ Nat) × PH)) (rec8 : (Int32) → PH → Option ((Int32 ⊕ Nat) × PH)) (s8 : Int32) (hh8 : PH) : Option ((Int32 ⊕ Nat) × PH) :=
  if (hh8.1 r1 1) ≤ s8 then (j57 s8 hh8) else (ldL hh8 (rt r1 2) 30 s8 (fun (x6 : Int64) => cb (f_X3_whyNot (rt this 6) x6 (hh8.1 (rt this 5) 0) hh8) (fun (r7 : Int32) (h8 : PH) => if r7 = 0 then (ldL h8 (rt r1 2) 30 s8 (fun (x9 : Int64) => cb (f_X11_makeNight this x9.toInt32 h8) (fun (r10 : Int32) (h11 : PH) => lt (s8 + Int32.ofInt 1) (fun (x12 : Int32) => rec8 x12 h11)))) else (j57 s8 h8))))
def f_X11_perform (this : Nat) (a1 : Int32) (h0 : PH) : Option ((Int32 ⊕ Nat) × PH) :=
  cbx (f_X11_trayThere this a1 h0) (fun (r1 : Nat) (h2 : PH) => gk r1 10 (lt (0 : Int32) (fun (x3 : Int32) => lt (fun (y4 : Int32) (h5 : PH) => some (.inl y4, h5)) (fun (j57 : Int32 → PH → Option ((Int32 ⊕ Nat) × PH)) => lp (b_X11_perform_8 this r1 j57) FU x3 h2))))
set_option maxRecDepth 100000 in
set_option maxHeartbeats 4000000 in
theorem ct_X11_perform (l : Launch) (hlt : l.stackTraces = false) (this : Nat) (a1 : Int32) (h0 : PH) (hk : (kd this).1 = 11) : CTx mkI l yX11_perform cX11_perform 4 (some .int) (rmx 7 1 6) 1 6 [.ref this, .int a1] h0 (f_X11_perform this a1 h0) := by
  refine ctx_of (by decide) (Nat.le_of_ble_eq_true rfl) ?_
  intro p e s m args below meth c D cA ad A X hr hlk htab
  have X : Cx p s m args c RX11 cX11_perform 4 D cA ad A := X
  unfold f_X11_perform
  refine so_pick (L' := [(0, .ref this), (1, .int a1)]) X [0, 1] rfl ?_
  refine so_aload_n (i := 0) X 0 (dkX11_perform (0, .aload_n 0, 1) (pgm 0 rfl)) rfl rfl ?_
  refine so_iload_n (i := 1) X 1 (dkX11_perform (1, .iload_n 1, 1) (pgm 1 rfl)) rfl rfl ?_
  refine so_callX (n := 1) (As := [.int a1]) X hlk htab (ct_X11_trayThere l hlt this a1 h0 hk) hk (by decide) rfl lk_1362 lk_1364 lk_42 lk_121 lk_1365 (by decide +kernel) rfl rfl rfl (rm_okxx (by omega) (by decide)) ⟨Nat.le_of_ble_eq_true rfl, Nat.le_of_ble_eq_true rfl⟩ ⟨Nat.le_of_ble_eq_true rfl, Nat.le_of_ble_eq_true rfl⟩ (Nat.le_of_ble_eq_true rfl) (dkX11_perform (2, .invokevirtual 308, 3) (pgm 2 rfl)) (fun r1 h2 => ?_) rfl
  refine so_gk (fun hkr1 => ?_)
  refine so_astore_n0 (i := 2) (L' := [(2, .ref r1), (0, .ref this), (1, .int a1)]) X (dkX11_perform (5, .astore_n 2, 1) (pgm 3 rfl)) rfl (by decide) rfl ?_
  refine so_iconst (v := (0 : Int32)) X (dkX11_perform (6, .iconst 0, 1) (pgm 4 rfl)) ic_0 ?_
  refine so_istore_n (i := 3) X (dkX11_perform (7, .istore_n 3, 1) (pgm 5 rfl)) rfl (by decide) (Lf := fun x3 => [(3, .int x3), (2, .ref r1), (0, .ref this), (1, .int a1)]) (fun _ => rfl) (fun x3 => ?_)
  refine so_join (jf := fun (y4 : Int32) (h5 : PH) => some (.inl y4, h5)) (fun (j : Int32 → PH → Option ((Int32 ⊕ Nat) × PH)) => ∀ (y4 : Int32) (h5 : PH), SWo (QX mkI below args s D cA ad A 1 6) p l e (rmx 7 1 6) s m args below meth c 1 6 4 D cA ad A 57 [(3, .int y4)] [] h5 (j y4 h5)) ?_ (fun j57 hj57 => ?_)
  · intro y4 h5
    refine so_iload_n (i := 3) X 0 (dkX11_perform (57, .iload_n 3, 1) (pgm 31 rfl)) rfl rfl ?_
    exact so_iretX X hr hlk (Nat.le_of_ble_eq_true rfl) (Nat.le_of_ble_eq_true rfl) (dkX11_perform (58, .ireturn, 1) (pgm 32 rfl))
  refine so_pick (L' := [(0, .ref this), (2, .ref r1), (3, .int x3)]) X [2, 1, 0] rfl ?_
  refine so_loop (body := b_X11_perform_8 this r1 j57) (fun (s8 : Int32) => [(0, .ref this), (2, .ref r1), (3, .int s8)]) (fun rec8 hrec8 s8 hh8 => ?_) FU x3 h2
  unfold b_X11_perform_8
  refine so_iload_n (i := 3) X 2 (dkX11_perform (8, .iload_n 3, 1) (pgm 6 rfl)) rfl rfl ?_
  refine so_aload_n (i := 2) X 1 (dkX11_perform (9, .aload_n 2, 1) (pgm 7 rfl)) rfl rfl ?_
  refine sf_getI X ff_10_1 lk_550 hkr1 (dkX11_perform (10, .getfield 223, 3) (pgm 8 rfl)) ?_
  refine so_icmp_ge (tgt := 57) X (dkX11_perform (13, .if_icmp .ge 44, 3) (pgm 9 rfl)) rfl (fun _ => ?_) (fun _ => ?_)
  · exact so_pick X [2] rfl (hj57 s8 hh8)
  · refine so_aload_n (i := 0) X 0 (dkX11_perform (16, .aload_n 0, 1) (pgm 10 rfl)) rfl rfl ?_
    refine sf_getR X ff_11_6 lk_571 hk (dkX11_perform (17, .getfield 48, 3) (pgm 11 rfl)) ?_
    refine so_aload_n (i := 2) X 1 (dkX11_perform (20, .aload_n 2, 1) (pgm 12 rfl)) rfl rfl ?_
    refine sf_getR X ff_10_2 lk_555 hkr1 (dkX11_perform (21, .getfield 376, 3) (pgm 13 rfl)) ?_
    refine so_iload_n (i := 3) X 2 (dkX11_perform (24, .iload_n 3, 1) (pgm 14 rfl)) rfl rfl ?_
    refine so_lald X (rk_10_2 r1 hkr1) (dkX11_perform (25, .laload, 1) (pgm 15 rfl)) (fun x6 => ?_)
    refine so_aload_n (i := 0) X 0 (dkX11_perform (26, .aload_n 0, 1) (pgm 16 rfl)) rfl rfl ?_
    refine sf_getR X ff_11_5 lk_570 hk (dkX11_perform (27, .getfield 39, 3) (pgm 17 rfl)) ?_
    refine sf_getI X ff_0_0 lk_338 (fo (rk_11_5 this hk)) (dkX11_perform (30, .getfield 165, 3) (pgm 18 rfl)) ?_
    refine so_callV (n := 2) (As := [.long x6, .int (hh8.1 (rt this 5) 0)]) X (ct_X3_whyNot l (rt this 6) x6 (hh8.1 (rt this 5) 0) hh8 (fo (rk_11_6 this hk))) (fo (rk_11_6 this hk)) (by decide) rfl lk_630 lk_631 lk_632 lk_126 lk_633 (by decide +kernel) rfl rfl rfl (rm_okx (by omega) (by decide)) ⟨Nat.le_of_ble_eq_true rfl, Nat.le_of_ble_eq_true rfl⟩ (Nat.le_of_ble_eq_true rfl) (dkX11_perform (33, .invokevirtual 186, 3) (pgm 19 rfl)) (fun r7 h8 => ?_) rfl
    refine so_if_ne (tgt := 57) X (dkX11_perform (36, .ifCond .ne 21, 3) (pgm 20 rfl)) rfl (fun _ => ?_) (fun _ => ?_)
    · exact so_pick X [2] rfl (hj57 s8 h8)
    · refine so_aload_n (i := 0) X 0 (dkX11_perform (39, .aload_n 0, 1) (pgm 21 rfl)) rfl rfl ?_
      refine so_aload_n (i := 2) X 1 (dkX11_perform (40, .aload_n 2, 1) (pgm 22 rfl)) rfl rfl ?_
      refine sf_getR X ff_10_2 lk_555 hkr1 (dkX11_perform (41, .getfield 376, 3) (pgm 23 rfl)) ?_
      refine so_iload_n (i := 3) X 2 (dkX11_perform (44, .iload_n 3, 1) (pgm 24 rfl)) rfl rfl ?_
      refine so_lald X (rk_10_2 r1 hkr1) (dkX11_perform (45, .laload, 1) (pgm 25 rfl)) (fun x9 => ?_)
      refine so_l2i X (dkX11_perform (46, .l2i, 1) (pgm 26 rfl)) ?_
      refine so_callV (n := 1) (As := [.int x9.toInt32]) X (ct_X11_makeNight l this x9.toInt32 h8 hk) hk (by decide) rfl lk_748 lk_750 lk_11 lk_121 lk_751 (by decide +kernel) rfl rfl rfl (rm_okx (by omega) (by decide)) ⟨Nat.le_of_ble_eq_true rfl, Nat.le_of_ble_eq_true rfl⟩ (Nat.le_of_ble_eq_true rfl) (dkX11_perform (47, .invokevirtual 351, 3) (pgm 27 rfl)) (fun r10 h11 => ?_) rfl
      refine so_pop X (dkX11_perform (50, .pop, 1) (pgm 28 rfl)) rfl ?_
      refine so_iinc (i := 3) X 2 (dkX11_perform (51, .iinc 3 1, 3) (pgm 29 rfl)) rfl rfl (by decide) (Lf := fun x12 => [(3, .int x12), (0, .ref this), (2, .ref r1)]) (fun _ => rfl) (fun x12 => ?_)
      refine so_goto (tgt := 8) X (dkX11_perform (54, .goto (-46), 3) (pgm 30 rfl)) rfl ?_
      exact so_pick X [1, 2, 0] rfl (hrec8 x12 h11)
def pgX11_season : List (Nat × Instr × Nat) := [(0, .iload_n 2, 1), (1, .iconst 1, 1), (2, .if_icmp .lt 9, 3), (5, .iload_n 2, 1), (6, .bipush 30, 2), (8, .if_icmp .le 14, 3), (11, .new 116, 3), (14, .dup, 1), (15, .ldc_w 380, 3), (18, .invokespecial 120, 3), (21, .athrow, 1), (22, .aload_n 0, 1), (23, .getfield 20, 3), (26, .getfield 382, 3), (29, .ifCond .ne 14, 3), (32, .new 226, 3), (35, .dup, 1), (36, .ldc_w 315, 3), (39, .invokespecial 230, 3), (42, .athrow, 1), (43, .iload_n 1, 1), (44, .istore_n 3, 1), (45, .iconst 0, 1), (46, .istore 4, 2), (48, .iconst 0, 1), (49, .istore 5, 2), (51, .iload 5, 2), (53, .iload_n 2, 1), (54, .if_icmp .ge 103, 3), (57, .iload_n 3, 1), (58, .invokestatic 383, 3), (61, .istore_n 3, 1), (62, .iload_n 3, 1), (63, .bipush 16, 2), (65, .iushr, 1), (66, .aload_n 0, 1), (67, .getfield 20, 3), (70, .getfield 386, 3), (73, .iconst 1, 1), (74, .iadd, 1), (75, .irem, 1), (76, .istore 6, 2), (78, .iconst 0, 1), (79, .istore 7, 2), (81, .iconst 0, 1), (82, .istore 8, 2), (84, .iload 8, 2), (86, .iload 6, 2), (88, .if_icmp .ge 33, 3), (91, .iload_n 3, 1), (92, .invokestatic 383, 3), (95, .istore_n 3, 1), (96, .iload 7, 2), (98, .iconst 1, 1), (99, .iload_n 3, 1), (100, .bipush 16, 2), (102, .iushr, 1), (103, .aload_n 0, 1), (104, .getfield 20, 3), (107, .getfield 382, 3), (110, .irem, 1), (111, .ishl, 1), (112, .ior, 1), (113, .istore 7, 2), (115, .iinc 8 1, 3), (118, .goto (-34), 3), (121, .aload_n 0, 1), (122, .getfield 48, 3), (125, .iload 7, 2), (127, .i2l, 1), (128, .aload_n 0, 1), (129, .getfield 39, 3), (132, .getfield 165, 3), (135, .invokevirtual 186, 3), (138, .ifCond .ne 13, 3), (141, .aload_n 0, 1), (142, .iload 7, 2), (144, .invokevirtual 351, 3), (147, .pop, 1), (148, .iinc 4 1, 3), (151, .iinc 5 1, 3), (154, .goto (-103), 3), (157, .iload 4, 2), (159, .ireturn, 1)]
theorem dkX11_season : ∀ q ∈ pgX11_season, decode cX11_season q.1 = .ok q.2 := by decide +kernel
def b_X11_season_84 (this : Nat) (x8 : Int32) (j121 : Int32 → Int32 → PH → Option ((Int32 ⊕ Nat) × PH)) (rec84 : (Int32 × Int32 × Int32) → PH → Option ((Int32 ⊕ Nat) × PH)) (s84 : Int32 × Int32 × Int32) (hh84 : PH) : Option ((Int32 ⊕ Nat) × PH) :=
  if x8 ≤ s84.2.2 then (j121 s84.1 s84.2.1 hh84) else (cb (f_X11_drawn s84.1 hh84) (fun (r22 : Int32) (h23 : PH) => lt r22 (fun (x24 : Int32) => nz (h23.1 (rt this 2) 7) (lt (s84.2.1 ||| ((1 : Int32) <<< ((((x24.toUInt32 >>> ((16 : Int32).toUInt32 &&& Int32.toUInt32 31)).toInt32) - ((x24.toUInt32 >>> ((16 : Int32).toUInt32 &&& Int32.toUInt32 31)).toInt32) / (h23.1 (rt this 2) 7) * (h23.1 (rt this 2) 7)) &&& 31))) (fun (x25 : Int32) => lt (s84.2.2 + Int32.ofInt 1) (fun (x26 : Int32) => rec84 (x24, x25, x26) h23))))))
def b_X11_season_51 (this : Nat) (a2 : Int32) (rec51 : (Int32 × Int32 × Int32) → PH → Option ((Int32 ⊕ Nat) × PH)) (s51 : Int32 × Int32 × Int32) (hh51 : PH) : Option ((Int32 ⊕ Nat) × PH) :=
  if a2 ≤ s51.2.2 then (some (.inl s51.2.1, hh51)) else (cb (f_X11_drawn s51.1 hh51) (fun (r5 : Int32) (h6 : PH) => lt r5 (fun (x7 : Int32) => nz ((h6.1 (rt this 2) 3) + (1 : Int32)) (lt (((x7.toUInt32 >>> ((16 : Int32).toUInt32 &&& Int32.toUInt32 31)).toInt32) - ((x7.toUInt32 >>> ((16 : Int32).toUInt32 &&& Int32.toUInt32 31)).toInt32) / ((h6.1 (rt this 2) 3) + (1 : Int32)) * ((h6.1 (rt this 2) 3) + (1 : Int32))) (fun (x8 : Int32) => lt (0 : Int32) (fun (x9 : Int32) => lt (0 : Int32) (fun (x10 : Int32) => lt (fun (y11 : Int32) (y12 : Int32) (h13 : PH) => cb (f_X3_whyNot (rt this 6) y12.toInt64 (h13.1 (rt this 5) 0) h13) (fun (r14 : Int32) (h15 : PH) => lt (fun (y16 : Int32) (h17 : PH) => lt (s51.2.2 + Int32.ofInt 1) (fun (x18 : Int32) => rec51 (y11, y16, x18) h17)) (fun (j151 : Int32 → PH → Option ((Int32 ⊕ Nat) × PH)) => if r14 = 0 then (cb (f_X11_makeNight this y12 h15) (fun (r19 : Int32) (h20 : PH) => lt (s51.2.1 + Int32.ofInt 1) (fun (x21 : Int32) => j151 x21 h20))) else (j151 s51.2.1 h15)))) (fun (j121 : Int32 → Int32 → PH → Option ((Int32 ⊕ Nat) × PH)) => lp (b_X11_season_84 this x8 j121) FU (x7, x9, x10) h6))))))))
def f_X11_season (this : Nat) (a1 : Int32) (a2 : Int32) (h0 : PH) : Option ((Int32 ⊕ Nat) × PH) :=
  lt (fun (h1 : PH) => some (.inr 0, h1)) (fun (j11 : PH → Option ((Int32 ⊕ Nat) × PH)) => if a2 < (1 : Int32) then (j11 h0) else (if a2 ≤ (30 : Int32) then (if (h0.1 (rt this 2) 7) = 0 then (some (.inr 2, h0)) else (lt a1 (fun (x2 : Int32) => lt (0 : Int32) (fun (x3 : Int32) => lt (0 : Int32) (fun (x4 : Int32) => lp (b_X11_season_51 this a2) FU (x2, x3, x4) h0))))) else (j11 h0)))
set_option maxRecDepth 100000 in
set_option maxHeartbeats 4000000 in
theorem ct_X11_season (l : Launch) (hlt : l.stackTraces = false) (this : Nat) (a1 : Int32) (a2 : Int32) (h0 : PH) (hk : (kd this).1 = 11) : CTx mkI l yX11_season cX11_season 9 (some .int) (rmx 6 1 6) 1 6 [.ref this, .int a1, .int a2] h0 (f_X11_season this a1 a2 h0) := by
  refine ctx_of (by decide) (Nat.le_of_ble_eq_true rfl) ?_
  intro p e s m args below meth c D cA ad A X hr hlk htab
  have X : Cx p s m args c RX11 cX11_season 9 D cA ad A := X
  unfold f_X11_season
  refine so_pick (L' := [(0, .ref this), (1, .int a1), (2, .int a2)]) X [0, 1, 2] rfl ?_
  refine so_iload_n (i := 2) X 2 (dkX11_season (0, .iload_n 2, 1) (pgm 0 rfl)) rfl rfl ?_
  refine so_iconst (v := (1 : Int32)) X (dkX11_season (1, .iconst 1, 1) (pgm 1 rfl)) ic_1 ?_
  refine so_join (jf := fun (h1 : PH) => some (.inr 0, h1)) (fun (j : PH → Option ((Int32 ⊕ Nat) × PH)) => ∀  (h1 : PH), SWo (QX mkI below args s D cA ad A 1 6) p l e (rmx 6 1 6) s m args below meth c 0 0 9 D cA ad A 11 [] [] h1 (j h1)) ?_ (fun j11 hj11 => ?_)
  · intro h1
    exact so_throwSW (n := 45) (tx := "not so many times") X hlt hlk htab 0 (pgm 45 rfl) lk_779 lk_139 (by decide) at_RX11_120_0 (by decide) (dkX11_season (11, .new 116, 3) (pgm 6 rfl)) (dkX11_season (14, .dup, 1) (pgm 7 rfl)) (dkX11_season (15, .ldc_w 380, 3) (pgm 8 rfl)) (dkX11_season (18, .invokespecial 120, 3) (pgm 9 rfl)) (dkX11_season (21, .athrow, 1) (pgm 10 rfl)) (Nat.le_of_ble_eq_true rfl) (Nat.le_of_ble_eq_true rfl) (Nat.le_of_ble_eq_true rfl) (Nat.le_of_ble_eq_true rfl) (Nat.le_of_ble_eq_true rfl) (Nat.le_of_ble_eq_true rfl)
  refine so_icmp_lt (tgt := 11) X (dkX11_season (2, .if_icmp .lt 9, 3) (pgm 2 rfl)) rfl (fun _ => ?_) (fun _ => ?_)
  · exact so_pick X [] rfl (hj11 h0)
  · refine so_iload_n (i := 2) X 2 (dkX11_season (5, .iload_n 2, 1) (pgm 3 rfl)) rfl rfl ?_
    refine so_bipush (v := (30 : Int32)) X (dkX11_season (6, .bipush 30, 2) (pgm 4 rfl)) bp_30 ?_
    refine so_icmp_le (tgt := 22) X (dkX11_season (8, .if_icmp .le 14, 3) (pgm 5 rfl)) rfl (fun _ => ?_) (fun _ => ?_)
    · refine so_aload_n (i := 0) X 0 (dkX11_season (22, .aload_n 0, 1) (pgm 11 rfl)) rfl rfl ?_
      refine sf_getR X ff_11_2 lk_567 hk (dkX11_season (23, .getfield 20, 3) (pgm 12 rfl)) ?_
      refine sf_getI X ff_8_7 lk_196 (fo (rk_11_2 this hk)) (dkX11_season (26, .getfield 382, 3) (pgm 13 rfl)) ?_
      refine so_if_ne (tgt := 43) X (dkX11_season (29, .ifCond .ne 14, 3) (pgm 14 rfl)) rfl (fun _ => ?_) (fun _ => ?_)
      · refine so_iload_n (i := 1) X 1 (dkX11_season (43, .iload_n 1, 1) (pgm 20 rfl)) rfl rfl ?_
        refine so_istore_n (i := 3) X (dkX11_season (44, .istore_n 3, 1) (pgm 21 rfl)) rfl (by decide) (Lf := fun x2 => [(3, .int x2), (0, .ref this), (1, .int a1), (2, .int a2)]) (fun _ => rfl) (fun x2 => ?_)
        refine so_iconst (v := (0 : Int32)) X (dkX11_season (45, .iconst 0, 1) (pgm 22 rfl)) ic_0 ?_
        refine so_istore (i := 4) X (dkX11_season (46, .istore 4, 2) (pgm 23 rfl)) (by decide) (Lf := fun x3 => [(4, .int x3), (3, .int x2), (0, .ref this), (1, .int a1), (2, .int a2)]) (fun _ => rfl) (fun x3 => ?_)
        refine so_iconst (v := (0 : Int32)) X (dkX11_season (48, .iconst 0, 1) (pgm 24 rfl)) ic_0 ?_
        refine so_istore (i := 5) X (dkX11_season (49, .istore 5, 2) (pgm 25 rfl)) (by decide) (Lf := fun x4 => [(5, .int x4), (4, .int x3), (3, .int x2), (0, .ref this), (1, .int a1), (2, .int a2)]) (fun _ => rfl) (fun x4 => ?_)
        refine so_pick (L' := [(0, .ref this), (2, .int a2), (3, .int x2), (4, .int x3), (5, .int x4)]) X [3, 5, 2, 1, 0] rfl ?_
        refine so_loop (body := b_X11_season_51 this a2) (fun (s51 : Int32 × Int32 × Int32) => [(0, .ref this), (2, .int a2), (3, .int s51.1), (4, .int s51.2.1), (5, .int s51.2.2)]) (fun rec51 hrec51 s51 hh51 => ?_) FU (x2, x3, x4) h0
        unfold b_X11_season_51
        refine so_iload (i := 5) X 4 (dkX11_season (51, .iload 5, 2) (pgm 26 rfl)) rfl ?_
        refine so_iload_n (i := 2) X 1 (dkX11_season (53, .iload_n 2, 1) (pgm 27 rfl)) rfl rfl ?_
        refine so_icmp_ge (tgt := 157) X (dkX11_season (54, .if_icmp .ge 103, 3) (pgm 28 rfl)) rfl (fun _ => ?_) (fun _ => ?_)
        · refine so_iload (i := 4) X 3 (dkX11_season (157, .iload 4, 2) (pgm 82 rfl)) rfl ?_
          exact so_iretX X hr hlk (Nat.le_of_ble_eq_true rfl) (Nat.le_of_ble_eq_true rfl) (dkX11_season (159, .ireturn, 1) (pgm 83 rfl))
        · refine so_iload_n (i := 3) X 2 (dkX11_season (57, .iload_n 3, 1) (pgm 29 rfl)) rfl rfl ?_
          refine so_callS (n := 1) (As := [.int s51.1]) X (ct_X11_drawn l s51.1 hh51 ) lk_1530 lk_1531 lk_121 lk_1532 (by decide +kernel) rfl rfl rfl (rm_okx (by omega) (by decide)) ⟨Nat.le_of_ble_eq_true rfl, Nat.le_of_ble_eq_true rfl⟩ (Nat.le_of_ble_eq_true rfl) (dkX11_season (58, .invokestatic 383, 3) (pgm 30 rfl)) (fun r5 h6 => ?_) rfl
          refine so_istore_n (i := 3) X (dkX11_season (61, .istore_n 3, 1) (pgm 31 rfl)) rfl (by decide) (Lf := fun x7 => [(3, .int x7), (0, .ref this), (2, .int a2), (4, .int s51.2.1), (5, .int s51.2.2)]) (fun _ => rfl) (fun x7 => ?_)
          refine so_iload_n (i := 3) X 0 (dkX11_season (62, .iload_n 3, 1) (pgm 32 rfl)) rfl rfl ?_
          refine so_bipush (v := (16 : Int32)) X (dkX11_season (63, .bipush 16, 2) (pgm 33 rfl)) bp_16 ?_
          refine so_iushr X (dkX11_season (65, .iushr, 1) (pgm 34 rfl)) rfl ?_
          refine so_aload_n (i := 0) X 1 (dkX11_season (66, .aload_n 0, 1) (pgm 35 rfl)) rfl rfl ?_
          refine sf_getR X ff_11_2 lk_567 hk (dkX11_season (67, .getfield 20, 3) (pgm 36 rfl)) ?_
          refine sf_getI X ff_8_3 lk_176 (fo (rk_11_2 this hk)) (dkX11_season (70, .getfield 386, 3) (pgm 37 rfl)) ?_
          refine so_iconst (v := (1 : Int32)) X (dkX11_season (73, .iconst 1, 1) (pgm 38 rfl)) ic_1 ?_
          refine so_iadd X (dkX11_season (74, .iadd, 1) (pgm 39 rfl)) ?_
          refine so_irem X (dkX11_season (75, .irem, 1) (pgm 40 rfl)) (fun _ => ?_)
          refine so_istore (i := 6) X (dkX11_season (76, .istore 6, 2) (pgm 41 rfl)) (by decide) (Lf := fun x8 => [(6, .int x8), (3, .int x7), (0, .ref this), (2, .int a2), (4, .int s51.2.1), (5, .int s51.2.2)]) (fun _ => rfl) (fun x8 => ?_)
          refine so_iconst (v := (0 : Int32)) X (dkX11_season (78, .iconst 0, 1) (pgm 42 rfl)) ic_0 ?_
          refine so_istore (i := 7) X (dkX11_season (79, .istore 7, 2) (pgm 43 rfl)) (by decide) (Lf := fun x9 => [(7, .int x9), (6, .int x8), (3, .int x7), (0, .ref this), (2, .int a2), (4, .int s51.2.1), (5, .int s51.2.2)]) (fun _ => rfl) (fun x9 => ?_)
          refine so_iconst (v := (0 : Int32)) X (dkX11_season (81, .iconst 0, 1) (pgm 44 rfl)) ic_0 ?_
          refine so_istore (i := 8) X (dkX11_season (82, .istore 8, 2) (pgm 45 rfl)) (by decide) (Lf := fun x10 => [(8, .int x10), (7, .int x9), (6, .int x8), (3, .int x7), (0, .ref this), (2, .int a2), (4, .int s51.2.1), (5, .int s51.2.2)]) (fun _ => rfl) (fun x10 => ?_)
          refine so_join (jf := fun (y11 : Int32) (y12 : Int32) (h13 : PH) => cb (f_X3_whyNot (rt this 6) y12.toInt64 (h13.1 (rt this 5) 0) h13) (fun (r14 : Int32) (h15 : PH) => lt (fun (y16 : Int32) (h17 : PH) => lt (s51.2.2 + Int32.ofInt 1) (fun (x18 : Int32) => rec51 (y11, y16, x18) h17)) (fun (j151 : Int32 → PH → Option ((Int32 ⊕ Nat) × PH)) => if r14 = 0 then (cb (f_X11_makeNight this y12 h15) (fun (r19 : Int32) (h20 : PH) => lt (s51.2.1 + Int32.ofInt 1) (fun (x21 : Int32) => j151 x21 h20))) else (j151 s51.2.1 h15)))) (fun (j : Int32 → Int32 → PH → Option ((Int32 ⊕ Nat) × PH)) => ∀ (y11 : Int32) (y12 : Int32) (h13 : PH), SWo (QX mkI below args s D cA ad A 1 6) p l e (rmx 6 1 6) s m args below meth c 0 0 9 D cA ad A 121 [(0, .ref this), (2, .int a2), (3, .int y11), (4, .int s51.2.1), (5, .int s51.2.2), (7, .int y12)] [] h13 (j y11 y12 h13)) ?_ (fun j121 hj121 => ?_)
          · intro y11 y12 h13
            refine so_aload_n (i := 0) X 0 (dkX11_season (121, .aload_n 0, 1) (pgm 66 rfl)) rfl rfl ?_
            refine sf_getR X ff_11_6 lk_571 hk (dkX11_season (122, .getfield 48, 3) (pgm 67 rfl)) ?_
            refine so_iload (i := 7) X 5 (dkX11_season (125, .iload 7, 2) (pgm 68 rfl)) rfl ?_
            refine so_i2l X (dkX11_season (127, .i2l, 1) (pgm 69 rfl)) ?_
            refine so_aload_n (i := 0) X 0 (dkX11_season (128, .aload_n 0, 1) (pgm 70 rfl)) rfl rfl ?_
            refine sf_getR X ff_11_5 lk_570 hk (dkX11_season (129, .getfield 39, 3) (pgm 71 rfl)) ?_
            refine sf_getI X ff_0_0 lk_338 (fo (rk_11_5 this hk)) (dkX11_season (132, .getfield 165, 3) (pgm 72 rfl)) ?_
            refine so_callV (n := 2) (As := [.long y12.toInt64, .int (h13.1 (rt this 5) 0)]) X (ct_X3_whyNot l (rt this 6) y12.toInt64 (h13.1 (rt this 5) 0) h13 (fo (rk_11_6 this hk))) (fo (rk_11_6 this hk)) (by decide) rfl lk_630 lk_631 lk_632 lk_126 lk_633 (by decide +kernel) rfl rfl rfl (rm_okx (by omega) (by decide)) ⟨Nat.le_of_ble_eq_true rfl, Nat.le_of_ble_eq_true rfl⟩ (Nat.le_of_ble_eq_true rfl) (dkX11_season (135, .invokevirtual 186, 3) (pgm 73 rfl)) (fun r14 h15 => ?_) rfl
            refine so_join (jf := fun (y16 : Int32) (h17 : PH) => lt (s51.2.2 + Int32.ofInt 1) (fun (x18 : Int32) => rec51 (y11, y16, x18) h17)) (fun (j : Int32 → PH → Option ((Int32 ⊕ Nat) × PH)) => ∀ (y16 : Int32) (h17 : PH), SWo (QX mkI below args s D cA ad A 1 6) p l e (rmx 6 1 6) s m args below meth c 0 0 9 D cA ad A 151 [(0, .ref this), (2, .int a2), (3, .int y11), (4, .int y16), (5, .int s51.2.2)] [] h17 (j y16 h17)) ?_ (fun j151 hj151 => ?_)
            · intro y16 h17
              refine so_iinc (i := 5) X 4 (dkX11_season (151, .iinc 5 1, 3) (pgm 80 rfl)) rfl rfl (by decide) (Lf := fun x18 => [(5, .int x18), (0, .ref this), (2, .int a2), (3, .int y11), (4, .int y16)]) (fun _ => rfl) (fun x18 => ?_)
              refine so_goto (tgt := 51) X (dkX11_season (154, .goto (-103), 3) (pgm 81 rfl)) rfl ?_
              exact so_pick X [1, 2, 3, 4, 0] rfl (hrec51 (y11, y16, x18) h17)
            refine so_if_ne (tgt := 151) X (dkX11_season (138, .ifCond .ne 13, 3) (pgm 74 rfl)) rfl (fun _ => ?_) (fun _ => ?_)
            · exact so_pick X [0, 1, 2, 3, 4] rfl (hj151 s51.2.1 h15)
            · refine so_aload_n (i := 0) X 0 (dkX11_season (141, .aload_n 0, 1) (pgm 75 rfl)) rfl rfl ?_
              refine so_iload (i := 7) X 5 (dkX11_season (142, .iload 7, 2) (pgm 76 rfl)) rfl ?_
              refine so_callV (n := 1) (As := [.int y12]) X (ct_X11_makeNight l this y12 h15 hk) hk (by decide) rfl lk_748 lk_750 lk_11 lk_121 lk_751 (by decide +kernel) rfl rfl rfl (rm_okx (by omega) (by decide)) ⟨Nat.le_of_ble_eq_true rfl, Nat.le_of_ble_eq_true rfl⟩ (Nat.le_of_ble_eq_true rfl) (dkX11_season (144, .invokevirtual 351, 3) (pgm 77 rfl)) (fun r19 h20 => ?_) rfl
              refine so_pop X (dkX11_season (147, .pop, 1) (pgm 78 rfl)) rfl ?_
              refine so_iinc (i := 4) X 3 (dkX11_season (148, .iinc 4 1, 3) (pgm 79 rfl)) rfl rfl (by decide) (Lf := fun x21 => [(4, .int x21), (0, .ref this), (2, .int a2), (3, .int y11), (5, .int s51.2.2), (7, .int y12)]) (fun _ => rfl) (fun x21 => ?_)
              exact so_pick X [1, 2, 3, 0, 4] rfl (hj151 x21 h20)
          refine so_pick (L' := [(0, .ref this), (2, .int a2), (3, .int x7), (4, .int s51.2.1), (5, .int s51.2.2), (6, .int x8), (7, .int x9), (8, .int x10)]) X [4, 5, 3, 6, 7, 2, 1, 0] rfl ?_
          refine so_loop (body := b_X11_season_84 this x8 j121) (fun (s84 : Int32 × Int32 × Int32) => [(0, .ref this), (2, .int a2), (3, .int s84.1), (4, .int s51.2.1), (5, .int s51.2.2), (6, .int x8), (7, .int s84.2.1), (8, .int s84.2.2)]) (fun rec84 hrec84 s84 hh84 => ?_) FU (x7, x9, x10) h6
          unfold b_X11_season_84
          refine so_iload (i := 8) X 7 (dkX11_season (84, .iload 8, 2) (pgm 46 rfl)) rfl ?_
          refine so_iload (i := 6) X 5 (dkX11_season (86, .iload 6, 2) (pgm 47 rfl)) rfl ?_
          refine so_icmp_ge (tgt := 121) X (dkX11_season (88, .if_icmp .ge 33, 3) (pgm 48 rfl)) rfl (fun _ => ?_) (fun _ => ?_)
          · exact so_pick X [0, 1, 2, 3, 4, 6] rfl (hj121 s84.1 s84.2.1 hh84)
          · refine so_iload_n (i := 3) X 2 (dkX11_season (91, .iload_n 3, 1) (pgm 49 rfl)) rfl rfl ?_
            refine so_callS (n := 1) (As := [.int s84.1]) X (ct_X11_drawn l s84.1 hh84 ) lk_1530 lk_1531 lk_121 lk_1532 (by decide +kernel) rfl rfl rfl (rm_okx (by omega) (by decide)) ⟨Nat.le_of_ble_eq_true rfl, Nat.le_of_ble_eq_true rfl⟩ (Nat.le_of_ble_eq_true rfl) (dkX11_season (92, .invokestatic 383, 3) (pgm 50 rfl)) (fun r22 h23 => ?_) rfl
            refine so_istore_n (i := 3) X (dkX11_season (95, .istore_n 3, 1) (pgm 51 rfl)) rfl (by decide) (Lf := fun x24 => [(3, .int x24), (0, .ref this), (2, .int a2), (4, .int s51.2.1), (5, .int s51.2.2), (6, .int x8), (7, .int s84.2.1), (8, .int s84.2.2)]) (fun _ => rfl) (fun x24 => ?_)
            refine so_iload (i := 7) X 6 (dkX11_season (96, .iload 7, 2) (pgm 52 rfl)) rfl ?_
            refine so_iconst (v := (1 : Int32)) X (dkX11_season (98, .iconst 1, 1) (pgm 53 rfl)) ic_1 ?_
            refine so_iload_n (i := 3) X 0 (dkX11_season (99, .iload_n 3, 1) (pgm 54 rfl)) rfl rfl ?_
            refine so_bipush (v := (16 : Int32)) X (dkX11_season (100, .bipush 16, 2) (pgm 55 rfl)) bp_16 ?_
            refine so_iushr X (dkX11_season (102, .iushr, 1) (pgm 56 rfl)) rfl ?_
            refine so_aload_n (i := 0) X 1 (dkX11_season (103, .aload_n 0, 1) (pgm 57 rfl)) rfl rfl ?_
            refine sf_getR X ff_11_2 lk_567 hk (dkX11_season (104, .getfield 20, 3) (pgm 58 rfl)) ?_
            refine sf_getI X ff_8_7 lk_196 (fo (rk_11_2 this hk)) (dkX11_season (107, .getfield 382, 3) (pgm 59 rfl)) ?_
            refine so_irem X (dkX11_season (110, .irem, 1) (pgm 60 rfl)) (fun _ => ?_)
            refine so_ishl X (dkX11_season (111, .ishl, 1) (pgm 61 rfl)) ?_
            refine so_ior X (dkX11_season (112, .ior, 1) (pgm 62 rfl)) ?_
            refine so_istore (i := 7) X (dkX11_season (113, .istore 7, 2) (pgm 63 rfl)) (by decide) (Lf := fun x25 => [(7, .int x25), (3, .int x24), (0, .ref this), (2, .int a2), (4, .int s51.2.1), (5, .int s51.2.2), (6, .int x8), (8, .int s84.2.2)]) (fun _ => rfl) (fun x25 => ?_)
            refine so_iinc (i := 8) X 7 (dkX11_season (115, .iinc 8 1, 3) (pgm 64 rfl)) rfl rfl (by decide) (Lf := fun x26 => [(8, .int x26), (7, .int x25), (3, .int x24), (0, .ref this), (2, .int a2), (4, .int s51.2.1), (5, .int s51.2.2), (6, .int x8)]) (fun _ => rfl) (fun x26 => ?_)
            refine so_goto (tgt := 84) X (dkX11_season (118, .goto (-34), 3) (pgm 65 rfl)) rfl ?_
            exact so_pick X [3, 4, 2, 5, 6, 7, 1, 0] rfl (hrec84 (x24, x25, x26) h23)
      · exact so_throwSW (n := 39) (tx := "no parishes") X hlt hlk htab 2 (pgm 39 rfl) lk_1367 lk_148 (by decide) at_RX11_230_2 (by decide) (dkX11_season (32, .new 226, 3) (pgm 15 rfl)) (dkX11_season (35, .dup, 1) (pgm 16 rfl)) (dkX11_season (36, .ldc_w 315, 3) (pgm 17 rfl)) (dkX11_season (39, .invokespecial 230, 3) (pgm 18 rfl)) (dkX11_season (42, .athrow, 1) (pgm 19 rfl)) (Nat.le_of_ble_eq_true rfl) (Nat.le_of_ble_eq_true rfl) (Nat.le_of_ble_eq_true rfl) (Nat.le_of_ble_eq_true rfl) (Nat.le_of_ble_eq_true rfl) (Nat.le_of_ble_eq_true rfl)
    · exact so_pick X [] rfl (hj11 h0)
def pgX11_takeReserve : List (Nat × Instr × Nat) := [(0, .aload_n 0, 1), (1, .iload_n 1, 1), (2, .invokevirtual 308, 3), (5, .astore 4, 2), (7, .iload_n 2, 1), (8, .iconst 1, 1), (9, .if_icmp .lt 19, 3), (12, .iload_n 2, 1), (13, .bipush 6, 2), (15, .if_icmp .gt 13, 3), (18, .iload_n 3, 1), (19, .ifCond .lt 9, 3), (22, .iload_n 3, 1), (23, .bipush 6, 2), (25, .if_icmp .le 14, 3), (28, .new 116, 3), (31, .dup, 1), (32, .ldc_w 400, 3), (35, .invokespecial 120, 3), (38, .athrow, 1), (39, .aload_n 0, 1), (40, .getfield 89, 3), (43, .aload 4, 2), (45, .invokevirtual 402, 3), (48, .ifCond .ne 14, 3), (51, .new 116, 3), (54, .dup, 1), (55, .ldc_w 403, 3), (58, .invokespecial 120, 3), (61, .athrow, 1), (62, .aload_n 0, 1), (63, .getfield 89, 3), (66, .iload_n 2, 1), (67, .invokevirtual 405, 3), (70, .return_, 1)]
theorem dkX11_takeReserve : ∀ q ∈ pgX11_takeReserve, decode cX11_takeReserve q.1 = .ok q.2 := by decide +kernel
def f_X11_takeReserve (this : Nat) (a1 : Int32) (a2 : Int32) (a3 : Int32) (h0 : PH) : Option ((Unit ⊕ Nat) × PH) :=
  cbx (f_X11_trayThere this a1 h0) (fun (r1 : Nat) (h2 : PH) => gk r1 10 (lt (fun (h3 : PH) => some (.inr 0, h3)) (fun (j28 : PH → Option ((Unit ⊕ Nat) × PH)) => if a2 < (1 : Int32) then (j28 h2) else (if (6 : Int32) < a2 then (j28 h2) else (if a3 < 0 then (j28 h2) else (if a3 ≤ (6 : Int32) then (cb (f_X4_take (rt this 11) r1 h2) (fun (r4 : Int32) (h5 : PH) => if r4 = 0 then (some (.inr 0, h5)) else (cb (f_X4_reckon (rt this 11) a2 h5) (fun (r6 : Unit) (h7 : PH) => some (.inl (), h7))))) else (j28 h2)))))))
set_option maxRecDepth 100000 in
set_option maxHeartbeats 4000000 in
theorem ct_X11_takeReserve (l : Launch) (hlt : l.stackTraces = false) (this : Nat) (a1 : Int32) (a2 : Int32) (a3 : Int32) (h0 : PH) (hk : (kd this).1 = 11) : CTx mkV l yX11_takeReserve cX11_takeReserve 5 none (rmx 7 2 12) 2 12 [.ref this, .int a1, .int a2, .int a3] h0 (f_X11_takeReserve this a1 a2 a3 h0) := by
  refine ctx_of (by decide) (Nat.le_of_ble_eq_true rfl) ?_
  intro p e s m args below meth c D cA ad A X hr hlk htab
  have X : Cx p s m args c RX11 cX11_takeReserve 5 D cA ad A := X
  unfold f_X11_takeReserve
  refine so_pick (L' := [(0, .ref this), (1, .int a1), (2, .int a2), (3, .int a3)]) X [0, 1, 2, 3] rfl ?_
  refine so_aload_n (i := 0) X 0 (dkX11_takeReserve (0, .aload_n 0, 1) (pgm 0 rfl)) rfl rfl ?_
  refine so_iload_n (i := 1) X 1 (dkX11_takeReserve (1, .iload_n 1, 1) (pgm 1 rfl)) rfl rfl ?_
  refine so_callX (n := 1) (As := [.int a1]) X hlk htab (ct_X11_trayThere l hlt this a1 h0 hk) hk (by decide) rfl lk_1362 lk_1364 lk_42 lk_121 lk_1365 (by decide +kernel) rfl rfl rfl (rm_okxx (by omega) (by decide)) ⟨Nat.le_of_ble_eq_true rfl, Nat.le_of_ble_eq_true rfl⟩ ⟨Nat.le_of_ble_eq_true rfl, Nat.le_of_ble_eq_true rfl⟩ (Nat.le_of_ble_eq_true rfl) (dkX11_takeReserve (2, .invokevirtual 308, 3) (pgm 2 rfl)) (fun r1 h2 => ?_) rfl
  refine so_gk (fun hkr1 => ?_)
  refine so_astore0 (i := 4) (L' := [(4, .ref r1), (0, .ref this), (1, .int a1), (2, .int a2), (3, .int a3)]) X (dkX11_takeReserve (5, .astore 4, 2) (pgm 3 rfl)) (by decide) rfl ?_
  refine so_iload_n (i := 2) X 3 (dkX11_takeReserve (7, .iload_n 2, 1) (pgm 4 rfl)) rfl rfl ?_
  refine so_iconst (v := (1 : Int32)) X (dkX11_takeReserve (8, .iconst 1, 1) (pgm 5 rfl)) ic_1 ?_
  refine so_join (jf := fun (h3 : PH) => some (.inr 0, h3)) (fun (j : PH → Option ((Unit ⊕ Nat) × PH)) => ∀  (h3 : PH), SWo (QX mkV below args s D cA ad A 2 12) p l e (rmx 7 2 12) s m args below meth c 1 6 5 D cA ad A 28 [] [] h3 (j h3)) ?_ (fun j28 hj28 => ?_)
  · intro h3
    exact so_throwSW (n := 46) (tx := "not so many nights or clouds") X hlt hlk htab 0 (pgm 46 rfl) lk_779 lk_139 (by decide) at_RX11_120_0 (by decide) (dkX11_takeReserve (28, .new 116, 3) (pgm 15 rfl)) (dkX11_takeReserve (31, .dup, 1) (pgm 16 rfl)) (dkX11_takeReserve (32, .ldc_w 400, 3) (pgm 17 rfl)) (dkX11_takeReserve (35, .invokespecial 120, 3) (pgm 18 rfl)) (dkX11_takeReserve (38, .athrow, 1) (pgm 19 rfl)) (Nat.le_of_ble_eq_true rfl) (Nat.le_of_ble_eq_true rfl) (Nat.le_of_ble_eq_true rfl) (Nat.le_of_ble_eq_true rfl) (Nat.le_of_ble_eq_true rfl) (Nat.le_of_ble_eq_true rfl)
  refine so_icmp_lt (tgt := 28) X (dkX11_takeReserve (9, .if_icmp .lt 19, 3) (pgm 6 rfl)) rfl (fun _ => ?_) (fun _ => ?_)
  · exact so_pick X [] rfl (hj28 h2)
  · refine so_iload_n (i := 2) X 3 (dkX11_takeReserve (12, .iload_n 2, 1) (pgm 7 rfl)) rfl rfl ?_
    refine so_bipush (v := (6 : Int32)) X (dkX11_takeReserve (13, .bipush 6, 2) (pgm 8 rfl)) bp_6 ?_
    refine so_icmp_gt (tgt := 28) X (dkX11_takeReserve (15, .if_icmp .gt 13, 3) (pgm 9 rfl)) rfl (fun _ => ?_) (fun _ => ?_)
    · exact so_pick X [] rfl (hj28 h2)
    · refine so_iload_n (i := 3) X 4 (dkX11_takeReserve (18, .iload_n 3, 1) (pgm 10 rfl)) rfl rfl ?_
      refine so_if_lt (tgt := 28) X (dkX11_takeReserve (19, .ifCond .lt 9, 3) (pgm 11 rfl)) rfl (fun _ => ?_) (fun _ => ?_)
      · exact so_pick X [] rfl (hj28 h2)
      · refine so_iload_n (i := 3) X 4 (dkX11_takeReserve (22, .iload_n 3, 1) (pgm 12 rfl)) rfl rfl ?_
        refine so_bipush (v := (6 : Int32)) X (dkX11_takeReserve (23, .bipush 6, 2) (pgm 13 rfl)) bp_6 ?_
        refine so_icmp_le (tgt := 39) X (dkX11_takeReserve (25, .if_icmp .le 14, 3) (pgm 14 rfl)) rfl (fun _ => ?_) (fun _ => ?_)
        · refine so_aload_n (i := 0) X 1 (dkX11_takeReserve (39, .aload_n 0, 1) (pgm 20 rfl)) rfl rfl ?_
          refine sf_getR X ff_11_11 lk_576 hk (dkX11_takeReserve (40, .getfield 89, 3) (pgm 21 rfl)) ?_
          refine so_aload (i := 4) X 0 (dkX11_takeReserve (43, .aload 4, 2) (pgm 22 rfl)) rfl ?_
          refine so_callV (n := 1) (As := [.ref r1]) X (ct_X4_take l (rt this 11) r1 h2 (fo (rk_11_11 this hk)) hkr1) (fo (rk_11_11 this hk)) (by decide) rfl lk_1546 lk_1547 lk_1548 lk_132 lk_1549 (by decide +kernel) rfl rfl rfl (rm_okx (by omega) (by decide)) ⟨Nat.le_of_ble_eq_true rfl, Nat.le_of_ble_eq_true rfl⟩ (Nat.le_of_ble_eq_true rfl) (dkX11_takeReserve (45, .invokevirtual 402, 3) (pgm 23 rfl)) (fun r4 h5 => ?_) rfl
          refine so_if_ne (tgt := 62) X (dkX11_takeReserve (48, .ifCond .ne 14, 3) (pgm 24 rfl)) rfl (fun _ => ?_) (fun _ => ?_)
          · refine so_aload_n (i := 0) X 1 (dkX11_takeReserve (62, .aload_n 0, 1) (pgm 30 rfl)) rfl rfl ?_
            refine sf_getR X ff_11_11 lk_576 hk (dkX11_takeReserve (63, .getfield 89, 3) (pgm 31 rfl)) ?_
            refine so_iload_n (i := 2) X 3 (dkX11_takeReserve (66, .iload_n 2, 1) (pgm 32 rfl)) rfl rfl ?_
            refine so_callV (n := 1) (As := [.int a2]) X (ct_X4_reckon l (rt this 11) a2 h5 (fo (rk_11_11 this hk))) (fo (rk_11_11 this hk)) (by decide) rfl lk_1552 lk_1553 lk_1554 lk_132 lk_1555 (by decide +kernel) rfl rfl rfl (rm_okx (by omega) (by decide)) ⟨Nat.le_of_ble_eq_true rfl, Nat.le_of_ble_eq_true rfl⟩ (Nat.le_of_ble_eq_true rfl) (dkX11_takeReserve (67, .invokevirtual 405, 3) (pgm 33 rfl)) (fun r6 h7 => ?_) rfl
            exact so_vretX X hr hlk (Nat.le_of_ble_eq_true rfl) (Nat.le_of_ble_eq_true rfl) (dkX11_takeReserve (70, .return_, 1) (pgm 34 rfl))
          · exact so_throwSW (n := 47) (tx := "numbers that are no weights") X hlt hlk htab 0 (pgm 47 rfl) lk_779 lk_139 (by decide) at_RX11_120_0 (by decide) (dkX11_takeReserve (51, .new 116, 3) (pgm 25 rfl)) (dkX11_takeReserve (54, .dup, 1) (pgm 26 rfl)) (dkX11_takeReserve (55, .ldc_w 403, 3) (pgm 27 rfl)) (dkX11_takeReserve (58, .invokespecial 120, 3) (pgm 28 rfl)) (dkX11_takeReserve (61, .athrow, 1) (pgm 29 rfl)) (Nat.le_of_ble_eq_true rfl) (Nat.le_of_ble_eq_true rfl) (Nat.le_of_ble_eq_true rfl) (Nat.le_of_ble_eq_true rfl) (Nat.le_of_ble_eq_true rfl) (Nat.le_of_ble_eq_true rfl)
        · exact so_pick X [] rfl (hj28 h2)
def pgX11_tray : List (Nat × Instr × Nat) := [(0, .iload_n 1, 1), (1, .ifCond .lt 8, 3), (4, .iload_n 1, 1), (5, .iconst 4, 1), (6, .if_icmp .lt 13, 3), (9, .new 201, 3), (12, .dup, 1), (13, .ldc 221, 2), (15, .invokespecial 205, 3), (18, .athrow, 1), (19, .iload_n 2, 1), (20, .ifCond .lt 18, 3), (23, .iload_n 2, 1), (24, .iconst 4, 1), (25, .if_icmp .ge 13, 3), (28, .iload_n 3, 1), (29, .ifCond .lt 9, 3), (32, .iload_n 3, 1), (33, .bipush 30, 2), (35, .if_icmp .le 14, 3), (38, .new 116, 3), (41, .dup, 1), (42, .ldc_w 408, 3), (45, .invokespecial 120, 3), (48, .athrow, 1), (49, .aload_n 0, 1), (50, .getfield 95, 3), (53, .iload_n 1, 1), (54, .aaload, 1), (55, .iload_n 2, 1), (56, .iload_n 3, 1), (57, .invokevirtual 410, 3), (60, .return_, 1)]
theorem dkX11_tray : ∀ q ∈ pgX11_tray, decode cX11_tray q.1 = .ok q.2 := by decide +kernel
def f_X11_tray (this : Nat) (a1 : Int32) (a2 : Int32) (a3 : Int32) (h0 : PH) : Option ((Unit ⊕ Nat) × PH) :=
  lt (fun (h1 : PH) => some (.inr 1, h1)) (fun (j9 : PH → Option ((Unit ⊕ Nat) × PH)) => if a1 < 0 then (j9 h0) else (if a1 < (4 : Int32) then (lt (fun (h2 : PH) => some (.inr 0, h2)) (fun (j38 : PH → Option ((Unit ⊕ Nat) × PH)) => if a2 < 0 then (j38 h0) else (if (4 : Int32) ≤ a2 then (j38 h0) else (if a3 < 0 then (j38 h0) else (if a3 ≤ (30 : Int32) then (ldR (rt this 12) 4 a1 (fun (v3 : Nat) => cb (f_X10_lay v3 a2 a3 h0) (fun (r4 : Unit) (h5 : PH) => some (.inl (), h5)))) else (j38 h0)))))) else (j9 h0)))
set_option maxRecDepth 100000 in
set_option maxHeartbeats 4000000 in
theorem ct_X11_tray (l : Launch) (hlt : l.stackTraces = false) (this : Nat) (a1 : Int32) (a2 : Int32) (a3 : Int32) (h0 : PH) (hk : (kd this).1 = 11) : CTx mkV l yX11_tray cX11_tray 4 none (rmx 6 1 6) 1 6 [.ref this, .int a1, .int a2, .int a3] h0 (f_X11_tray this a1 a2 a3 h0) := by
  refine ctx_of (by decide) (Nat.le_of_ble_eq_true rfl) ?_
  intro p e s m args below meth c D cA ad A X hr hlk htab
  have X : Cx p s m args c RX11 cX11_tray 4 D cA ad A := X
  unfold f_X11_tray
  refine so_pick (L' := [(0, .ref this), (1, .int a1), (2, .int a2), (3, .int a3)]) X [0, 1, 2, 3] rfl ?_
  refine so_iload_n (i := 1) X 1 (dkX11_tray (0, .iload_n 1, 1) (pgm 0 rfl)) rfl rfl ?_
  refine so_join (jf := fun (h1 : PH) => some (.inr 1, h1)) (fun (j : PH → Option ((Unit ⊕ Nat) × PH)) => ∀  (h1 : PH), SWo (QX mkV below args s D cA ad A 1 6) p l e (rmx 6 1 6) s m args below meth c 0 0 4 D cA ad A 9 [] [] h1 (j h1)) ?_ (fun j9 hj9 => ?_)
  · intro h1
    exact so_throwN (n := 37) (tx := "no such tray") X hlt hlk htab (pgm 37 rfl) lk_1136 lk_146 at_RX11_205_1 (dkX11_tray (9, .new 201, 3) (pgm 5 rfl)) (dkX11_tray (12, .dup, 1) (pgm 6 rfl)) (dkX11_tray (13, .ldc 221, 2) (pgm 7 rfl)) (dkX11_tray (15, .invokespecial 205, 3) (pgm 8 rfl)) (dkX11_tray (18, .athrow, 1) (pgm 9 rfl)) (Nat.le_of_ble_eq_true rfl) (Nat.le_of_ble_eq_true rfl) (Nat.le_of_ble_eq_true rfl) (Nat.le_of_ble_eq_true rfl) (Nat.le_of_ble_eq_true rfl) (Nat.le_of_ble_eq_true rfl)
  refine so_if_lt (tgt := 9) X (dkX11_tray (1, .ifCond .lt 8, 3) (pgm 1 rfl)) rfl (fun _ => ?_) (fun _ => ?_)
  · exact so_pick X [] rfl (hj9 h0)
  · refine so_iload_n (i := 1) X 1 (dkX11_tray (4, .iload_n 1, 1) (pgm 2 rfl)) rfl rfl ?_
    refine so_iconst (v := (4 : Int32)) X (dkX11_tray (5, .iconst 4, 1) (pgm 3 rfl)) ic_4 ?_
    refine so_icmp_lt (tgt := 19) X (dkX11_tray (6, .if_icmp .lt 13, 3) (pgm 4 rfl)) rfl (fun _ => ?_) (fun _ => ?_)
    · refine so_iload_n (i := 2) X 2 (dkX11_tray (19, .iload_n 2, 1) (pgm 10 rfl)) rfl rfl ?_
      refine so_join (jf := fun (h2 : PH) => some (.inr 0, h2)) (fun (j : PH → Option ((Unit ⊕ Nat) × PH)) => ∀  (h2 : PH), SWo (QX mkV below args s D cA ad A 1 6) p l e (rmx 6 1 6) s m args below meth c 0 0 4 D cA ad A 38 [] [] h2 (j h2)) ?_ (fun j38 hj38 => ?_)
      · intro h2
        exact so_throwSW (n := 48) (tx := "no such sort, or not so many") X hlt hlk htab 0 (pgm 48 rfl) lk_779 lk_139 (by decide) at_RX11_120_0 (by decide) (dkX11_tray (38, .new 116, 3) (pgm 20 rfl)) (dkX11_tray (41, .dup, 1) (pgm 21 rfl)) (dkX11_tray (42, .ldc_w 408, 3) (pgm 22 rfl)) (dkX11_tray (45, .invokespecial 120, 3) (pgm 23 rfl)) (dkX11_tray (48, .athrow, 1) (pgm 24 rfl)) (Nat.le_of_ble_eq_true rfl) (Nat.le_of_ble_eq_true rfl) (Nat.le_of_ble_eq_true rfl) (Nat.le_of_ble_eq_true rfl) (Nat.le_of_ble_eq_true rfl) (Nat.le_of_ble_eq_true rfl)
      refine so_if_lt (tgt := 38) X (dkX11_tray (20, .ifCond .lt 18, 3) (pgm 11 rfl)) rfl (fun _ => ?_) (fun _ => ?_)
      · exact so_pick X [] rfl (hj38 h0)
      · refine so_iload_n (i := 2) X 2 (dkX11_tray (23, .iload_n 2, 1) (pgm 12 rfl)) rfl rfl ?_
        refine so_iconst (v := (4 : Int32)) X (dkX11_tray (24, .iconst 4, 1) (pgm 13 rfl)) ic_4 ?_
        refine so_icmp_ge (tgt := 38) X (dkX11_tray (25, .if_icmp .ge 13, 3) (pgm 14 rfl)) rfl (fun _ => ?_) (fun _ => ?_)
        · exact so_pick X [] rfl (hj38 h0)
        · refine so_iload_n (i := 3) X 3 (dkX11_tray (28, .iload_n 3, 1) (pgm 15 rfl)) rfl rfl ?_
          refine so_if_lt (tgt := 38) X (dkX11_tray (29, .ifCond .lt 9, 3) (pgm 16 rfl)) rfl (fun _ => ?_) (fun _ => ?_)
          · exact so_pick X [] rfl (hj38 h0)
          · refine so_iload_n (i := 3) X 3 (dkX11_tray (32, .iload_n 3, 1) (pgm 17 rfl)) rfl rfl ?_
            refine so_bipush (v := (30 : Int32)) X (dkX11_tray (33, .bipush 30, 2) (pgm 18 rfl)) bp_30 ?_
            refine so_icmp_le (tgt := 49) X (dkX11_tray (35, .if_icmp .le 14, 3) (pgm 19 rfl)) rfl (fun _ => ?_) (fun _ => ?_)
            · refine so_aload_n (i := 0) X 0 (dkX11_tray (49, .aload_n 0, 1) (pgm 25 rfl)) rfl rfl ?_
              refine sf_getR X ff_11_12 lk_577 hk (dkX11_tray (50, .getfield 95, 3) (pgm 26 rfl)) ?_
              refine so_iload_n (i := 1) X 1 (dkX11_tray (53, .iload_n 1, 1) (pgm 27 rfl)) rfl rfl ?_
              refine so_aaldK X (rk_11_12 this hk) (by decide) (by decide) 6 (fun _ => rfl) rfl (re_11_12 this hk) (dkX11_tray (54, .aaload, 1) (pgm 28 rfl)) (fun v3 hv3 => ?_)
              refine so_iload_n (i := 2) X 2 (dkX11_tray (55, .iload_n 2, 1) (pgm 29 rfl)) rfl rfl ?_
              refine so_iload_n (i := 3) X 3 (dkX11_tray (56, .iload_n 3, 1) (pgm 30 rfl)) rfl rfl ?_
              refine so_callV (n := 2) (As := [.int a2, .int a3]) X (ct_X10_lay l v3 a2 a3 h0 (fo hv3)) (fo hv3) (by decide) rfl lk_1586 lk_1587 lk_1588 lk_133 lk_1589 (by decide +kernel) rfl rfl rfl (rm_okx (by omega) (by decide)) ⟨Nat.le_of_ble_eq_true rfl, Nat.le_of_ble_eq_true rfl⟩ (Nat.le_of_ble_eq_true rfl) (dkX11_tray (57, .invokevirtual 410, 3) (pgm 31 rfl)) (fun r4 h5 => ?_) rfl
              exact so_vretX X hr hlk (Nat.le_of_ble_eq_true rfl) (Nat.le_of_ble_eq_true rfl) (dkX11_tray (60, .return_, 1) (pgm 32 rfl))
            · exact so_pick X [] rfl (hj38 h0)
    · exact so_pick X [] rfl (hj9 h0)
def pgX11_write : List (Nat × Instr × Nat) := [(0, .aload_n 0, 1), (1, .iload_n 1, 1), (2, .invokevirtual 308, 3), (5, .astore 5, 2), (7, .iload_n 2, 1), (8, .ifCond .lt 12, 3), (11, .iload_n 2, 1), (12, .aload 5, 2), (14, .getfield 223, 3), (17, .if_icmp .lt 14, 3), (20, .new 412, 3), (23, .dup, 1), (24, .ldc_w 414, 3), (27, .invokespecial 416, 3), (30, .athrow, 1), (31, .aload 5, 2), (33, .iload_n 2, 1), (34, .lload_n 3, 1), (35, .invokevirtual 417, 3), (38, .lreturn, 1)]
theorem dkX11_write : ∀ q ∈ pgX11_write, decode cX11_write q.1 = .ok q.2 := by decide +kernel
def f_X11_write (this : Nat) (a1 : Int32) (a2 : Int32) (a3 : Int64) (h0 : PH) : Option ((Int64 ⊕ Nat) × PH) :=
  cbx (f_X11_trayThere this a1 h0) (fun (r1 : Nat) (h2 : PH) => gk r1 10 (lt (fun (h3 : PH) => some (.inr 3, h3)) (fun (j20 : PH → Option ((Int64 ⊕ Nat) × PH)) => if a2 < 0 then (j20 h2) else (if a2 < (h2.1 r1 1) then (cb (f_X10_put r1 a2 a3 h2) (fun (r4 : Int64) (h5 : PH) => some (.inl r4, h5))) else (j20 h2)))))
set_option maxRecDepth 100000 in
set_option maxHeartbeats 4000000 in
theorem ct_X11_write (l : Launch) (hlt : l.stackTraces = false) (this : Nat) (a1 : Int32) (a2 : Int32) (a3 : Int64) (h0 : PH) (hk : (kd this).1 = 11) : CTx mkL l yX11_write cX11_write 6 (some .long) (rmx 7 2 12) 2 12 [.ref this, .int a1, .int a2, .long a3] h0 (f_X11_write this a1 a2 a3 h0) := by
  refine ctx_of (by decide) (Nat.le_of_ble_eq_true rfl) ?_
  intro p e s m args below meth c D cA ad A X hr hlk htab
  have X : Cx p s m args c RX11 cX11_write 6 D cA ad A := X
  unfold f_X11_write
  refine so_pick (L' := [(0, .ref this), (1, .int a1), (2, .int a2), (3, .long a3)]) X [0, 1, 2, 3] rfl ?_
  refine so_aload_n (i := 0) X 0 (dkX11_write (0, .aload_n 0, 1) (pgm 0 rfl)) rfl rfl ?_
  refine so_iload_n (i := 1) X 1 (dkX11_write (1, .iload_n 1, 1) (pgm 1 rfl)) rfl rfl ?_
  refine so_callX (n := 1) (As := [.int a1]) X hlk htab (ct_X11_trayThere l hlt this a1 h0 hk) hk (by decide) rfl lk_1362 lk_1364 lk_42 lk_121 lk_1365 (by decide +kernel) rfl rfl rfl (rm_okxx (by omega) (by decide)) ⟨Nat.le_of_ble_eq_true rfl, Nat.le_of_ble_eq_true rfl⟩ ⟨Nat.le_of_ble_eq_true rfl, Nat.le_of_ble_eq_true rfl⟩ (Nat.le_of_ble_eq_true rfl) (dkX11_write (2, .invokevirtual 308, 3) (pgm 2 rfl)) (fun r1 h2 => ?_) rfl
  refine so_gk (fun hkr1 => ?_)
  refine so_astore0 (i := 5) (L' := [(5, .ref r1), (0, .ref this), (1, .int a1), (2, .int a2), (3, .long a3)]) X (dkX11_write (5, .astore 5, 2) (pgm 3 rfl)) (by decide) rfl ?_
  refine so_iload_n (i := 2) X 3 (dkX11_write (7, .iload_n 2, 1) (pgm 4 rfl)) rfl rfl ?_
  refine so_join (jf := fun (h3 : PH) => some (.inr 3, h3)) (fun (j : PH → Option ((Int64 ⊕ Nat) × PH)) => ∀  (h3 : PH), SWo (QX mkL below args s D cA ad A 2 12) p l e (rmx 7 2 12) s m args below meth c 1 6 6 D cA ad A 20 [] [] h3 (j h3)) ?_ (fun j20 hj20 => ?_)
  · intro h3
    exact so_throwSW (n := 49) (tx := "no such place") X hlt hlk htab 3 (pgm 49 rfl) lk_1601 lk_149 (by decide) at_RX11_416_3 (by decide) (dkX11_write (20, .new 412, 3) (pgm 10 rfl)) (dkX11_write (23, .dup, 1) (pgm 11 rfl)) (dkX11_write (24, .ldc_w 414, 3) (pgm 12 rfl)) (dkX11_write (27, .invokespecial 416, 3) (pgm 13 rfl)) (dkX11_write (30, .athrow, 1) (pgm 14 rfl)) (Nat.le_of_ble_eq_true rfl) (Nat.le_of_ble_eq_true rfl) (Nat.le_of_ble_eq_true rfl) (Nat.le_of_ble_eq_true rfl) (Nat.le_of_ble_eq_true rfl) (Nat.le_of_ble_eq_true rfl)
  refine so_if_lt (tgt := 20) X (dkX11_write (8, .ifCond .lt 12, 3) (pgm 5 rfl)) rfl (fun _ => ?_) (fun _ => ?_)
  · exact so_pick X [] rfl (hj20 h2)
  · refine so_iload_n (i := 2) X 3 (dkX11_write (11, .iload_n 2, 1) (pgm 6 rfl)) rfl rfl ?_
    refine so_aload (i := 5) X 0 (dkX11_write (12, .aload 5, 2) (pgm 7 rfl)) rfl ?_
    refine sf_getI X ff_10_1 lk_550 hkr1 (dkX11_write (14, .getfield 223, 3) (pgm 8 rfl)) ?_
    refine so_icmp_lt (tgt := 31) X (dkX11_write (17, .if_icmp .lt 14, 3) (pgm 9 rfl)) rfl (fun _ => ?_) (fun _ => ?_)
    · refine so_aload (i := 5) X 0 (dkX11_write (31, .aload 5, 2) (pgm 15 rfl)) rfl ?_
      refine so_iload_n (i := 2) X 3 (dkX11_write (33, .iload_n 2, 1) (pgm 16 rfl)) rfl rfl ?_
      refine so_lload_n (i := 3) X 4 (dkX11_write (34, .lload_n 3, 1) (pgm 17 rfl)) rfl rfl ?_
      refine so_callV (n := 2) (As := [.int a2, .long a3]) X (ct_X10_put l r1 a2 a3 h2 hkr1) hkr1 (by decide) rfl lk_1617 lk_1618 lk_1619 lk_133 lk_1620 (by decide +kernel) rfl rfl rfl (rm_okx (by omega) (by decide)) ⟨Nat.le_of_ble_eq_true rfl, Nat.le_of_ble_eq_true rfl⟩ (Nat.le_of_ble_eq_true rfl) (dkX11_write (35, .invokevirtual 417, 3) (pgm 18 rfl)) (fun r4 h5 => ?_) rfl
      exact so_lretX X hr hlk (Nat.le_of_ble_eq_true rfl) (Nat.le_of_ble_eq_true rfl) (dkX11_write (38, .lreturn, 1) (pgm 19 rfl))
    · exact so_pick X [] rfl (hj20 h2)
def pgX11_pour : List (Nat × Instr × Nat) := [(0, .aload_n 0, 1), (1, .iload_n 1, 1), (2, .invokevirtual 308, 3), (5, .astore_n 2, 1), (6, .aload_n 0, 1), (7, .getfield 57, 3), (10, .invokevirtual 194, 3), (13, .astore_n 3, 1), (14, .aload_n 2, 1), (15, .getfield 223, 3), (18, .aload_n 3, 1), (19, .getfield 198, 3), (22, .invokestatic 421, 3), (25, .istore 4, 2), (27, .iconst 0, 1), (28, .istore 5, 2), (30, .iload 5, 2), (32, .iload 4, 2), (34, .if_icmp .ge 24, 3), (37, .aload_n 2, 1), (38, .iload 5, 2), (40, .aload_n 3, 1), (41, .getfield 426, 3), (44, .iload 5, 2), (46, .iaload, 1), (47, .i2l, 1), (48, .invokevirtual 417, 3), (51, .pop2, 1), (52, .iinc 5 1, 3), (55, .goto (-25), 3), (58, .iload 4, 2), (60, .ireturn, 1)]
theorem dkX11_pour : ∀ q ∈ pgX11_pour, decode cX11_pour q.1 = .ok q.2 := by decide +kernel
def b_X11_pour_30 (this : Nat) (r1 : Nat) (x5 : Int32) (rec30 : (Int32) → PH → Option ((Int32 ⊕ Nat) × PH)) (s30 : Int32) (hh30 : PH) : Option ((Int32 ⊕ Nat) × PH) :=
  if x5 ≤ s30 then (some (.inl x5, hh30)) else (ldI hh30 (rt (rt this 7) 3) 4096 s30 (fun (x7 : Int32) => cb (f_X10_put r1 s30 x7.toInt64 hh30) (fun (r8 : Int64) (h9 : PH) => lt (s30 + Int32.ofInt 1) (fun (x10 : Int32) => rec30 x10 h9))))
def f_X11_pour (this : Nat) (a1 : Int32) (h0 : PH) : Option ((Int32 ⊕ Nat) × PH) :=
  cbx (f_X11_trayThere this a1 h0) (fun (r1 : Nat) (h2 : PH) => gk r1 10 (cb (f_X2_settled (rt this 7) h2) (fun (r3 : Unit) (h4 : PH) => lt (if (h4.1 (rt this 7) 4) < (h4.1 r1 1) then (h4.1 (rt this 7) 4) else (h4.1 r1 1)) (fun (x5 : Int32) => lt (0 : Int32) (fun (x6 : Int32) => lp (b_X11_pour_30 this r1 x5) FU x6 h4)))))
set_option maxRecDepth 100000 in
set_option maxHeartbeats 4000000 in
theorem ct_X11_pour (l : Launch) (hlt : l.stackTraces = false) (this : Nat) (a1 : Int32) (h0 : PH) (hk : (kd this).1 = 11) : CTx mkI l yX11_pour cX11_pour 6 (some .int) (rmx 7 1 6) 1 6 [.ref this, .int a1] h0 (f_X11_pour this a1 h0) := by
  refine ctx_of (by decide) (Nat.le_of_ble_eq_true rfl) ?_
  intro p e s m args below meth c D cA ad A X hr hlk htab
  have X : Cx p s m args c RX11 cX11_pour 6 D cA ad A := X
  unfold f_X11_pour
  refine so_pick (L' := [(0, .ref this), (1, .int a1)]) X [0, 1] rfl ?_
  refine so_aload_n (i := 0) X 0 (dkX11_pour (0, .aload_n 0, 1) (pgm 0 rfl)) rfl rfl ?_
  refine so_iload_n (i := 1) X 1 (dkX11_pour (1, .iload_n 1, 1) (pgm 1 rfl)) rfl rfl ?_
  refine so_callX (n := 1) (As := [.int a1]) X hlk htab (ct_X11_trayThere l hlt this a1 h0 hk) hk (by decide) rfl lk_1362 lk_1364 lk_42 lk_121 lk_1365 (by decide +kernel) rfl rfl rfl (rm_okxx (by omega) (by decide)) ⟨Nat.le_of_ble_eq_true rfl, Nat.le_of_ble_eq_true rfl⟩ ⟨Nat.le_of_ble_eq_true rfl, Nat.le_of_ble_eq_true rfl⟩ (Nat.le_of_ble_eq_true rfl) (dkX11_pour (2, .invokevirtual 308, 3) (pgm 2 rfl)) (fun r1 h2 => ?_) rfl
  refine so_gk (fun hkr1 => ?_)
  refine so_astore_n0 (i := 2) (L' := [(2, .ref r1), (0, .ref this), (1, .int a1)]) X (dkX11_pour (5, .astore_n 2, 1) (pgm 3 rfl)) rfl (by decide) rfl ?_
  refine so_aload_n (i := 0) X 1 (dkX11_pour (6, .aload_n 0, 1) (pgm 4 rfl)) rfl rfl ?_
  refine sf_getR X ff_11_7 lk_572 hk (dkX11_pour (7, .getfield 57, 3) (pgm 5 rfl)) ?_
  refine so_callV (n := 0) (As := []) X (ct_X2_settled l (rt this 7) h2 (fo (rk_11_7 this hk))) (fo (rk_11_7 this hk)) (by decide) rfl lk_666 lk_667 lk_668 lk_128 lk_669 (by decide +kernel) rfl rfl rfl (rm_okx (by omega) (by decide)) ⟨Nat.le_of_ble_eq_true rfl, Nat.le_of_ble_eq_true rfl⟩ (Nat.le_of_ble_eq_true rfl) (dkX11_pour (10, .invokevirtual 194, 3) (pgm 6 rfl)) (fun r3 h4 => ?_) rfl
  refine so_astore_n0 (i := 3) (L' := [(3, .ref (rt this 7)), (2, .ref r1), (0, .ref this), (1, .int a1)]) X (dkX11_pour (13, .astore_n 3, 1) (pgm 7 rfl)) rfl (by decide) rfl ?_
  refine so_aload_n (i := 2) X 1 (dkX11_pour (14, .aload_n 2, 1) (pgm 8 rfl)) rfl rfl ?_
  refine sf_getI X ff_10_1 lk_550 hkr1 (dkX11_pour (15, .getfield 223, 3) (pgm 9 rfl)) ?_
  refine so_aload_n (i := 3) X 0 (dkX11_pour (18, .aload_n 3, 1) (pgm 10 rfl)) rfl rfl ?_
  refine sf_getI X ff_2_4 lk_394 (fo (rk_11_7 this hk)) (dkX11_pour (19, .getfield 198, 3) (pgm 11 rfl)) ?_
  refine so_mmin X lk_1628 lk_904 lk_135 lk_905 (Nat.le_of_ble_eq_true rfl) (Nat.le_of_ble_eq_true rfl) ⟨Nat.le_of_ble_eq_true rfl, Nat.le_of_ble_eq_true rfl⟩ (dkX11_pour (22, .invokestatic 421, 3) (pgm 12 rfl)) ?_
  refine so_istore (i := 4) X (dkX11_pour (25, .istore 4, 2) (pgm 13 rfl)) (by decide) (Lf := fun x5 => [(4, .int x5), (3, .ref (rt this 7)), (2, .ref r1), (0, .ref this), (1, .int a1)]) (fun _ => rfl) (fun x5 => ?_)
  refine so_iconst (v := (0 : Int32)) X (dkX11_pour (27, .iconst 0, 1) (pgm 14 rfl)) ic_0 ?_
  refine so_istore (i := 5) X (dkX11_pour (28, .istore 5, 2) (pgm 15 rfl)) (by decide) (Lf := fun x6 => [(5, .int x6), (4, .int x5), (3, .ref (rt this 7)), (2, .ref r1), (0, .ref this), (1, .int a1)]) (fun _ => rfl) (fun x6 => ?_)
  refine so_pick (L' := [(2, .ref r1), (3, .ref (rt this 7)), (4, .int x5), (5, .int x6)]) X [3, 2, 1, 0] rfl ?_
  refine so_loop (body := b_X11_pour_30 this r1 x5) (fun (s30 : Int32) => [(2, .ref r1), (3, .ref (rt this 7)), (4, .int x5), (5, .int s30)]) (fun rec30 hrec30 s30 hh30 => ?_) FU x6 h4
  unfold b_X11_pour_30
  refine so_iload (i := 5) X 3 (dkX11_pour (30, .iload 5, 2) (pgm 16 rfl)) rfl ?_
  refine so_iload (i := 4) X 2 (dkX11_pour (32, .iload 4, 2) (pgm 17 rfl)) rfl ?_
  refine so_icmp_ge (tgt := 58) X (dkX11_pour (34, .if_icmp .ge 24, 3) (pgm 18 rfl)) rfl (fun _ => ?_) (fun _ => ?_)
  · refine so_iload (i := 4) X 2 (dkX11_pour (58, .iload 4, 2) (pgm 30 rfl)) rfl ?_
    exact so_iretX X hr hlk (Nat.le_of_ble_eq_true rfl) (Nat.le_of_ble_eq_true rfl) (dkX11_pour (60, .ireturn, 1) (pgm 31 rfl))
  · refine so_aload_n (i := 2) X 0 (dkX11_pour (37, .aload_n 2, 1) (pgm 19 rfl)) rfl rfl ?_
    refine so_iload (i := 5) X 3 (dkX11_pour (38, .iload 5, 2) (pgm 20 rfl)) rfl ?_
    refine so_aload_n (i := 3) X 1 (dkX11_pour (40, .aload_n 3, 1) (pgm 21 rfl)) rfl rfl ?_
    refine sf_getR X ff_2_3 lk_391 (fo (rk_11_7 this hk)) (dkX11_pour (41, .getfield 426, 3) (pgm 22 rfl)) ?_
    refine so_iload (i := 5) X 3 (dkX11_pour (44, .iload 5, 2) (pgm 23 rfl)) rfl ?_
    refine so_iald X (rk_2_3 (rt this 7) (fo (rk_11_7 this hk))) (dkX11_pour (46, .iaload, 1) (pgm 24 rfl)) (fun x7 => ?_)
    refine so_i2l X (dkX11_pour (47, .i2l, 1) (pgm 25 rfl)) ?_
    refine so_callV (n := 2) (As := [.int s30, .long x7.toInt64]) X (ct_X10_put l r1 s30 x7.toInt64 hh30 hkr1) hkr1 (by decide) rfl lk_1617 lk_1618 lk_1619 lk_133 lk_1620 (by decide +kernel) rfl rfl rfl (rm_okx (by omega) (by decide)) ⟨Nat.le_of_ble_eq_true rfl, Nat.le_of_ble_eq_true rfl⟩ (Nat.le_of_ble_eq_true rfl) (dkX11_pour (48, .invokevirtual 417, 3) (pgm 26 rfl)) (fun r8 h9 => ?_) rfl
    refine so_pop2 X (dkX11_pour (51, .pop2, 1) (pgm 27 rfl)) rfl ?_
    refine so_iinc (i := 5) X 3 (dkX11_pour (52, .iinc 5 1, 3) (pgm 28 rfl)) rfl rfl (by decide) (Lf := fun x10 => [(5, .int x10), (2, .ref r1), (3, .ref (rt this 7)), (4, .int x5)]) (fun _ => rfl) (fun x10 => ?_)
    refine so_goto (tgt := 30) X (dkX11_pour (55, .goto (-25), 3) (pgm 29 rfl)) rfl ?_
    exact so_pick X [1, 2, 3, 0] rfl (hrec30 x10 h9)
def pgX11_checkImage : List (Nat × Instr × Nat) := [(0, .iload_n 1, 1), (1, .ifCond .lt 8, 3), (4, .iload_n 1, 1), (5, .iconst 3, 1), (6, .if_icmp .lt 14, 3), (9, .new 201, 3), (12, .dup, 1), (13, .ldc_w 437, 3), (16, .invokespecial 205, 3), (19, .athrow, 1), (20, .return_, 1)]
theorem dkX11_checkImage : ∀ q ∈ pgX11_checkImage, decode cX11_checkImage q.1 = .ok q.2 := by decide +kernel
def f_X11_checkImage (this : Nat) (a1 : Int32) (h0 : PH) : Option ((Unit ⊕ Nat) × PH) :=
  lt (fun (h1 : PH) => some (.inr 1, h1)) (fun (j9 : PH → Option ((Unit ⊕ Nat) × PH)) => if a1 < 0 then (j9 h0) else (if a1 < (3 : Int32) then (some (.inl (), h0)) else (j9 h0)))
set_option maxRecDepth 100000 in
set_option maxHeartbeats 4000000 in
theorem ct_X11_checkImage (l : Launch) (hlt : l.stackTraces = false) (this : Nat) (a1 : Int32) (h0 : PH) (hk : (kd this).1 = 11) : CTx mkV l yX11_checkImage cX11_checkImage 2 none (rmx 6 1 6) 1 6 [.ref this, .int a1] h0 (f_X11_checkImage this a1 h0) := by
  refine ctx_of (by decide) (Nat.le_of_ble_eq_true rfl) ?_
  intro p e s m args below meth c D cA ad A X hr hlk htab
  have X : Cx p s m args c RX11 cX11_checkImage 2 D cA ad A := X
  unfold f_X11_checkImage
  refine so_pick (L' := [(0, .ref this), (1, .int a1)]) X [0, 1] rfl ?_
  refine so_iload_n (i := 1) X 1 (dkX11_checkImage (0, .iload_n 1, 1) (pgm 0 rfl)) rfl rfl ?_
  refine so_join (jf := fun (h1 : PH) => some (.inr 1, h1)) (fun (j : PH → Option ((Unit ⊕ Nat) × PH)) => ∀  (h1 : PH), SWo (QX mkV below args s D cA ad A 1 6) p l e (rmx 6 1 6) s m args below meth c 0 0 2 D cA ad A 9 [] [] h1 (j h1)) ?_ (fun j9 hj9 => ?_)
  · intro h1
    exact so_throwNW (n := 50) (tx := "no such image") X hlt hlk htab (pgm 50 rfl) lk_1136 lk_146 at_RX11_205_1 (dkX11_checkImage (9, .new 201, 3) (pgm 5 rfl)) (dkX11_checkImage (12, .dup, 1) (pgm 6 rfl)) (dkX11_checkImage (13, .ldc_w 437, 3) (pgm 7 rfl)) (dkX11_checkImage (16, .invokespecial 205, 3) (pgm 8 rfl)) (dkX11_checkImage (19, .athrow, 1) (pgm 9 rfl)) (Nat.le_of_ble_eq_true rfl) (Nat.le_of_ble_eq_true rfl) (Nat.le_of_ble_eq_true rfl) (Nat.le_of_ble_eq_true rfl) (Nat.le_of_ble_eq_true rfl) (Nat.le_of_ble_eq_true rfl)
  refine so_if_lt (tgt := 9) X (dkX11_checkImage (1, .ifCond .lt 8, 3) (pgm 1 rfl)) rfl (fun _ => ?_) (fun _ => ?_)
  · exact so_pick X [] rfl (hj9 h0)
  · refine so_iload_n (i := 1) X 1 (dkX11_checkImage (4, .iload_n 1, 1) (pgm 2 rfl)) rfl rfl ?_
    refine so_iconst (v := (3 : Int32)) X (dkX11_checkImage (5, .iconst 3, 1) (pgm 3 rfl)) ic_3 ?_
    refine so_icmp_lt (tgt := 20) X (dkX11_checkImage (6, .if_icmp .lt 14, 3) (pgm 4 rfl)) rfl (fun _ => ?_) (fun _ => ?_)
    · exact so_vretX X hr hlk (Nat.le_of_ble_eq_true rfl) (Nat.le_of_ble_eq_true rfl) (dkX11_checkImage (20, .return_, 1) (pgm 10 rfl))
    · exact so_pick X [] rfl (hj9 h0)
def pgX11_wish : List (Nat × Instr × Nat) := [(0, .aload_n 0, 1), (1, .iload_n 1, 1), (2, .invokevirtual 152, 3), (5, .iload_n 2, 1), (6, .tableswitch 101 0 5 #[38, 48, 58, 70, 82, 92], 38), (44, .aload_n 0, 1), (45, .getfield 20, 3), (48, .getfield 155, 3), (51, .iload_n 1, 1), (52, .iaload, 1), (53, .ireturn, 1), (54, .aload_n 0, 1), (55, .getfield 20, 3), (58, .getfield 159, 3), (61, .iload_n 1, 1), (62, .iaload, 1), (63, .ireturn, 1), (64, .aload_n 0, 1), (65, .getfield 20, 3), (68, .getfield 162, 3), (71, .iload_n 1, 1), (72, .ishr, 1), (73, .iconst 1, 1), (74, .iand, 1), (75, .ireturn, 1), (76, .aload_n 0, 1), (77, .getfield 39, 3), (80, .getfield 165, 3), (83, .iload_n 1, 1), (84, .ishr, 1), (85, .iconst 1, 1), (86, .iand, 1), (87, .ireturn, 1), (88, .aload_n 0, 1), (89, .getfield 39, 3), (92, .getfield 168, 3), (95, .iload_n 1, 1), (96, .iaload, 1), (97, .ireturn, 1), (98, .aload_n 0, 1), (99, .getfield 48, 3), (102, .iload_n 1, 1), (103, .invokevirtual 171, 3), (106, .ireturn, 1), (107, .new 116, 3), (110, .dup, 1), (111, .ldc 175, 2), (113, .invokespecial 120, 3), (116, .athrow, 1)]
theorem dkX11_wish : ∀ q ∈ pgX11_wish, decode cX11_wish q.1 = .ok q.2 := by decide +kernel
def f_X11_wish (this : Nat) (a1 : Int32) (a2 : Int32) (h0 : PH) : Option ((Int32 ⊕ Nat) × PH) :=
  cbx (f_X11_checkWish this a1 h0) (fun (r1 : Unit) (h2 : PH) => if a2.toInt < 0 ∨ 5 < a2.toInt then (some (.inr 0, h2)) else ([ldI h2 (rt (rt this 2) 12) 10 a1 (fun (x3 : Int32) => some (.inl x3, h2)), ldI h2 (rt (rt this 2) 13) 10 a1 (fun (x4 : Int32) => some (.inl x4, h2)), some (.inl (((h2.1 (rt this 2) 6) >>> (a1 &&& 31)) &&& (1 : Int32)), h2), some (.inl (((h2.1 (rt this 5) 0) >>> (a1 &&& 31)) &&& (1 : Int32)), h2), ldI h2 (rt (rt this 5) 1) 10 a1 (fun (x5 : Int32) => some (.inl x5, h2)), cb (f_X3_weathersOf (rt this 6) a1 h2) (fun (r6 : Int32) (h7 : PH) => some (.inl r6, h7))] : List (Option ((Int32 ⊕ Nat) × PH))).getD (a2.toInt - 0).toNat none)
set_option maxRecDepth 100000 in
set_option maxHeartbeats 4000000 in
theorem ct_X11_wish (l : Launch) (hlt : l.stackTraces = false) (this : Nat) (a1 : Int32) (a2 : Int32) (h0 : PH) (hk : (kd this).1 = 11) : CTx mkI l yX11_wish cX11_wish 3 (some .int) (rmx 7 2 12) 2 12 [.ref this, .int a1, .int a2] h0 (f_X11_wish this a1 a2 h0) := by
  refine ctx_of (by decide) (Nat.le_of_ble_eq_true rfl) ?_
  intro p e s m args below meth c D cA ad A X hr hlk htab
  have X : Cx p s m args c RX11 cX11_wish 3 D cA ad A := X
  unfold f_X11_wish
  refine so_pick (L' := [(0, .ref this), (1, .int a1), (2, .int a2)]) X [0, 1, 2] rfl ?_
  refine so_aload_n (i := 0) X 0 (dkX11_wish (0, .aload_n 0, 1) (pgm 0 rfl)) rfl rfl ?_
  refine so_iload_n (i := 1) X 1 (dkX11_wish (1, .iload_n 1, 1) (pgm 1 rfl)) rfl rfl ?_
  refine so_callX (n := 1) (As := [.int a1]) X hlk htab (ct_X11_checkWish l hlt this a1 h0 hk) hk (by decide) rfl lk_1132 lk_1134 lk_33 lk_121 lk_1135 (by decide +kernel) rfl rfl rfl (rm_okxx (by omega) (by decide)) ⟨Nat.le_of_ble_eq_true rfl, Nat.le_of_ble_eq_true rfl⟩ ⟨Nat.le_of_ble_eq_true rfl, Nat.le_of_ble_eq_true rfl⟩ (Nat.le_of_ble_eq_true rfl) (dkX11_wish (2, .invokevirtual 152, 3) (pgm 2 rfl)) (fun r1 h2 => ?_) rfl
  refine so_iload_n (i := 2) X 2 (dkX11_wish (5, .iload_n 2, 1) (pgm 3 rfl)) rfl rfl ?_
  refine so_tsw (tgt := 107) (os := ([ldI h2 (rt (rt this 2) 12) 10 a1 (fun (x3 : Int32) => some (.inl x3, h2)), ldI h2 (rt (rt this 2) 13) 10 a1 (fun (x4 : Int32) => some (.inl x4, h2)), some (.inl (((h2.1 (rt this 2) 6) >>> (a1 &&& 31)) &&& (1 : Int32)), h2), some (.inl (((h2.1 (rt this 5) 0) >>> (a1 &&& 31)) &&& (1 : Int32)), h2), ldI h2 (rt (rt this 5) 1) 10 a1 (fun (x5 : Int32) => some (.inl x5, h2)), cb (f_X3_weathersOf (rt this 6) a1 h2) (fun (r6 : Int32) (h7 : PH) => some (.inl r6, h7))] : List (Option ((Int32 ⊕ Nat) × PH)))) X (dkX11_wish (6, .tableswitch 101 0 5 #[38, 48, 58, 70, 82, 92], 38) (pgm 4 rfl)) rfl ?_ ?_ rfl
  · exact so_throwS (n := 29) (tx := "another what") X hlt hlk htab 0 (pgm 29 rfl) lk_779 lk_139 (by decide) at_RX11_120_0 (by decide) (dkX11_wish (107, .new 116, 3) (pgm 44 rfl)) (dkX11_wish (110, .dup, 1) (pgm 45 rfl)) (dkX11_wish (111, .ldc 175, 2) (pgm 46 rfl)) (dkX11_wish (113, .invokespecial 120, 3) (pgm 47 rfl)) (dkX11_wish (116, .athrow, 1) (pgm 48 rfl)) (Nat.le_of_ble_eq_true rfl) (Nat.le_of_ble_eq_true rfl) (Nat.le_of_ble_eq_true rfl) (Nat.le_of_ble_eq_true rfl) (Nat.le_of_ble_eq_true rfl) (Nat.le_of_ble_eq_true rfl)
  · intro kq ok hkq
    match kq, hkq with
    | 0, hkq =>
      obtain rfl := Option.some.inj hkq
      refine ⟨38, 44, rfl, rfl, ?_⟩
      refine so_aload_n (i := 0) X 0 (dkX11_wish (44, .aload_n 0, 1) (pgm 5 rfl)) rfl rfl ?_
      refine sf_getR X ff_11_2 lk_567 hk (dkX11_wish (45, .getfield 20, 3) (pgm 6 rfl)) ?_
      refine sf_getR X ff_8_12 lk_210 (fo (rk_11_2 this hk)) (dkX11_wish (48, .getfield 155, 3) (pgm 7 rfl)) ?_
      refine so_iload_n (i := 1) X 1 (dkX11_wish (51, .iload_n 1, 1) (pgm 8 rfl)) rfl rfl ?_
      refine so_iald X (rk_8_12 (rt this 2) (fo (rk_11_2 this hk))) (dkX11_wish (52, .iaload, 1) (pgm 9 rfl)) (fun x3 => ?_)
      exact so_iretX X hr hlk (Nat.le_of_ble_eq_true rfl) (Nat.le_of_ble_eq_true rfl) (dkX11_wish (53, .ireturn, 1) (pgm 10 rfl))
    | 1, hkq =>
      obtain rfl := Option.some.inj hkq
      refine ⟨48, 54, rfl, rfl, ?_⟩
      refine so_aload_n (i := 0) X 0 (dkX11_wish (54, .aload_n 0, 1) (pgm 11 rfl)) rfl rfl ?_
      refine sf_getR X ff_11_2 lk_567 hk (dkX11_wish (55, .getfield 20, 3) (pgm 12 rfl)) ?_
      refine sf_getR X ff_8_13 lk_215 (fo (rk_11_2 this hk)) (dkX11_wish (58, .getfield 159, 3) (pgm 13 rfl)) ?_
      refine so_iload_n (i := 1) X 1 (dkX11_wish (61, .iload_n 1, 1) (pgm 14 rfl)) rfl rfl ?_
      refine so_iald X (rk_8_13 (rt this 2) (fo (rk_11_2 this hk))) (dkX11_wish (62, .iaload, 1) (pgm 15 rfl)) (fun x4 => ?_)
      exact so_iretX X hr hlk (Nat.le_of_ble_eq_true rfl) (Nat.le_of_ble_eq_true rfl) (dkX11_wish (63, .ireturn, 1) (pgm 16 rfl))
    | 2, hkq =>
      obtain rfl := Option.some.inj hkq
      refine ⟨58, 64, rfl, rfl, ?_⟩
      refine so_aload_n (i := 0) X 0 (dkX11_wish (64, .aload_n 0, 1) (pgm 17 rfl)) rfl rfl ?_
      refine sf_getR X ff_11_2 lk_567 hk (dkX11_wish (65, .getfield 20, 3) (pgm 18 rfl)) ?_
      refine sf_getI X ff_8_6 lk_188 (fo (rk_11_2 this hk)) (dkX11_wish (68, .getfield 162, 3) (pgm 19 rfl)) ?_
      refine so_iload_n (i := 1) X 1 (dkX11_wish (71, .iload_n 1, 1) (pgm 20 rfl)) rfl rfl ?_
      refine so_ishr X (dkX11_wish (72, .ishr, 1) (pgm 21 rfl)) ?_
      refine so_iconst (v := (1 : Int32)) X (dkX11_wish (73, .iconst 1, 1) (pgm 22 rfl)) ic_1 ?_
      refine so_iand X (dkX11_wish (74, .iand, 1) (pgm 23 rfl)) ?_
      exact so_iretX X hr hlk (Nat.le_of_ble_eq_true rfl) (Nat.le_of_ble_eq_true rfl) (dkX11_wish (75, .ireturn, 1) (pgm 24 rfl))
    | 3, hkq =>
      obtain rfl := Option.some.inj hkq
      refine ⟨70, 76, rfl, rfl, ?_⟩
      refine so_aload_n (i := 0) X 0 (dkX11_wish (76, .aload_n 0, 1) (pgm 25 rfl)) rfl rfl ?_
      refine sf_getR X ff_11_5 lk_570 hk (dkX11_wish (77, .getfield 39, 3) (pgm 26 rfl)) ?_
      refine sf_getI X ff_0_0 lk_338 (fo (rk_11_5 this hk)) (dkX11_wish (80, .getfield 165, 3) (pgm 27 rfl)) ?_
      refine so_iload_n (i := 1) X 1 (dkX11_wish (83, .iload_n 1, 1) (pgm 28 rfl)) rfl rfl ?_
      refine so_ishr X (dkX11_wish (84, .ishr, 1) (pgm 29 rfl)) ?_
      refine so_iconst (v := (1 : Int32)) X (dkX11_wish (85, .iconst 1, 1) (pgm 30 rfl)) ic_1 ?_
      refine so_iand X (dkX11_wish (86, .iand, 1) (pgm 31 rfl)) ?_
      exact so_iretX X hr hlk (Nat.le_of_ble_eq_true rfl) (Nat.le_of_ble_eq_true rfl) (dkX11_wish (87, .ireturn, 1) (pgm 32 rfl))
    | 4, hkq =>
      obtain rfl := Option.some.inj hkq
      refine ⟨82, 88, rfl, rfl, ?_⟩
      refine so_aload_n (i := 0) X 0 (dkX11_wish (88, .aload_n 0, 1) (pgm 33 rfl)) rfl rfl ?_
      refine sf_getR X ff_11_5 lk_570 hk (dkX11_wish (89, .getfield 39, 3) (pgm 34 rfl)) ?_
      refine sf_getR X ff_0_1 lk_341 (fo (rk_11_5 this hk)) (dkX11_wish (92, .getfield 168, 3) (pgm 35 rfl)) ?_
      refine so_iload_n (i := 1) X 1 (dkX11_wish (95, .iload_n 1, 1) (pgm 36 rfl)) rfl rfl ?_
      refine so_iald X (rk_0_1 (rt this 5) (fo (rk_11_5 this hk))) (dkX11_wish (96, .iaload, 1) (pgm 37 rfl)) (fun x5 => ?_)
      exact so_iretX X hr hlk (Nat.le_of_ble_eq_true rfl) (Nat.le_of_ble_eq_true rfl) (dkX11_wish (97, .ireturn, 1) (pgm 38 rfl))
    | 5, hkq =>
      obtain rfl := Option.some.inj hkq
      refine ⟨92, 98, rfl, rfl, ?_⟩
      refine so_aload_n (i := 0) X 0 (dkX11_wish (98, .aload_n 0, 1) (pgm 39 rfl)) rfl rfl ?_
      refine sf_getR X ff_11_6 lk_571 hk (dkX11_wish (99, .getfield 48, 3) (pgm 40 rfl)) ?_
      refine so_iload_n (i := 1) X 1 (dkX11_wish (102, .iload_n 1, 1) (pgm 41 rfl)) rfl rfl ?_
      refine so_callV (n := 1) (As := [.int a1]) X (ct_X3_weathersOf l (rt this 6) a1 h2 (fo (rk_11_6 this hk))) (fo (rk_11_6 this hk)) (by decide) rfl lk_1152 lk_1153 lk_1154 lk_126 lk_1155 (by decide +kernel) rfl rfl rfl (rm_okx (by omega) (by decide)) ⟨Nat.le_of_ble_eq_true rfl, Nat.le_of_ble_eq_true rfl⟩ (Nat.le_of_ble_eq_true rfl) (dkX11_wish (103, .invokevirtual 171, 3) (pgm 42 rfl)) (fun r6 h7 => ?_) rfl
      exact so_iretX X hr hlk (Nat.le_of_ble_eq_true rfl) (Nat.le_of_ble_eq_true rfl) (dkX11_wish (106, .ireturn, 1) (pgm 43 rfl))
    | kq + 6, hkq => simp at hkq
def pgX11_weather : List (Nat × Instr × Nat) := [(0, .aload_n 0, 1), (1, .iload_n 1, 1), (2, .invokevirtual 177, 3), (5, .aload_n 0, 1), (6, .getfield 20, 3), (9, .iload_n 1, 1), (10, .invokevirtual 180, 3), (13, .ireturn, 1)]
theorem dkX11_weather : ∀ q ∈ pgX11_weather, decode cX11_weather q.1 = .ok q.2 := by decide +kernel
def f_X11_weather (this : Nat) (a1 : Int32) (h0 : PH) : Option ((Int32 ⊕ Nat) × PH) :=
  cbx (f_X11_checkCells this a1 h0) (fun (r1 : Unit) (h2 : PH) => cb (f_X8_weatherOf (rt this 2) a1 h2) (fun (r3 : Int32) (h4 : PH) => some (.inl r3, h4)))
set_option maxRecDepth 100000 in
set_option maxHeartbeats 4000000 in
theorem ct_X11_weather (l : Launch) (hlt : l.stackTraces = false) (this : Nat) (a1 : Int32) (h0 : PH) (hk : (kd this).1 = 11) : CTx mkI l yX11_weather cX11_weather 2 (some .int) (rmx 7 1 6) 1 6 [.ref this, .int a1] h0 (f_X11_weather this a1 h0) := by
  refine ctx_of (by decide) (Nat.le_of_ble_eq_true rfl) ?_
  intro p e s m args below meth c D cA ad A X hr hlk htab
  have X : Cx p s m args c RX11 cX11_weather 2 D cA ad A := X
  unfold f_X11_weather
  refine so_pick (L' := [(0, .ref this), (1, .int a1)]) X [0, 1] rfl ?_
  refine so_aload_n (i := 0) X 0 (dkX11_weather (0, .aload_n 0, 1) (pgm 0 rfl)) rfl rfl ?_
  refine so_iload_n (i := 1) X 1 (dkX11_weather (1, .iload_n 1, 1) (pgm 1 rfl)) rfl rfl ?_
  refine so_callX (n := 1) (As := [.int a1]) X hlk htab (ct_X11_checkCells l hlt this a1 h0 hk) hk (by decide) rfl lk_1164 lk_1166 lk_34 lk_121 lk_1167 (by decide +kernel) rfl rfl rfl (rm_okxx (by omega) (by decide)) ⟨Nat.le_of_ble_eq_true rfl, Nat.le_of_ble_eq_true rfl⟩ ⟨Nat.le_of_ble_eq_true rfl, Nat.le_of_ble_eq_true rfl⟩ (Nat.le_of_ble_eq_true rfl) (dkX11_weather (2, .invokevirtual 177, 3) (pgm 2 rfl)) (fun r1 h2 => ?_) rfl
  refine so_aload_n (i := 0) X 0 (dkX11_weather (5, .aload_n 0, 1) (pgm 3 rfl)) rfl rfl ?_
  refine sf_getR X ff_11_2 lk_567 hk (dkX11_weather (6, .getfield 20, 3) (pgm 4 rfl)) ?_
  refine so_iload_n (i := 1) X 1 (dkX11_weather (9, .iload_n 1, 1) (pgm 5 rfl)) rfl rfl ?_
  refine so_callV (n := 1) (As := [.int a1]) X (ct_X8_weatherOf l (rt this 2) a1 h2 (fo (rk_11_2 this hk))) (fo (rk_11_2 this hk)) (by decide) rfl lk_1169 lk_641 lk_642 lk_122 lk_643 (by decide +kernel) rfl rfl rfl (rm_okx (by omega) (by decide)) ⟨Nat.le_of_ble_eq_true rfl, Nat.le_of_ble_eq_true rfl⟩ (Nat.le_of_ble_eq_true rfl) (dkX11_weather (10, .invokevirtual 180, 3) (pgm 6 rfl)) (fun r3 h4 => ?_) rfl
  exact so_iretX X hr hlk (Nat.le_of_ble_eq_true rfl) (Nat.le_of_ble_eq_true rfl) (dkX11_weather (13, .ireturn, 1) (pgm 7 rfl))
def pgX11_holds : List (Nat × Instr × Nat) := [(0, .aload_n 0, 1), (1, .iload_n 1, 1), (2, .invokevirtual 152, 3), (5, .aload_n 0, 1), (6, .iload_n 2, 1), (7, .invokevirtual 177, 3), (10, .aload_n 0, 1), (11, .getfield 48, 3), (14, .iload_n 2, 1), (15, .invokevirtual 183, 3), (18, .iload_n 1, 1), (19, .ishr, 1), (20, .iconst 1, 1), (21, .iand, 1), (22, .iconst 1, 1), (23, .if_icmp .ne 7, 3), (26, .iconst 1, 1), (27, .goto 4, 3), (30, .iconst 0, 1), (31, .ireturn, 1)]
theorem dkX11_holds : ∀ q ∈ pgX11_holds, decode cX11_holds q.1 = .ok q.2 := by decide +kernel
def f_X11_holds (this : Nat) (a1 : Int32) (a2 : Int32) (h0 : PH) : Option ((Int32 ⊕ Nat) × PH) :=
  cbx (f_X11_checkWish this a1 h0) (fun (r1 : Unit) (h2 : PH) => cbx (f_X11_checkCells this a2 h2) (fun (r3 : Unit) (h4 : PH) => cb (f_X3_at (rt this 6) a2 h4) (fun (r5 : Int32) (h6 : PH) => lt (fun (t7 : Int32) (h8 : PH) => zrx t7 h8) (fun (j31 : Int32 → PH → Option ((Int32 ⊕ Nat) × PH)) => if ((r5 >>> (a1 &&& 31)) &&& (1 : Int32)) = (1 : Int32) then (j31 (1 : Int32) h6) else (j31 (0 : Int32) h6)))))
set_option maxRecDepth 100000 in
set_option maxHeartbeats 4000000 in
theorem ct_X11_holds (l : Launch) (hlt : l.stackTraces = false) (this : Nat) (a1 : Int32) (a2 : Int32) (h0 : PH) (hk : (kd this).1 = 11) : CTx mkI l yX11_holds cX11_holds 3 (some .boolean) (rmx 7 2 12) 2 12 [.ref this, .int a1, .int a2] h0 (f_X11_holds this a1 a2 h0) := by
  refine ctx_of (by decide) (Nat.le_of_ble_eq_true rfl) ?_
  intro p e s m args below meth c D cA ad A X hr hlk htab
  have X : Cx p s m args c RX11 cX11_holds 3 D cA ad A := X
  unfold f_X11_holds
  refine so_pick (L' := [(0, .ref this), (1, .int a1), (2, .int a2)]) X [0, 1, 2] rfl ?_
  refine so_aload_n (i := 0) X 0 (dkX11_holds (0, .aload_n 0, 1) (pgm 0 rfl)) rfl rfl ?_
  refine so_iload_n (i := 1) X 1 (dkX11_holds (1, .iload_n 1, 1) (pgm 1 rfl)) rfl rfl ?_
  refine so_callX (n := 1) (As := [.int a1]) X hlk htab (ct_X11_checkWish l hlt this a1 h0 hk) hk (by decide) rfl lk_1132 lk_1134 lk_33 lk_121 lk_1135 (by decide +kernel) rfl rfl rfl (rm_okxx (by omega) (by decide)) ⟨Nat.le_of_ble_eq_true rfl, Nat.le_of_ble_eq_true rfl⟩ ⟨Nat.le_of_ble_eq_true rfl, Nat.le_of_ble_eq_true rfl⟩ (Nat.le_of_ble_eq_true rfl) (dkX11_holds (2, .invokevirtual 152, 3) (pgm 2 rfl)) (fun r1 h2 => ?_) rfl
  refine so_aload_n (i := 0) X 0 (dkX11_holds (5, .aload_n 0, 1) (pgm 3 rfl)) rfl rfl ?_
  refine so_iload_n (i := 2) X 2 (dkX11_holds (6, .iload_n 2, 1) (pgm 4 rfl)) rfl rfl ?_
  refine so_callX (n := 1) (As := [.int a2]) X hlk htab (ct_X11_checkCells l hlt this a2 h2 hk) hk (by decide) rfl lk_1164 lk_1166 lk_34 lk_121 lk_1167 (by decide +kernel) rfl rfl rfl (rm_okxx (by omega) (by decide)) ⟨Nat.le_of_ble_eq_true rfl, Nat.le_of_ble_eq_true rfl⟩ ⟨Nat.le_of_ble_eq_true rfl, Nat.le_of_ble_eq_true rfl⟩ (Nat.le_of_ble_eq_true rfl) (dkX11_holds (7, .invokevirtual 177, 3) (pgm 5 rfl)) (fun r3 h4 => ?_) rfl
  refine so_aload_n (i := 0) X 0 (dkX11_holds (10, .aload_n 0, 1) (pgm 6 rfl)) rfl rfl ?_
  refine sf_getR X ff_11_6 lk_571 hk (dkX11_holds (11, .getfield 48, 3) (pgm 7 rfl)) ?_
  refine so_iload_n (i := 2) X 2 (dkX11_holds (14, .iload_n 2, 1) (pgm 8 rfl)) rfl rfl ?_
  refine so_callV (n := 1) (As := [.int a2]) X (ct_X3_at l (rt this 6) a2 h4 (fo (rk_11_6 this hk))) (fo (rk_11_6 this hk)) (by decide) rfl lk_1177 lk_645 lk_646 lk_126 lk_647 (by decide +kernel) rfl rfl rfl (rm_okx (by omega) (by decide)) ⟨Nat.le_of_ble_eq_true rfl, Nat.le_of_ble_eq_true rfl⟩ (Nat.le_of_ble_eq_true rfl) (dkX11_holds (15, .invokevirtual 183, 3) (pgm 9 rfl)) (fun r5 h6 => ?_) rfl
  refine so_iload_n (i := 1) X 1 (dkX11_holds (18, .iload_n 1, 1) (pgm 10 rfl)) rfl rfl ?_
  refine so_ishr X (dkX11_holds (19, .ishr, 1) (pgm 11 rfl)) ?_
  refine so_iconst (v := (1 : Int32)) X (dkX11_holds (20, .iconst 1, 1) (pgm 12 rfl)) ic_1 ?_
  refine so_iand X (dkX11_holds (21, .iand, 1) (pgm 13 rfl)) ?_
  refine so_iconst (v := (1 : Int32)) X (dkX11_holds (22, .iconst 1, 1) (pgm 14 rfl)) ic_1 ?_
  refine so_join (jf := fun (t7 : Int32) (h8 : PH) => zrx t7 h8) (fun (j : Int32 → PH → Option ((Int32 ⊕ Nat) × PH)) => ∀ (t7 : Int32) (h8 : PH), SWo (QX mkI below args s D cA ad A 2 12) p l e (rmx 7 2 12) s m args below meth c 2 12 3 D cA ad A 31 [] [.int t7] h8 (j t7 h8)) ?_ (fun j31 hj31 => ?_)
  · intro t7 h8
    exact so_zretX X hr hlk (Nat.le_of_ble_eq_true rfl) (Nat.le_of_ble_eq_true rfl) (dkX11_holds (31, .ireturn, 1) (pgm 19 rfl))
  refine so_icmp_ne (tgt := 30) X (dkX11_holds (23, .if_icmp .ne 7, 3) (pgm 15 rfl)) rfl (fun _ => ?_) (fun _ => ?_)
  · refine so_iconst (v := (0 : Int32)) X (dkX11_holds (30, .iconst 0, 1) (pgm 18 rfl)) ic_0 ?_
    exact so_pick X [] rfl (hj31 (0 : Int32) h6)
  · refine so_iconst (v := (1 : Int32)) X (dkX11_holds (26, .iconst 1, 1) (pgm 16 rfl)) ic_1 ?_
    refine so_goto (tgt := 31) X (dkX11_holds (27, .goto 4, 3) (pgm 17 rfl)) rfl ?_
    exact so_pick X [] rfl (hj31 (1 : Int32) h6)
def pgX11_granted : List (Nat × Instr × Nat) := [(0, .aload_n 0, 1), (1, .iload_n 1, 1), (2, .invokevirtual 177, 3), (5, .aload_n 0, 1), (6, .getfield 48, 3), (9, .iload_n 1, 1), (10, .aload_n 0, 1), (11, .getfield 39, 3), (14, .getfield 165, 3), (17, .invokevirtual 190, 3), (20, .ireturn, 1)]
theorem dkX11_granted : ∀ q ∈ pgX11_granted, decode cX11_granted q.1 = .ok q.2 := by decide +kernel
def f_X11_granted (this : Nat) (a1 : Int32) (h0 : PH) : Option ((Int32 ⊕ Nat) × PH) :=
  cbx (f_X11_checkCells this a1 h0) (fun (r1 : Unit) (h2 : PH) => cb (f_X3_grantedBy (rt this 6) a1 (h2.1 (rt this 5) 0) h2) (fun (r3 : Int32) (h4 : PH) => some (.inl r3, h4)))
set_option maxRecDepth 100000 in
set_option maxHeartbeats 4000000 in
theorem ct_X11_granted (l : Launch) (hlt : l.stackTraces = false) (this : Nat) (a1 : Int32) (h0 : PH) (hk : (kd this).1 = 11) : CTx mkI l yX11_granted cX11_granted 2 (some .int) (rmx 7 1 6) 1 6 [.ref this, .int a1] h0 (f_X11_granted this a1 h0) := by
  refine ctx_of (by decide) (Nat.le_of_ble_eq_true rfl) ?_
  intro p e s m args below meth c D cA ad A X hr hlk htab
  have X : Cx p s m args c RX11 cX11_granted 2 D cA ad A := X
  unfold f_X11_granted
  refine so_pick (L' := [(0, .ref this), (1, .int a1)]) X [0, 1] rfl ?_
  refine so_aload_n (i := 0) X 0 (dkX11_granted (0, .aload_n 0, 1) (pgm 0 rfl)) rfl rfl ?_
  refine so_iload_n (i := 1) X 1 (dkX11_granted (1, .iload_n 1, 1) (pgm 1 rfl)) rfl rfl ?_
  refine so_callX (n := 1) (As := [.int a1]) X hlk htab (ct_X11_checkCells l hlt this a1 h0 hk) hk (by decide) rfl lk_1164 lk_1166 lk_34 lk_121 lk_1167 (by decide +kernel) rfl rfl rfl (rm_okxx (by omega) (by decide)) ⟨Nat.le_of_ble_eq_true rfl, Nat.le_of_ble_eq_true rfl⟩ ⟨Nat.le_of_ble_eq_true rfl, Nat.le_of_ble_eq_true rfl⟩ (Nat.le_of_ble_eq_true rfl) (dkX11_granted (2, .invokevirtual 177, 3) (pgm 2 rfl)) (fun r1 h2 => ?_) rfl
  refine so_aload_n (i := 0) X 0 (dkX11_granted (5, .aload_n 0, 1) (pgm 3 rfl)) rfl rfl ?_
  refine sf_getR X ff_11_6 lk_571 hk (dkX11_granted (6, .getfield 48, 3) (pgm 4 rfl)) ?_
  refine so_iload_n (i := 1) X 1 (dkX11_granted (9, .iload_n 1, 1) (pgm 5 rfl)) rfl rfl ?_
  refine so_aload_n (i := 0) X 0 (dkX11_granted (10, .aload_n 0, 1) (pgm 6 rfl)) rfl rfl ?_
  refine sf_getR X ff_11_5 lk_570 hk (dkX11_granted (11, .getfield 39, 3) (pgm 7 rfl)) ?_
  refine sf_getI X ff_0_0 lk_338 (fo (rk_11_5 this hk)) (dkX11_granted (14, .getfield 165, 3) (pgm 8 rfl)) ?_
  refine so_callV (n := 2) (As := [.int a1, .int (h2.1 (rt this 5) 0)]) X (ct_X3_grantedBy l (rt this 6) a1 (h2.1 (rt this 5) 0) h2 (fo (rk_11_6 this hk))) (fo (rk_11_6 this hk)) (by decide) rfl lk_752 lk_677 lk_678 lk_126 lk_679 (by decide +kernel) rfl rfl rfl (rm_okx (by omega) (by decide)) ⟨Nat.le_of_ble_eq_true rfl, Nat.le_of_ble_eq_true rfl⟩ (Nat.le_of_ble_eq_true rfl) (dkX11_granted (17, .invokevirtual 190, 3) (pgm 9 rfl)) (fun r3 h4 => ?_) rfl
  exact so_iretX X hr hlk (Nat.le_of_ble_eq_true rfl) (Nat.le_of_ble_eq_true rfl) (dkX11_granted (20, .ireturn, 1) (pgm 10 rfl))
def pgX11_holding : List (Nat × Instr × Nat) := [(0, .aload_n 0, 1), (1, .iload_n 1, 1), (2, .iload_n 2, 1), (3, .iload_n 3, 1), (4, .invokevirtual 390, 3), (7, .aload_n 0, 1), (8, .getfield 89, 3), (11, .iload_n 2, 1), (12, .iload_n 3, 1), (13, .invokevirtual 394, 3), (16, .lreturn, 1)]
theorem dkX11_holding : ∀ q ∈ pgX11_holding, decode cX11_holding q.1 = .ok q.2 := by decide +kernel
def f_X11_holding (this : Nat) (a1 : Int32) (a2 : Int32) (a3 : Int32) (h0 : PH) : Option ((Int64 ⊕ Nat) × PH) :=
  cbx (f_X11_takeReserve this a1 a2 a3 h0) (fun (r1 : Unit) (h2 : PH) => cb (f_X4_worthOf (rt this 11) a2 a3 h2) (fun (r3 : Int64) (h4 : PH) => some (.inl r3, h4)))
set_option maxRecDepth 100000 in
set_option maxHeartbeats 4000000 in
theorem ct_X11_holding (l : Launch) (hlt : l.stackTraces = false) (this : Nat) (a1 : Int32) (a2 : Int32) (a3 : Int32) (h0 : PH) (hk : (kd this).1 = 11) : CTx mkL l yX11_holding cX11_holding 4 (some .long) (rmx 8 2 12) 2 12 [.ref this, .int a1, .int a2, .int a3] h0 (f_X11_holding this a1 a2 a3 h0) := by
  refine ctx_of (by decide) (Nat.le_of_ble_eq_true rfl) ?_
  intro p e s m args below meth c D cA ad A X hr hlk htab
  have X : Cx p s m args c RX11 cX11_holding 4 D cA ad A := X
  unfold f_X11_holding
  refine so_pick (L' := [(0, .ref this), (1, .int a1), (2, .int a2), (3, .int a3)]) X [0, 1, 2, 3] rfl ?_
  refine so_aload_n (i := 0) X 0 (dkX11_holding (0, .aload_n 0, 1) (pgm 0 rfl)) rfl rfl ?_
  refine so_iload_n (i := 1) X 1 (dkX11_holding (1, .iload_n 1, 1) (pgm 1 rfl)) rfl rfl ?_
  refine so_iload_n (i := 2) X 2 (dkX11_holding (2, .iload_n 2, 1) (pgm 2 rfl)) rfl rfl ?_
  refine so_iload_n (i := 3) X 3 (dkX11_holding (3, .iload_n 3, 1) (pgm 3 rfl)) rfl rfl ?_
  refine so_callX (n := 3) (As := [.int a1, .int a2, .int a3]) X hlk htab (ct_X11_takeReserve l hlt this a1 a2 a3 h0 hk) hk (by decide) rfl lk_1541 lk_1543 lk_52 lk_121 lk_1544 (by decide +kernel) rfl rfl rfl (rm_okxx (by omega) (by decide)) ⟨Nat.le_of_ble_eq_true rfl, Nat.le_of_ble_eq_true rfl⟩ ⟨Nat.le_of_ble_eq_true rfl, Nat.le_of_ble_eq_true rfl⟩ (Nat.le_of_ble_eq_true rfl) (dkX11_holding (4, .invokevirtual 390, 3) (pgm 4 rfl)) (fun r1 h2 => ?_) rfl
  refine so_aload_n (i := 0) X 0 (dkX11_holding (7, .aload_n 0, 1) (pgm 5 rfl)) rfl rfl ?_
  refine sf_getR X ff_11_11 lk_576 hk (dkX11_holding (8, .getfield 89, 3) (pgm 6 rfl)) ?_
  refine so_iload_n (i := 2) X 2 (dkX11_holding (11, .iload_n 2, 1) (pgm 7 rfl)) rfl rfl ?_
  refine so_iload_n (i := 3) X 3 (dkX11_holding (12, .iload_n 3, 1) (pgm 8 rfl)) rfl rfl ?_
  refine so_callV (n := 2) (As := [.int a2, .int a3]) X (ct_X4_worthOf l (rt this 11) a2 a3 h2 (fo (rk_11_11 this hk))) (fo (rk_11_11 this hk)) (by decide) rfl lk_1563 lk_1564 lk_1565 lk_132 lk_1566 (by decide +kernel) rfl rfl rfl (rm_okx (by omega) (by decide)) ⟨Nat.le_of_ble_eq_true rfl, Nat.le_of_ble_eq_true rfl⟩ (Nat.le_of_ble_eq_true rfl) (dkX11_holding (13, .invokevirtual 394, 3) (pgm 9 rfl)) (fun r3 h4 => ?_) rfl
  exact so_lretX X hr hlk (Nat.le_of_ble_eq_true rfl) (Nat.le_of_ble_eq_true rfl) (dkX11_holding (16, .lreturn, 1) (pgm 10 rfl))
def pgX11_grants : List (Nat × Instr × Nat) := [(0, .aload_n 0, 1), (1, .iload_n 1, 1), (2, .iload_n 2, 1), (3, .iload_n 3, 1), (4, .invokevirtual 390, 3), (7, .aload_n 0, 1), (8, .getfield 89, 3), (11, .iload_n 2, 1), (12, .iload_n 3, 1), (13, .invokevirtual 397, 3), (16, .ireturn, 1)]
theorem dkX11_grants : ∀ q ∈ pgX11_grants, decode cX11_grants q.1 = .ok q.2 := by decide +kernel
def f_X11_grants (this : Nat) (a1 : Int32) (a2 : Int32) (a3 : Int32) (h0 : PH) : Option ((Int32 ⊕ Nat) × PH) :=
  cbx (f_X11_takeReserve this a1 a2 a3 h0) (fun (r1 : Unit) (h2 : PH) => cb (f_X4_leastNow (rt this 11) a2 a3 h2) (fun (r3 : Int32) (h4 : PH) => some (.inl r3, h4)))
set_option maxRecDepth 100000 in
set_option maxHeartbeats 4000000 in
theorem ct_X11_grants (l : Launch) (hlt : l.stackTraces = false) (this : Nat) (a1 : Int32) (a2 : Int32) (a3 : Int32) (h0 : PH) (hk : (kd this).1 = 11) : CTx mkI l yX11_grants cX11_grants 4 (some .int) (rmx 8 2 12) 2 12 [.ref this, .int a1, .int a2, .int a3] h0 (f_X11_grants this a1 a2 a3 h0) := by
  refine ctx_of (by decide) (Nat.le_of_ble_eq_true rfl) ?_
  intro p e s m args below meth c D cA ad A X hr hlk htab
  have X : Cx p s m args c RX11 cX11_grants 4 D cA ad A := X
  unfold f_X11_grants
  refine so_pick (L' := [(0, .ref this), (1, .int a1), (2, .int a2), (3, .int a3)]) X [0, 1, 2, 3] rfl ?_
  refine so_aload_n (i := 0) X 0 (dkX11_grants (0, .aload_n 0, 1) (pgm 0 rfl)) rfl rfl ?_
  refine so_iload_n (i := 1) X 1 (dkX11_grants (1, .iload_n 1, 1) (pgm 1 rfl)) rfl rfl ?_
  refine so_iload_n (i := 2) X 2 (dkX11_grants (2, .iload_n 2, 1) (pgm 2 rfl)) rfl rfl ?_
  refine so_iload_n (i := 3) X 3 (dkX11_grants (3, .iload_n 3, 1) (pgm 3 rfl)) rfl rfl ?_
  refine so_callX (n := 3) (As := [.int a1, .int a2, .int a3]) X hlk htab (ct_X11_takeReserve l hlt this a1 a2 a3 h0 hk) hk (by decide) rfl lk_1541 lk_1543 lk_52 lk_121 lk_1544 (by decide +kernel) rfl rfl rfl (rm_okxx (by omega) (by decide)) ⟨Nat.le_of_ble_eq_true rfl, Nat.le_of_ble_eq_true rfl⟩ ⟨Nat.le_of_ble_eq_true rfl, Nat.le_of_ble_eq_true rfl⟩ (Nat.le_of_ble_eq_true rfl) (dkX11_grants (4, .invokevirtual 390, 3) (pgm 4 rfl)) (fun r1 h2 => ?_) rfl
  refine so_aload_n (i := 0) X 0 (dkX11_grants (7, .aload_n 0, 1) (pgm 5 rfl)) rfl rfl ?_
  refine sf_getR X ff_11_11 lk_576 hk (dkX11_grants (8, .getfield 89, 3) (pgm 6 rfl)) ?_
  refine so_iload_n (i := 2) X 2 (dkX11_grants (11, .iload_n 2, 1) (pgm 7 rfl)) rfl rfl ?_
  refine so_iload_n (i := 3) X 3 (dkX11_grants (12, .iload_n 3, 1) (pgm 8 rfl)) rfl rfl ?_
  refine so_callV (n := 2) (As := [.int a2, .int a3]) X (ct_X4_leastNow l (rt this 11) a2 a3 h2 (fo (rk_11_11 this hk))) (fo (rk_11_11 this hk)) (by decide) rfl lk_1574 lk_1575 lk_1576 lk_132 lk_1577 (by decide +kernel) rfl rfl rfl (rm_okx (by omega) (by decide)) ⟨Nat.le_of_ble_eq_true rfl, Nat.le_of_ble_eq_true rfl⟩ (Nat.le_of_ble_eq_true rfl) (dkX11_grants (13, .invokevirtual 397, 3) (pgm 9 rfl)) (fun r3 h4 => ?_) rfl
  exact so_iretX X hr hlk (Nat.le_of_ble_eq_true rfl) (Nat.le_of_ble_eq_true rfl) (dkX11_grants (16, .ireturn, 1) (pgm 10 rfl))
def pgX11_image : List (Nat × Instr × Nat) := [(0, .aload_n 0, 1), (1, .iload_n 1, 1), (2, .invokevirtual 429, 3), (5, .aload_n 0, 1), (6, .getfield 100, 3), (9, .iload_n 1, 1), (10, .aaload, 1), (11, .aload_n 0, 1), (12, .getfield 20, 3), (15, .invokevirtual 130, 3), (18, .aload_n 0, 1), (19, .getfield 104, 3), (22, .iload_n 1, 1), (23, .aaload, 1), (24, .aload_n 0, 1), (25, .getfield 39, 3), (28, .invokevirtual 432, 3), (31, .aload_n 0, 1), (32, .getfield 13, 3), (35, .iload_n 1, 1), (36, .iconst 1, 1), (37, .bastore, 1), (38, .return_, 1)]
theorem dkX11_image : ∀ q ∈ pgX11_image, decode cX11_image q.1 = .ok q.2 := by decide +kernel
def f_X11_image (this : Nat) (a1 : Int32) (h0 : PH) : Option ((Unit ⊕ Nat) × PH) :=
  cbx (f_X11_checkImage this a1 h0) (fun (r1 : Unit) (h2 : PH) => ldR (rt this 13) 3 a1 (fun (v3 : Nat) => cb (f_X8_copyFrom v3 (rt this 2) h2) (fun (r4 : Unit) (h5 : PH) => ldR (rt this 14) 3 a1 (fun (v6 : Nat) => cb (f_X0_copyFrom v6 (rt this 5) h5) (fun (r7 : Unit) (h8 : PH) => stI h8 (rt this 15) 3 a1 (vp_nar .boolean (1 : Int32)) (fun (h9 : PH) => some (.inl (), h9)))))))
set_option maxRecDepth 100000 in
set_option maxHeartbeats 4000000 in
theorem ct_X11_image (l : Launch) (hlt : l.stackTraces = false) (this : Nat) (a1 : Int32) (h0 : PH) (hk : (kd this).1 = 11) : CTx mkV l yX11_image cX11_image 2 none (rmx 7 1 6) 1 6 [.ref this, .int a1] h0 (f_X11_image this a1 h0) := by
  refine ctx_of (by decide) (Nat.le_of_ble_eq_true rfl) ?_
  intro p e s m args below meth c D cA ad A X hr hlk htab
  have X : Cx p s m args c RX11 cX11_image 2 D cA ad A := X
  unfold f_X11_image
  refine so_pick (L' := [(0, .ref this), (1, .int a1)]) X [0, 1] rfl ?_
  refine so_aload_n (i := 0) X 0 (dkX11_image (0, .aload_n 0, 1) (pgm 0 rfl)) rfl rfl ?_
  refine so_iload_n (i := 1) X 1 (dkX11_image (1, .iload_n 1, 1) (pgm 1 rfl)) rfl rfl ?_
  refine so_callX (n := 1) (As := [.int a1]) X hlk htab (ct_X11_checkImage l hlt this a1 h0 hk) hk (by decide) rfl lk_1636 lk_1638 lk_54 lk_121 lk_1639 (by decide +kernel) rfl rfl rfl (rm_okxx (by omega) (by decide)) ⟨Nat.le_of_ble_eq_true rfl, Nat.le_of_ble_eq_true rfl⟩ ⟨Nat.le_of_ble_eq_true rfl, Nat.le_of_ble_eq_true rfl⟩ (Nat.le_of_ble_eq_true rfl) (dkX11_image (2, .invokevirtual 429, 3) (pgm 2 rfl)) (fun r1 h2 => ?_) rfl
  refine so_aload_n (i := 0) X 0 (dkX11_image (5, .aload_n 0, 1) (pgm 3 rfl)) rfl rfl ?_
  refine sf_getR X ff_11_13 lk_578 hk (dkX11_image (6, .getfield 100, 3) (pgm 4 rfl)) ?_
  refine so_iload_n (i := 1) X 1 (dkX11_image (9, .iload_n 1, 1) (pgm 5 rfl)) rfl rfl ?_
  refine so_aaldK X (rk_11_13 this hk) (by decide) (by decide) 7 (fun _ => rfl) rfl (re_11_13 this hk) (dkX11_image (10, .aaload, 1) (pgm 6 rfl)) (fun v3 hv3 => ?_)
  refine so_aload_n (i := 0) X 0 (dkX11_image (11, .aload_n 0, 1) (pgm 7 rfl)) rfl rfl ?_
  refine sf_getR X ff_11_2 lk_567 hk (dkX11_image (12, .getfield 20, 3) (pgm 8 rfl)) ?_
  refine so_callV (n := 1) (As := [.ref (rt this 2)]) X (ct_X8_copyFrom l v3 (rt this 2) h2 (fo hv3) (fo (rk_11_2 this hk))) (fo hv3) (by decide) rfl lk_1102 lk_1103 lk_1104 lk_122 lk_1105 (by decide +kernel) rfl rfl rfl (rm_okx (by omega) (by decide)) ⟨Nat.le_of_ble_eq_true rfl, Nat.le_of_ble_eq_true rfl⟩ (Nat.le_of_ble_eq_true rfl) (dkX11_image (15, .invokevirtual 130, 3) (pgm 9 rfl)) (fun r4 h5 => ?_) rfl
  refine so_aload_n (i := 0) X 0 (dkX11_image (18, .aload_n 0, 1) (pgm 10 rfl)) rfl rfl ?_
  refine sf_getR X ff_11_14 lk_579 hk (dkX11_image (19, .getfield 104, 3) (pgm 11 rfl)) ?_
  refine so_iload_n (i := 1) X 1 (dkX11_image (22, .iload_n 1, 1) (pgm 12 rfl)) rfl rfl ?_
  refine so_aaldK X (rk_11_14 this hk) (by decide) (by decide) 8 (fun _ => rfl) rfl (re_11_14 this hk) (dkX11_image (23, .aaload, 1) (pgm 13 rfl)) (fun v6 hv6 => ?_)
  refine so_aload_n (i := 0) X 0 (dkX11_image (24, .aload_n 0, 1) (pgm 14 rfl)) rfl rfl ?_
  refine sf_getR X ff_11_5 lk_570 hk (dkX11_image (25, .getfield 39, 3) (pgm 15 rfl)) ?_
  refine so_callV (n := 1) (As := [.ref (rt this 5)]) X (ct_X0_copyFrom l v6 (rt this 5) h5 (fo hv6) (fo (rk_11_5 this hk))) (fo hv6) (by decide) rfl lk_1641 lk_1642 lk_1643 lk_125 lk_1644 (by decide +kernel) rfl rfl rfl (rm_okx (by omega) (by decide)) ⟨Nat.le_of_ble_eq_true rfl, Nat.le_of_ble_eq_true rfl⟩ (Nat.le_of_ble_eq_true rfl) (dkX11_image (28, .invokevirtual 432, 3) (pgm 16 rfl)) (fun r7 h8 => ?_) rfl
  refine so_aload_n (i := 0) X 0 (dkX11_image (31, .aload_n 0, 1) (pgm 17 rfl)) rfl rfl ?_
  refine sf_getR X ff_11_15 lk_580 hk (dkX11_image (32, .getfield 13, 3) (pgm 18 rfl)) ?_
  refine so_iload_n (i := 1) X 1 (dkX11_image (35, .iload_n 1, 1) (pgm 19 rfl)) rfl rfl ?_
  refine so_iconst (v := (1 : Int32)) X (dkX11_image (36, .iconst 1, 1) (pgm 20 rfl)) ic_1 ?_
  refine so_zast X (rk_11_15 this hk) (dkX11_image (37, .bastore, 1) (pgm 21 rfl)) (fun h9 => ?_)
  exact so_vretX X hr hlk (Nat.le_of_ble_eq_true rfl) (Nat.le_of_ble_eq_true rfl) (dkX11_image (38, .return_, 1) (pgm 22 rfl))
def pgX11_restore : List (Nat × Instr × Nat) := [(0, .aload_n 0, 1), (1, .iload_n 1, 1), (2, .invokevirtual 429, 3), (5, .aload_n 0, 1), (6, .getfield 13, 3), (9, .iload_n 1, 1), (10, .baload, 1), (11, .ifCond .ne 14, 3), (14, .new 226, 3), (17, .dup, 1), (18, .ldc_w 435, 3), (21, .invokespecial 230, 3), (24, .athrow, 1), (25, .aload_n 0, 1), (26, .getfield 20, 3), (29, .aload_n 0, 1), (30, .getfield 100, 3), (33, .iload_n 1, 1), (34, .aaload, 1), (35, .invokevirtual 130, 3), (38, .aload_n 0, 1), (39, .getfield 39, 3), (42, .aload_n 0, 1), (43, .getfield 104, 3), (46, .iload_n 1, 1), (47, .aaload, 1), (48, .invokevirtual 432, 3), (51, .aload_n 0, 1), (52, .invokevirtual 139, 3), (55, .return_, 1)]
theorem dkX11_restore : ∀ q ∈ pgX11_restore, decode cX11_restore q.1 = .ok q.2 := by decide +kernel
def f_X11_restore (this : Nat) (a1 : Int32) (h0 : PH) : Option ((Unit ⊕ Nat) × PH) :=
  cbx (f_X11_checkImage this a1 h0) (fun (r1 : Unit) (h2 : PH) => ldI h2 (rt this 15) 3 a1 (fun (x3 : Int32) => if x3 = 0 then (some (.inr 2, h2)) else (ldR (rt this 13) 3 a1 (fun (v4 : Nat) => cb (f_X8_copyFrom (rt this 2) v4 h2) (fun (r5 : Unit) (h6 : PH) => ldR (rt this 14) 3 a1 (fun (v7 : Nat) => cb (f_X0_copyFrom (rt this 5) v7 h6) (fun (r8 : Unit) (h9 : PH) => cb (f_X11_forgetWhatWasFound this h9) (fun (r10 : Unit) (h11 : PH) => some (.inl (), h11)))))))))
set_option maxRecDepth 100000 in
set_option maxHeartbeats 4000000 in
theorem ct_X11_restore (l : Launch) (hlt : l.stackTraces = false) (this : Nat) (a1 : Int32) (h0 : PH) (hk : (kd this).1 = 11) : CTx mkV l yX11_restore cX11_restore 2 none (rmx 7 2 12) 2 12 [.ref this, .int a1] h0 (f_X11_restore this a1 h0) := by
  refine ctx_of (by decide) (Nat.le_of_ble_eq_true rfl) ?_
  intro p e s m args below meth c D cA ad A X hr hlk htab
  have X : Cx p s m args c RX11 cX11_restore 2 D cA ad A := X
  unfold f_X11_restore
  refine so_pick (L' := [(0, .ref this), (1, .int a1)]) X [0, 1] rfl ?_
  refine so_aload_n (i := 0) X 0 (dkX11_restore (0, .aload_n 0, 1) (pgm 0 rfl)) rfl rfl ?_
  refine so_iload_n (i := 1) X 1 (dkX11_restore (1, .iload_n 1, 1) (pgm 1 rfl)) rfl rfl ?_
  refine so_callX (n := 1) (As := [.int a1]) X hlk htab (ct_X11_checkImage l hlt this a1 h0 hk) hk (by decide) rfl lk_1636 lk_1638 lk_54 lk_121 lk_1639 (by decide +kernel) rfl rfl rfl (rm_okxx (by omega) (by decide)) ⟨Nat.le_of_ble_eq_true rfl, Nat.le_of_ble_eq_true rfl⟩ ⟨Nat.le_of_ble_eq_true rfl, Nat.le_of_ble_eq_true rfl⟩ (Nat.le_of_ble_eq_true rfl) (dkX11_restore (2, .invokevirtual 429, 3) (pgm 2 rfl)) (fun r1 h2 => ?_) rfl
  refine so_aload_n (i := 0) X 0 (dkX11_restore (5, .aload_n 0, 1) (pgm 3 rfl)) rfl rfl ?_
  refine sf_getR X ff_11_15 lk_580 hk (dkX11_restore (6, .getfield 13, 3) (pgm 4 rfl)) ?_
  refine so_iload_n (i := 1) X 1 (dkX11_restore (9, .iload_n 1, 1) (pgm 5 rfl)) rfl rfl ?_
  refine so_zald X (rk_11_15 this hk) (dkX11_restore (10, .baload, 1) (pgm 6 rfl)) (fun x3 => ?_)
  refine so_if_ne (tgt := 25) X (dkX11_restore (11, .ifCond .ne 14, 3) (pgm 7 rfl)) rfl (fun _ => ?_) (fun _ => ?_)
  · refine so_aload_n (i := 0) X 0 (dkX11_restore (25, .aload_n 0, 1) (pgm 13 rfl)) rfl rfl ?_
    refine sf_getR X ff_11_2 lk_567 hk (dkX11_restore (26, .getfield 20, 3) (pgm 14 rfl)) ?_
    refine so_aload_n (i := 0) X 0 (dkX11_restore (29, .aload_n 0, 1) (pgm 15 rfl)) rfl rfl ?_
    refine sf_getR X ff_11_13 lk_578 hk (dkX11_restore (30, .getfield 100, 3) (pgm 16 rfl)) ?_
    refine so_iload_n (i := 1) X 1 (dkX11_restore (33, .iload_n 1, 1) (pgm 17 rfl)) rfl rfl ?_
    refine so_aaldK X (rk_11_13 this hk) (by decide) (by decide) 7 (fun _ => rfl) rfl (re_11_13 this hk) (dkX11_restore (34, .aaload, 1) (pgm 18 rfl)) (fun v4 hv4 => ?_)
    refine so_callV (n := 1) (As := [.ref v4]) X (ct_X8_copyFrom l (rt this 2) v4 h2 (fo (rk_11_2 this hk)) (fo hv4)) (fo (rk_11_2 this hk)) (by decide) rfl lk_1102 lk_1103 lk_1104 lk_122 lk_1105 (by decide +kernel) rfl rfl rfl (rm_okx (by omega) (by decide)) ⟨Nat.le_of_ble_eq_true rfl, Nat.le_of_ble_eq_true rfl⟩ (Nat.le_of_ble_eq_true rfl) (dkX11_restore (35, .invokevirtual 130, 3) (pgm 19 rfl)) (fun r5 h6 => ?_) rfl
    refine so_aload_n (i := 0) X 0 (dkX11_restore (38, .aload_n 0, 1) (pgm 20 rfl)) rfl rfl ?_
    refine sf_getR X ff_11_5 lk_570 hk (dkX11_restore (39, .getfield 39, 3) (pgm 21 rfl)) ?_
    refine so_aload_n (i := 0) X 0 (dkX11_restore (42, .aload_n 0, 1) (pgm 22 rfl)) rfl rfl ?_
    refine sf_getR X ff_11_14 lk_579 hk (dkX11_restore (43, .getfield 104, 3) (pgm 23 rfl)) ?_
    refine so_iload_n (i := 1) X 1 (dkX11_restore (46, .iload_n 1, 1) (pgm 24 rfl)) rfl rfl ?_
    refine so_aaldK X (rk_11_14 this hk) (by decide) (by decide) 8 (fun _ => rfl) rfl (re_11_14 this hk) (dkX11_restore (47, .aaload, 1) (pgm 25 rfl)) (fun v7 hv7 => ?_)
    refine so_callV (n := 1) (As := [.ref v7]) X (ct_X0_copyFrom l (rt this 5) v7 h6 (fo (rk_11_5 this hk)) (fo hv7)) (fo (rk_11_5 this hk)) (by decide) rfl lk_1641 lk_1642 lk_1643 lk_125 lk_1644 (by decide +kernel) rfl rfl rfl (rm_okx (by omega) (by decide)) ⟨Nat.le_of_ble_eq_true rfl, Nat.le_of_ble_eq_true rfl⟩ (Nat.le_of_ble_eq_true rfl) (dkX11_restore (48, .invokevirtual 432, 3) (pgm 26 rfl)) (fun r8 h9 => ?_) rfl
    refine so_aload_n (i := 0) X 0 (dkX11_restore (51, .aload_n 0, 1) (pgm 27 rfl)) rfl rfl ?_
    refine so_callV (n := 0) (As := []) X (ct_X11_forgetWhatWasFound l this h9 hk) hk (by decide) rfl lk_1112 lk_1114 lk_32 lk_121 lk_1115 (by decide +kernel) rfl rfl rfl (rm_okx (by omega) (by decide)) ⟨Nat.le_of_ble_eq_true rfl, Nat.le_of_ble_eq_true rfl⟩ (Nat.le_of_ble_eq_true rfl) (dkX11_restore (52, .invokevirtual 139, 3) (pgm 28 rfl)) (fun r10 h11 => ?_) rfl
    exact so_vretX X hr hlk (Nat.le_of_ble_eq_true rfl) (Nat.le_of_ble_eq_true rfl) (dkX11_restore (55, .return_, 1) (pgm 29 rfl))
  · exact so_throwSW (n := 51) (tx := "no such image was made") X hlt hlk htab 2 (pgm 51 rfl) lk_1367 lk_148 (by decide) at_RX11_230_2 (by decide) (dkX11_restore (14, .new 226, 3) (pgm 8 rfl)) (dkX11_restore (17, .dup, 1) (pgm 9 rfl)) (dkX11_restore (18, .ldc_w 435, 3) (pgm 10 rfl)) (dkX11_restore (21, .invokespecial 230, 3) (pgm 11 rfl)) (dkX11_restore (24, .athrow, 1) (pgm 12 rfl)) (Nat.le_of_ble_eq_true rfl) (Nat.le_of_ble_eq_true rfl) (Nat.le_of_ble_eq_true rfl) (Nat.le_of_ble_eq_true rfl) (Nat.le_of_ble_eq_true rfl) (Nat.le_of_ble_eq_true rfl)

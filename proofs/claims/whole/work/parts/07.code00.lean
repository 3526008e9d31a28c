def pgX0_allDues : List (Nat × Instr × Nat) := [(0, .iconst 0, 1), (1, .istore_n 1, 1), (2, .iconst 0, 1), (3, .istore_n 2, 1), (4, .iload_n 2, 1), (5, .bipush 6, 2), (7, .if_icmp .ge 18, 3), (10, .iload_n 1, 1), (11, .aload_n 0, 1), (12, .getfield 15, 3), (15, .iload_n 2, 1), (16, .iaload, 1), (17, .iadd, 1), (18, .istore_n 1, 1), (19, .iinc 2 1, 3), (22, .goto (-18), 3), (25, .iload_n 1, 1), (26, .ireturn, 1)]
theorem dkX0_allDues : ∀ q ∈ pgX0_allDues, decode cX0_allDues q.1 = .ok q.2 := by decide +kernel
def b_X0_allDues_4 (this : Nat) (rec4 : (Int32 × Int32) → PH → Option (Int32 × PH)) (s4 : Int32 × Int32) (hh4 : PH) : Option (Int32 × PH) :=
  if (6 : Int32) ≤ s4.2 then (some (s4.1, hh4)) else (ldI hh4 (rt this 2) 6 s4.2 (fun (x3 : Int32) => lt (s4.1 + x3) (fun (x4 : Int32) => lt (s4.2 + Int32.ofInt 1) (fun (x5 : Int32) => rec4 (x4, x5) hh4))))
def f_X0_allDues (this : Nat) (h0 : PH) : Option (Int32 × PH) :=
  lt (0 : Int32) (fun (x1 : Int32) => lt (0 : Int32) (fun (x2 : Int32) => lp (b_X0_allDues_4 this) FU (x1, x2) h0))
set_option maxRecDepth 100000 in
set_option maxHeartbeats 4000000 in
theorem ct_X0_allDues (l : Launch) (this : Nat) (h0 : PH) (hk : (kd this).1 = 0) : CT mkI l yX0_allDues cX0_allDues 3 (some .int) (rmd 0) [.ref this] h0 (f_X0_allDues this h0) := by
  refine ct_of (by decide) (Nat.le_of_ble_eq_true rfl) ?_
  intro p e s m args below meth c D cA ad A X hr hlk
  have X : Cx p s m args c RX0 cX0_allDues 3 D cA ad A := X
  unfold f_X0_allDues
  refine so_pick (L' := [(0, .ref this)]) X [0] rfl ?_
  refine so_iconst (v := (0 : Int32)) X (dkX0_allDues (0, .iconst 0, 1) (pgm 0 rfl)) ic_0 ?_
  refine so_istore_n (i := 1) X (dkX0_allDues (1, .istore_n 1, 1) (pgm 1 rfl)) rfl (by decide) (Lf := fun x1 => [(1, .int x1), (0, .ref this)]) (fun _ => rfl) (fun x1 => ?_)
  refine so_iconst (v := (0 : Int32)) X (dkX0_allDues (2, .iconst 0, 1) (pgm 2 rfl)) ic_0 ?_
  refine so_istore_n (i := 2) X (dkX0_allDues (3, .istore_n 2, 1) (pgm 3 rfl)) rfl (by decide) (Lf := fun x2 => [(2, .int x2), (1, .int x1), (0, .ref this)]) (fun _ => rfl) (fun x2 => ?_)
  refine so_pick (L' := [(0, .ref this), (1, .int x1), (2, .int x2)]) X [2, 1, 0] rfl ?_
  refine so_loop (body := b_X0_allDues_4 this) (fun (s4 : Int32 × Int32) => [(0, .ref this), (1, .int s4.1), (2, .int s4.2)]) (fun rec4 hrec4 s4 hh4 => ?_) FU (x1, x2) h0
  unfold b_X0_allDues_4
  refine so_iload_n (i := 2) X 2 (dkX0_allDues (4, .iload_n 2, 1) (pgm 4 rfl)) rfl rfl ?_
  refine so_bipush (v := (6 : Int32)) X (dkX0_allDues (5, .bipush 6, 2) (pgm 5 rfl)) bp_6 ?_
  refine so_icmp_ge (tgt := 25) X (dkX0_allDues (7, .if_icmp .ge 18, 3) (pgm 6 rfl)) rfl (fun _ => ?_) (fun _ => ?_)
  · refine so_iload_n (i := 1) X 1 (dkX0_allDues (25, .iload_n 1, 1) (pgm 16 rfl)) rfl rfl ?_
    exact so_iret X hr hlk (dkX0_allDues (26, .ireturn, 1) (pgm 17 rfl))
  · refine so_iload_n (i := 1) X 1 (dkX0_allDues (10, .iload_n 1, 1) (pgm 7 rfl)) rfl rfl ?_
    refine so_aload_n (i := 0) X 0 (dkX0_allDues (11, .aload_n 0, 1) (pgm 8 rfl)) rfl rfl ?_
    refine sf_getR X ff_0_2 lk_342 hk (dkX0_allDues (12, .getfield 15, 3) (pgm 9 rfl)) ?_
    refine so_iload_n (i := 2) X 2 (dkX0_allDues (15, .iload_n 2, 1) (pgm 10 rfl)) rfl rfl ?_
    refine so_iald X (rk_0_2 this hk) (dkX0_allDues (16, .iaload, 1) (pgm 11 rfl)) (fun x3 => ?_)
    refine so_iadd X (dkX0_allDues (17, .iadd, 1) (pgm 12 rfl)) ?_
    refine so_istore_n (i := 1) X (dkX0_allDues (18, .istore_n 1, 1) (pgm 13 rfl)) rfl (by decide) (Lf := fun x4 => [(1, .int x4), (0, .ref this), (2, .int s4.2)]) (fun _ => rfl) (fun x4 => ?_)
    refine so_iinc (i := 2) X 2 (dkX0_allDues (19, .iinc 2 1, 3) (pgm 14 rfl)) rfl rfl (by decide) (Lf := fun x5 => [(2, .int x5), (1, .int x4), (0, .ref this)]) (fun _ => rfl) (fun x5 => ?_)
    refine so_goto (tgt := 4) X (dkX0_allDues (22, .goto (-18), 3) (pgm 15 rfl)) rfl ?_
    exact so_pick X [2, 1, 0] rfl (hrec4 (x4, x5) hh4)
def pgX8_emit : List (Nat × Instr × Nat) := [(0, .aload_n 0, 1), (1, .getfield 46, 3), (4, .sipush 900, 3), (7, .if_icmp .ge 28, 3), (10, .aload_n 0, 1), (11, .getfield 25, 3), (14, .aload_n 0, 1), (15, .getfield 46, 3), (18, .iload_n 1, 1), (19, .bipush 12, 2), (21, .ishl, 1), (22, .iload_n 2, 1), (23, .ior, 1), (24, .iastore, 1), (25, .aload_n 0, 1), (26, .dup, 1), (27, .getfield 46, 3), (30, .iconst 1, 1), (31, .iadd, 1), (32, .putfield 46, 3), (35, .return_, 1)]
theorem dkX8_emit : ∀ q ∈ pgX8_emit, decode cX8_emit q.1 = .ok q.2 := by decide +kernel
def f_X8_emit (this : Nat) (a1 : Int32) (a2 : Int32) (h0 : PH) : Option (Unit × PH) :=
  lt (fun (h1 : PH) => some ((), h1)) (fun (j35 : PH → Option (Unit × PH)) => if (900 : Int32) ≤ (h0.1 this 9) then (j35 h0) else (stI h0 (rt this 15) 900 (h0.1 this 9) ((a1 <<< ((12 : Int32) &&& 31)) ||| a2) (fun (h2 : PH) => lt (pI h2 this 9 ((h2.1 this 9) + (1 : Int32))) (fun (h3 : PH) => j35 h3))))
set_option maxRecDepth 100000 in
set_option maxHeartbeats 4000000 in
theorem ct_X8_emit (l : Launch) (this : Nat) (a1 : Int32) (a2 : Int32) (h0 : PH) (hk : (kd this).1 = 8) : CT mkV l yX8_emit cX8_emit 3 none (rmd 0) [.ref this, .int a1, .int a2] h0 (f_X8_emit this a1 a2 h0) := by
  refine ct_of (by decide) (Nat.le_of_ble_eq_true rfl) ?_
  intro p e s m args below meth c D cA ad A X hr hlk
  have X : Cx p s m args c RX8 cX8_emit 3 D cA ad A := X
  unfold f_X8_emit
  refine so_pick (L' := [(0, .ref this), (1, .int a1), (2, .int a2)]) X [0, 1, 2] rfl ?_
  refine so_aload_n (i := 0) X 0 (dkX8_emit (0, .aload_n 0, 1) (pgm 0 rfl)) rfl rfl ?_
  refine sf_getI X ff_8_9 lk_203 hk (dkX8_emit (1, .getfield 46, 3) (pgm 1 rfl)) ?_
  refine so_sipush (v := (900 : Int32)) X (dkX8_emit (4, .sipush 900, 3) (pgm 2 rfl)) sp_900 ?_
  refine so_join (jf := fun (h1 : PH) => some ((), h1)) (fun (j : PH → Option (Unit × PH)) => ∀  (h1 : PH), SWo (QM mkV below args s D cA ad A) p l e (rmd 0) s m args below meth c 0 0 3 D cA ad A 35 [] [] h1 (j h1)) ?_ (fun j35 hj35 => ?_)
  · intro h1
    exact so_vret X hr hlk (dkX8_emit (35, .return_, 1) (pgm 20 rfl))
  refine so_icmp_ge (tgt := 35) X (dkX8_emit (7, .if_icmp .ge 28, 3) (pgm 3 rfl)) rfl (fun _ => ?_) (fun _ => ?_)
  · exact so_pick X [] rfl (hj35 h0)
  · refine so_aload_n (i := 0) X 0 (dkX8_emit (10, .aload_n 0, 1) (pgm 4 rfl)) rfl rfl ?_
    refine sf_getR X ff_8_15 lk_220 hk (dkX8_emit (11, .getfield 25, 3) (pgm 5 rfl)) ?_
    refine so_aload_n (i := 0) X 0 (dkX8_emit (14, .aload_n 0, 1) (pgm 6 rfl)) rfl rfl ?_
    refine sf_getI X ff_8_9 lk_203 hk (dkX8_emit (15, .getfield 46, 3) (pgm 7 rfl)) ?_
    refine so_iload_n (i := 1) X 1 (dkX8_emit (18, .iload_n 1, 1) (pgm 8 rfl)) rfl rfl ?_
    refine so_bipush (v := (12 : Int32)) X (dkX8_emit (19, .bipush 12, 2) (pgm 9 rfl)) bp_12 ?_
    refine so_ishl X (dkX8_emit (21, .ishl, 1) (pgm 10 rfl)) ?_
    refine so_iload_n (i := 2) X 2 (dkX8_emit (22, .iload_n 2, 1) (pgm 11 rfl)) rfl rfl ?_
    refine so_ior X (dkX8_emit (23, .ior, 1) (pgm 12 rfl)) ?_
    refine so_iast X (rk_8_15 this hk) (dkX8_emit (24, .iastore, 1) (pgm 13 rfl)) (fun h2 => ?_)
    refine so_aload_n (i := 0) X 0 (dkX8_emit (25, .aload_n 0, 1) (pgm 14 rfl)) rfl rfl ?_
    refine so_dup X (dkX8_emit (26, .dup, 1) (pgm 15 rfl)) rfl ?_
    refine sf_getI X ff_8_9 lk_203 hk (dkX8_emit (27, .getfield 46, 3) (pgm 16 rfl)) ?_
    refine so_iconst (v := (1 : Int32)) X (dkX8_emit (30, .iconst 1, 1) (pgm 17 rfl)) ic_1 ?_
    refine so_iadd X (dkX8_emit (31, .iadd, 1) (pgm 18 rfl)) ?_
    refine sf_putI X ff_8_9 ft_8 rfl lk_203 hk rfl rfl (dkX8_emit (32, .putfield 46, 3) (pgm 19 rfl)) (fun h3 => ?_)
    exact so_pick X [] rfl (hj35 h3)
def pgX8_weatherOf : List (Nat × Instr × Nat) := [(0, .iload_n 1, 1), (1, .iload_n 1, 1), (2, .aload_n 0, 1), (3, .getfield 58, 3), (6, .iand, 1), (7, .aload_n 0, 1), (8, .getfield 61, 3), (11, .ishl, 1), (12, .ior, 1), (13, .ireturn, 1)]
theorem dkX8_weatherOf : ∀ q ∈ pgX8_weatherOf, decode cX8_weatherOf q.1 = .ok q.2 := by decide +kernel
def f_X8_weatherOf (this : Nat) (a1 : Int32) (h0 : PH) : Option (Int32 × PH) :=
  some ((a1 ||| ((a1 &&& (h0.1 this 10)) <<< ((h0.1 this 11) &&& 31))), h0)
set_option maxRecDepth 100000 in
set_option maxHeartbeats 4000000 in
theorem ct_X8_weatherOf (l : Launch) (this : Nat) (a1 : Int32) (h0 : PH) (hk : (kd this).1 = 8) : CT mkI l yX8_weatherOf cX8_weatherOf 2 (some .int) (rmd 0) [.ref this, .int a1] h0 (f_X8_weatherOf this a1 h0) := by
  refine ct_of (by decide) (Nat.le_of_ble_eq_true rfl) ?_
  intro p e s m args below meth c D cA ad A X hr hlk
  have X : Cx p s m args c RX8 cX8_weatherOf 2 D cA ad A := X
  unfold f_X8_weatherOf
  refine so_pick (L' := [(0, .ref this), (1, .int a1)]) X [0, 1] rfl ?_
  refine so_iload_n (i := 1) X 1 (dkX8_weatherOf (0, .iload_n 1, 1) (pgm 0 rfl)) rfl rfl ?_
  refine so_iload_n (i := 1) X 1 (dkX8_weatherOf (1, .iload_n 1, 1) (pgm 1 rfl)) rfl rfl ?_
  refine so_aload_n (i := 0) X 0 (dkX8_weatherOf (2, .aload_n 0, 1) (pgm 2 rfl)) rfl rfl ?_
  refine sf_getI X ff_8_10 lk_205 hk (dkX8_weatherOf (3, .getfield 58, 3) (pgm 3 rfl)) ?_
  refine so_iand X (dkX8_weatherOf (6, .iand, 1) (pgm 4 rfl)) ?_
  refine so_aload_n (i := 0) X 0 (dkX8_weatherOf (7, .aload_n 0, 1) (pgm 5 rfl)) rfl rfl ?_
  refine sf_getI X ff_8_11 lk_206 hk (dkX8_weatherOf (8, .getfield 61, 3) (pgm 6 rfl)) ?_
  refine so_ishl X (dkX8_weatherOf (11, .ishl, 1) (pgm 7 rfl)) ?_
  refine so_ior X (dkX8_weatherOf (12, .ior, 1) (pgm 8 rfl)) ?_
  exact so_iret X hr hlk (dkX8_weatherOf (13, .ireturn, 1) (pgm 9 rfl))
def pgX8_weightOf : List (Nat × Instr × Nat) := [(0, .iconst 0, 1), (1, .istore_n 2, 1), (2, .iconst 0, 1), (3, .istore_n 3, 1), (4, .iload_n 3, 1), (5, .aload_n 0, 1), (6, .getfield 40, 3), (9, .if_icmp .ge 27, 3), (12, .iload_n 1, 1), (13, .iload_n 3, 1), (14, .ishr, 1), (15, .iconst 1, 1), (16, .iand, 1), (17, .iconst 1, 1), (18, .if_icmp .ne 12, 3), (21, .iload_n 2, 1), (22, .aload_n 0, 1), (23, .getfield 19, 3), (26, .iload_n 3, 1), (27, .iaload, 1), (28, .iadd, 1), (29, .istore_n 2, 1), (30, .iinc 3 1, 3), (33, .goto (-29), 3), (36, .iload_n 2, 1), (37, .ireturn, 1)]
theorem dkX8_weightOf : ∀ q ∈ pgX8_weightOf, decode cX8_weightOf q.1 = .ok q.2 := by decide +kernel
def b_X8_weightOf_4 (this : Nat) (a1 : Int32) (rec4 : (Int32 × Int32) → PH → Option (Int32 × PH)) (s4 : Int32 × Int32) (hh4 : PH) : Option (Int32 × PH) :=
  if (hh4.1 this 5) ≤ s4.2 then (some (s4.1, hh4)) else (lt (fun (y3 : Int32) (h4 : PH) => lt (s4.2 + Int32.ofInt 1) (fun (x5 : Int32) => rec4 (y3, x5) h4)) (fun (j30 : Int32 → PH → Option (Int32 × PH)) => if ((a1 >>> (s4.2 &&& 31)) &&& (1 : Int32)) = (1 : Int32) then (ldI hh4 (rt this 13) 10 s4.2 (fun (x6 : Int32) => lt (s4.1 + x6) (fun (x7 : Int32) => j30 x7 hh4))) else (j30 s4.1 hh4)))
def f_X8_weightOf (this : Nat) (a1 : Int32) (h0 : PH) : Option (Int32 × PH) :=
  lt (0 : Int32) (fun (x1 : Int32) => lt (0 : Int32) (fun (x2 : Int32) => lp (b_X8_weightOf_4 this a1) FU (x1, x2) h0))
set_option maxRecDepth 100000 in
set_option maxHeartbeats 4000000 in
theorem ct_X8_weightOf (l : Launch) (this : Nat) (a1 : Int32) (h0 : PH) (hk : (kd this).1 = 8) : CT mkI l yX8_weightOf cX8_weightOf 4 (some .int) (rmd 0) [.ref this, .int a1] h0 (f_X8_weightOf this a1 h0) := by
  refine ct_of (by decide) (Nat.le_of_ble_eq_true rfl) ?_
  intro p e s m args below meth c D cA ad A X hr hlk
  have X : Cx p s m args c RX8 cX8_weightOf 4 D cA ad A := X
  unfold f_X8_weightOf
  refine so_pick (L' := [(0, .ref this), (1, .int a1)]) X [0, 1] rfl ?_
  refine so_iconst (v := (0 : Int32)) X (dkX8_weightOf (0, .iconst 0, 1) (pgm 0 rfl)) ic_0 ?_
  refine so_istore_n (i := 2) X (dkX8_weightOf (1, .istore_n 2, 1) (pgm 1 rfl)) rfl (by decide) (Lf := fun x1 => [(2, .int x1), (0, .ref this), (1, .int a1)]) (fun _ => rfl) (fun x1 => ?_)
  refine so_iconst (v := (0 : Int32)) X (dkX8_weightOf (2, .iconst 0, 1) (pgm 2 rfl)) ic_0 ?_
  refine so_istore_n (i := 3) X (dkX8_weightOf (3, .istore_n 3, 1) (pgm 3 rfl)) rfl (by decide) (Lf := fun x2 => [(3, .int x2), (2, .int x1), (0, .ref this), (1, .int a1)]) (fun _ => rfl) (fun x2 => ?_)
  refine so_pick (L' := [(0, .ref this), (1, .int a1), (2, .int x1), (3, .int x2)]) X [2, 3, 1, 0] rfl ?_
  refine so_loop (body := b_X8_weightOf_4 this a1) (fun (s4 : Int32 × Int32) => [(0, .ref this), (1, .int a1), (2, .int s4.1), (3, .int s4.2)]) (fun rec4 hrec4 s4 hh4 => ?_) FU (x1, x2) h0
  unfold b_X8_weightOf_4
  refine so_iload_n (i := 3) X 3 (dkX8_weightOf (4, .iload_n 3, 1) (pgm 4 rfl)) rfl rfl ?_
  refine so_aload_n (i := 0) X 0 (dkX8_weightOf (5, .aload_n 0, 1) (pgm 5 rfl)) rfl rfl ?_
  refine sf_getI X ff_8_5 lk_180 hk (dkX8_weightOf (6, .getfield 40, 3) (pgm 6 rfl)) ?_
  refine so_icmp_ge (tgt := 36) X (dkX8_weightOf (9, .if_icmp .ge 27, 3) (pgm 7 rfl)) rfl (fun _ => ?_) (fun _ => ?_)
  · refine so_iload_n (i := 2) X 2 (dkX8_weightOf (36, .iload_n 2, 1) (pgm 24 rfl)) rfl rfl ?_
    exact so_iret X hr hlk (dkX8_weightOf (37, .ireturn, 1) (pgm 25 rfl))
  · refine so_iload_n (i := 1) X 1 (dkX8_weightOf (12, .iload_n 1, 1) (pgm 8 rfl)) rfl rfl ?_
    refine so_iload_n (i := 3) X 3 (dkX8_weightOf (13, .iload_n 3, 1) (pgm 9 rfl)) rfl rfl ?_
    refine so_ishr X (dkX8_weightOf (14, .ishr, 1) (pgm 10 rfl)) ?_
    refine so_iconst (v := (1 : Int32)) X (dkX8_weightOf (15, .iconst 1, 1) (pgm 11 rfl)) ic_1 ?_
    refine so_iand X (dkX8_weightOf (16, .iand, 1) (pgm 12 rfl)) ?_
    refine so_iconst (v := (1 : Int32)) X (dkX8_weightOf (17, .iconst 1, 1) (pgm 13 rfl)) ic_1 ?_
    refine so_join (jf := fun (y3 : Int32) (h4 : PH) => lt (s4.2 + Int32.ofInt 1) (fun (x5 : Int32) => rec4 (y3, x5) h4)) (fun (j : Int32 → PH → Option (Int32 × PH)) => ∀ (y3 : Int32) (h4 : PH), SWo (QM mkI below args s D cA ad A) p l e (rmd 0) s m args below meth c 0 0 4 D cA ad A 30 [(0, .ref this), (1, .int a1), (2, .int y3), (3, .int s4.2)] [] h4 (j y3 h4)) ?_ (fun j30 hj30 => ?_)
    · intro y3 h4
      refine so_iinc (i := 3) X 3 (dkX8_weightOf (30, .iinc 3 1, 3) (pgm 22 rfl)) rfl rfl (by decide) (Lf := fun x5 => [(3, .int x5), (0, .ref this), (1, .int a1), (2, .int y3)]) (fun _ => rfl) (fun x5 => ?_)
      refine so_goto (tgt := 4) X (dkX8_weightOf (33, .goto (-29), 3) (pgm 23 rfl)) rfl ?_
      exact so_pick X [1, 2, 3, 0] rfl (hrec4 (y3, x5) h4)
    refine so_icmp_ne (tgt := 30) X (dkX8_weightOf (18, .if_icmp .ne 12, 3) (pgm 14 rfl)) rfl (fun _ => ?_) (fun _ => ?_)
    · exact so_pick X [0, 1, 2, 3] rfl (hj30 s4.1 hh4)
    · refine so_iload_n (i := 2) X 2 (dkX8_weightOf (21, .iload_n 2, 1) (pgm 15 rfl)) rfl rfl ?_
      refine so_aload_n (i := 0) X 0 (dkX8_weightOf (22, .aload_n 0, 1) (pgm 16 rfl)) rfl rfl ?_
      refine sf_getR X ff_8_13 lk_212 hk (dkX8_weightOf (23, .getfield 19, 3) (pgm 17 rfl)) ?_
      refine so_iload_n (i := 3) X 3 (dkX8_weightOf (26, .iload_n 3, 1) (pgm 18 rfl)) rfl rfl ?_
      refine so_iald X (rk_8_13 this hk) (dkX8_weightOf (27, .iaload, 1) (pgm 19 rfl)) (fun x6 => ?_)
      refine so_iadd X (dkX8_weightOf (28, .iadd, 1) (pgm 20 rfl)) ?_
      refine so_istore_n (i := 2) X (dkX8_weightOf (29, .istore_n 2, 1) (pgm 21 rfl)) rfl (by decide) (Lf := fun x7 => [(2, .int x7), (0, .ref this), (1, .int a1), (3, .int s4.2)]) (fun _ => rfl) (fun x7 => ?_)
      exact so_pick X [1, 2, 0, 3] rfl (hj30 x7 hh4)
def pgX12_within : List (Nat × Instr × Nat) := [(0, .lload_n 0, 1), (1, .lload_n 2, 1), (2, .lcmp, 1), (3, .ifCond .lt 14, 3), (6, .lload_n 0, 1), (7, .lload 4, 2), (9, .lcmp, 1), (10, .ifCond .gt 7, 3), (13, .iconst 1, 1), (14, .goto 4, 3), (17, .iconst 0, 1), (18, .ireturn, 1)]
theorem dkX12_within : ∀ q ∈ pgX12_within, decode cX12_within q.1 = .ok q.2 := by decide +kernel
def f_X12_within (a1 : Int64) (a2 : Int64) (a3 : Int64) (h0 : PH) : Option (Int32 × PH) :=
  lt (fun (t1 : Int32) (h2 : PH) => zr t1 h2) (fun (j18 : Int32 → PH → Option (Int32 × PH)) => lt (fun (h3 : PH) => j18 (0 : Int32) h3) (fun (j17 : PH → Option (Int32 × PH)) => if (lg_cmp a1 a2) < 0 then (j17 h0) else (if 0 < (lg_cmp a1 a3) then (j17 h0) else (j18 (1 : Int32) h0))))
set_option maxRecDepth 100000 in
set_option maxHeartbeats 4000000 in
theorem ct_X12_within (l : Launch) (a1 : Int64) (a2 : Int64) (a3 : Int64) (h0 : PH)  : CT mkI l yX12_within cX12_within 6 (some .boolean) (rmd 0) [.long a1, .long a2, .long a3] h0 (f_X12_within a1 a2 a3 h0) := by
  refine ct_of (by decide) (Nat.le_of_ble_eq_true rfl) ?_
  intro p e s m args below meth c D cA ad A X hr hlk
  have X : Cx p s m args c RX12 cX12_within 6 D cA ad A := X
  unfold f_X12_within
  refine so_pick (L' := [(0, .long a1), (2, .long a2), (4, .long a3)]) X [0, 1, 2] rfl ?_
  refine so_lload_n (i := 0) X 0 (dkX12_within (0, .lload_n 0, 1) (pgm 0 rfl)) rfl rfl ?_
  refine so_lload_n (i := 2) X 1 (dkX12_within (1, .lload_n 2, 1) (pgm 1 rfl)) rfl rfl ?_
  refine so_lcmp X (dkX12_within (2, .lcmp, 1) (pgm 2 rfl)) ?_
  refine so_join (jf := fun (t1 : Int32) (h2 : PH) => zr t1 h2) (fun (j : Int32 → PH → Option (Int32 × PH)) => ∀ (t1 : Int32) (h2 : PH), SWo (QM mkI below args s D cA ad A) p l e (rmd 0) s m args below meth c 0 0 6 D cA ad A 18 [] [.int t1] h2 (j t1 h2)) ?_ (fun j18 hj18 => ?_)
  · intro t1 h2
    exact so_zret X hr hlk (dkX12_within (18, .ireturn, 1) (pgm 11 rfl))
  refine so_join (jf := fun (h3 : PH) => j18 (0 : Int32) h3) (fun (j : PH → Option (Int32 × PH)) => ∀  (h3 : PH), SWo (QM mkI below args s D cA ad A) p l e (rmd 0) s m args below meth c 0 0 6 D cA ad A 17 [] [] h3 (j h3)) ?_ (fun j17 hj17 => ?_)
  · intro h3
    refine so_iconst (v := (0 : Int32)) X (dkX12_within (17, .iconst 0, 1) (pgm 10 rfl)) ic_0 ?_
    exact so_pick X [] rfl (hj18 (0 : Int32) h3)
  refine so_if_lt (tgt := 17) X (dkX12_within (3, .ifCond .lt 14, 3) (pgm 3 rfl)) rfl (fun _ => ?_) (fun _ => ?_)
  · exact so_pick X [] rfl (hj17 h0)
  · refine so_lload_n (i := 0) X 0 (dkX12_within (6, .lload_n 0, 1) (pgm 4 rfl)) rfl rfl ?_
    refine so_lload (i := 4) X 2 (dkX12_within (7, .lload 4, 2) (pgm 5 rfl)) rfl ?_
    refine so_lcmp X (dkX12_within (9, .lcmp, 1) (pgm 6 rfl)) ?_
    refine so_if_gt (tgt := 17) X (dkX12_within (10, .ifCond .gt 7, 3) (pgm 7 rfl)) rfl (fun _ => ?_) (fun _ => ?_)
    · exact so_pick X [] rfl (hj17 h0)
    · refine so_iconst (v := (1 : Int32)) X (dkX12_within (13, .iconst 1, 1) (pgm 8 rfl)) ic_1 ?_
      refine so_goto (tgt := 18) X (dkX12_within (14, .goto 4, 3) (pgm 9 rfl)) rfl ?_
      exact so_pick X [] rfl (hj18 (1 : Int32) h0)
def pgX12_has : List (Nat × Instr × Nat) := [(0, .iload_n 0, 1), (1, .iload_n 1, 1), (2, .ishr, 1), (3, .iconst 1, 1), (4, .iand, 1), (5, .iconst 1, 1), (6, .if_icmp .ne 7, 3), (9, .iconst 1, 1), (10, .goto 4, 3), (13, .iconst 0, 1), (14, .ireturn, 1)]
theorem dkX12_has : ∀ q ∈ pgX12_has, decode cX12_has q.1 = .ok q.2 := by decide +kernel
def f_X12_has (a1 : Int32) (a2 : Int32) (h0 : PH) : Option (Int32 × PH) :=
  lt (fun (t1 : Int32) (h2 : PH) => zr t1 h2) (fun (j14 : Int32 → PH → Option (Int32 × PH)) => if ((a1 >>> (a2 &&& 31)) &&& (1 : Int32)) = (1 : Int32) then (j14 (1 : Int32) h0) else (j14 (0 : Int32) h0))
set_option maxRecDepth 100000 in
set_option maxHeartbeats 4000000 in
theorem ct_X12_has (l : Launch) (a1 : Int32) (a2 : Int32) (h0 : PH)  : CT mkI l yX12_has cX12_has 2 (some .boolean) (rmd 0) [.int a1, .int a2] h0 (f_X12_has a1 a2 h0) := by
  refine ct_of (by decide) (Nat.le_of_ble_eq_true rfl) ?_
  intro p e s m args below meth c D cA ad A X hr hlk
  have X : Cx p s m args c RX12 cX12_has 2 D cA ad A := X
  unfold f_X12_has
  refine so_pick (L' := [(0, .int a1), (1, .int a2)]) X [0, 1] rfl ?_
  refine so_iload_n (i := 0) X 0 (dkX12_has (0, .iload_n 0, 1) (pgm 0 rfl)) rfl rfl ?_
  refine so_iload_n (i := 1) X 1 (dkX12_has (1, .iload_n 1, 1) (pgm 1 rfl)) rfl rfl ?_
  refine so_ishr X (dkX12_has (2, .ishr, 1) (pgm 2 rfl)) ?_
  refine so_iconst (v := (1 : Int32)) X (dkX12_has (3, .iconst 1, 1) (pgm 3 rfl)) ic_1 ?_
  refine so_iand X (dkX12_has (4, .iand, 1) (pgm 4 rfl)) ?_
  refine so_iconst (v := (1 : Int32)) X (dkX12_has (5, .iconst 1, 1) (pgm 5 rfl)) ic_1 ?_
  refine so_join (jf := fun (t1 : Int32) (h2 : PH) => zr t1 h2) (fun (j : Int32 → PH → Option (Int32 × PH)) => ∀ (t1 : Int32) (h2 : PH), SWo (QM mkI below args s D cA ad A) p l e (rmd 0) s m args below meth c 0 0 2 D cA ad A 14 [] [.int t1] h2 (j t1 h2)) ?_ (fun j14 hj14 => ?_)
  · intro t1 h2
    exact so_zret X hr hlk (dkX12_has (14, .ireturn, 1) (pgm 10 rfl))
  refine so_icmp_ne (tgt := 13) X (dkX12_has (6, .if_icmp .ne 7, 3) (pgm 6 rfl)) rfl (fun _ => ?_) (fun _ => ?_)
  · refine so_iconst (v := (0 : Int32)) X (dkX12_has (13, .iconst 0, 1) (pgm 9 rfl)) ic_0 ?_
    exact so_pick X [] rfl (hj14 (0 : Int32) h0)
  · refine so_iconst (v := (1 : Int32)) X (dkX12_has (9, .iconst 1, 1) (pgm 7 rfl)) ic_1 ?_
    refine so_goto (tgt := 14) X (dkX12_has (10, .goto 4, 3) (pgm 8 rfl)) rfl ?_
    exact so_pick X [] rfl (hj14 (1 : Int32) h0)
def pgX12_size : List (Nat × Instr × Nat) := [(0, .iconst 0, 1), (1, .istore_n 1, 1), (2, .iload_n 0, 1), (3, .istore_n 2, 1), (4, .iload_n 2, 1), (5, .ifCond .eq 15, 3), (8, .iinc 1 1, 3), (11, .iload_n 2, 1), (12, .iload_n 2, 1), (13, .iconst 1, 1), (14, .isub, 1), (15, .iand, 1), (16, .istore_n 2, 1), (17, .goto (-13), 3), (20, .iload_n 1, 1), (21, .ireturn, 1)]
theorem dkX12_size : ∀ q ∈ pgX12_size, decode cX12_size q.1 = .ok q.2 := by decide +kernel
def b_X12_size_4 (rec4 : (Int32 × Int32) → PH → Option (Int32 × PH)) (s4 : Int32 × Int32) (hh4 : PH) : Option (Int32 × PH) :=
  if s4.2 = 0 then (some (s4.1, hh4)) else (lt (s4.1 + Int32.ofInt 1) (fun (x3 : Int32) => lt (s4.2 &&& (s4.2 - (1 : Int32))) (fun (x4 : Int32) => rec4 (x3, x4) hh4)))
def f_X12_size (a1 : Int32) (h0 : PH) : Option (Int32 × PH) :=
  lt (0 : Int32) (fun (x1 : Int32) => lt a1 (fun (x2 : Int32) => lp (b_X12_size_4) FU (x1, x2) h0))
set_option maxRecDepth 100000 in
set_option maxHeartbeats 4000000 in
theorem ct_X12_size (l : Launch) (a1 : Int32) (h0 : PH)  : CT mkI l yX12_size cX12_size 3 (some .int) (rmd 0) [.int a1] h0 (f_X12_size a1 h0) := by
  refine ct_of (by decide) (Nat.le_of_ble_eq_true rfl) ?_
  intro p e s m args below meth c D cA ad A X hr hlk
  have X : Cx p s m args c RX12 cX12_size 3 D cA ad A := X
  unfold f_X12_size
  refine so_pick (L' := [(0, .int a1)]) X [0] rfl ?_
  refine so_iconst (v := (0 : Int32)) X (dkX12_size (0, .iconst 0, 1) (pgm 0 rfl)) ic_0 ?_
  refine so_istore_n (i := 1) X (dkX12_size (1, .istore_n 1, 1) (pgm 1 rfl)) rfl (by decide) (Lf := fun x1 => [(1, .int x1), (0, .int a1)]) (fun _ => rfl) (fun x1 => ?_)
  refine so_iload_n (i := 0) X 1 (dkX12_size (2, .iload_n 0, 1) (pgm 2 rfl)) rfl rfl ?_
  refine so_istore_n (i := 2) X (dkX12_size (3, .istore_n 2, 1) (pgm 3 rfl)) rfl (by decide) (Lf := fun x2 => [(2, .int x2), (1, .int x1), (0, .int a1)]) (fun _ => rfl) (fun x2 => ?_)
  refine so_pick (L' := [(1, .int x1), (2, .int x2)]) X [1, 0] rfl ?_
  refine so_loop (body := b_X12_size_4) (fun (s4 : Int32 × Int32) => [(1, .int s4.1), (2, .int s4.2)]) (fun rec4 hrec4 s4 hh4 => ?_) FU (x1, x2) h0
  unfold b_X12_size_4
  refine so_iload_n (i := 2) X 1 (dkX12_size (4, .iload_n 2, 1) (pgm 4 rfl)) rfl rfl ?_
  refine so_if_eq (tgt := 20) X (dkX12_size (5, .ifCond .eq 15, 3) (pgm 5 rfl)) rfl (fun _ => ?_) (fun _ => ?_)
  · refine so_iload_n (i := 1) X 0 (dkX12_size (20, .iload_n 1, 1) (pgm 14 rfl)) rfl rfl ?_
    exact so_iret X hr hlk (dkX12_size (21, .ireturn, 1) (pgm 15 rfl))
  · refine so_iinc (i := 1) X 0 (dkX12_size (8, .iinc 1 1, 3) (pgm 6 rfl)) rfl rfl (by decide) (Lf := fun x3 => [(1, .int x3), (2, .int s4.2)]) (fun _ => rfl) (fun x3 => ?_)
    refine so_iload_n (i := 2) X 1 (dkX12_size (11, .iload_n 2, 1) (pgm 7 rfl)) rfl rfl ?_
    refine so_iload_n (i := 2) X 1 (dkX12_size (12, .iload_n 2, 1) (pgm 8 rfl)) rfl rfl ?_
    refine so_iconst (v := (1 : Int32)) X (dkX12_size (13, .iconst 1, 1) (pgm 9 rfl)) ic_1 ?_
    refine so_isub X (dkX12_size (14, .isub, 1) (pgm 10 rfl)) ?_
    refine so_iand X (dkX12_size (15, .iand, 1) (pgm 11 rfl)) ?_
    refine so_istore_n (i := 2) X (dkX12_size (16, .istore_n 2, 1) (pgm 12 rfl)) rfl (by decide) (Lf := fun x4 => [(2, .int x4), (1, .int x3)]) (fun _ => rfl) (fun x4 => ?_)
    refine so_goto (tgt := 4) X (dkX12_size (17, .goto (-13), 3) (pgm 13 rfl)) rfl ?_
    exact so_pick X [1, 0] rfl (hrec4 (x3, x4) hh4)
